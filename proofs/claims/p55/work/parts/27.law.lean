/-! ===== THE LAW OF P55 IN PURE WORDS: what its methods do to the memory (printed by a program out of its Java source) ===== -/
/-- the class's cells out of one memory, the rest out of another -/
def putM (d n : Nat) (m m1 : Mem) : Mem := fun c i => if d ≤ c ∧ c < d + n then m1 (c - d) i else m c i
/-- what a call answers that may throw: the answer, or a number of the exception -/
def hres (exs : List Nat) (r : (Int ⊕ Nat) × Mem) : Int := match r.1 with
  | .inl v => v
  | .inr x => -900001 - (exs.idxOf x : Nat)
def hresB (exs : List Nat) (r : (Int ⊕ Nat) × Mem) : Int := match r.1 with
  | .inl v => if v = 0 then 0 else 1
  | .inr x => -900001 - (exs.idxOf x : Nat)
noncomputable def P_stop (p0 : Int) (m : Mem) : Option (Int × Mem) :=
  (C_stop p0 m).bind fun r =>
  grd (∀ x, r.1 = .inr x → x ∈ ([0, 1] : List Nat)) <|
  some (hres [0, 1] r, putM 0 455 m r.2)
noncomputable def P_walk (p0 : Int) (p1 : Int) (p2 : Int) (m : Mem) : Option (Int × Mem) :=
  (C_walk p0 p1 p2 m).bind fun r =>
  grd (∀ x, r.1 = .inr x → x ∈ ([2, 0] : List Nat)) <|
  some (hres [2, 0] r, putM 0 455 m r.2)
noncomputable def P_service  (m : Mem) : Option (Int × Mem) :=
  (C_service m).bind fun r =>
  grd (∀ x, r.1 = .inr x → x ∈ ([1] : List Nat)) <|
  some (hres [1] r, putM 0 455 m r.2)
noncomputable def P_week (p0 : Int) (p1 : Int) (p2 : Int) (p3 : Int) (m : Mem) : Option (Int × Mem) :=
  (C_week p0 p1 p2 p3 m).bind fun r =>
  grd (∀ x, r.1 = .inr x → x ∈ ([2, 0] : List Nat)) <|
  some (hres [2, 0] r, putM 0 455 m r.2)
noncomputable def P_putDay (p0 : Int) (p1 : Int) (p2 : Int) (m : Mem) : Option (Int × Mem) :=
  (C_putDay p0 p1 p2 m).bind fun r =>
  grd (∀ x, r.1 = .inr x → x ∈ ([2, 0] : List Nat)) <|
  some (hresB [2, 0] r, putM 0 455 m r.2)
noncomputable def P_trip (p0 : Int) (p1 : Int) (p2 : Int) (m : Mem) : Option (Int × Mem) :=
  (C_trip p0 p1 p2 m).bind fun r =>
  grd (∀ x, r.1 = .inr x → x ∈ ([2, 0, 1] : List Nat)) <|
  some (hres [2, 0, 1] r, putM 0 455 m r.2)
noncomputable def P_call (p0 : Int) (p1 : Int) (p2 : Int) (p3 : Int) (m : Mem) : Option (Int × Mem) :=
  (C_call p0 p1 p2 p3 m).bind fun r =>
  grd (∀ x, r.1 = .inr x → x ∈ ([2, 0, 1] : List Nat)) <|
  some (hres [2, 0, 1] r, putM 0 455 m r.2)
noncomputable def P_earliest (p0 : Int) (p1 : Int) (p2 : Int) (p3 : Int) (m : Mem) : Option (Int × Mem) :=
  (C_earliest p0 p1 p2 p3 m).bind fun r =>
  grd (∀ x, r.1 = .inr x → x ∈ ([2, 0, 5] : List Nat)) <|
  some (hres [2, 0, 5] r, putM 0 455 m r.2)
noncomputable def P_earliestByQueue (p0 : Int) (p1 : Int) (p2 : Int) (p3 : Int) (m : Mem) : Option (Int × Mem) :=
  (C_earliestByQueue p0 p1 p2 p3 m).bind fun r =>
  grd (∀ x, r.1 = .inr x → x ∈ ([2, 0, 5] : List Nat)) <|
  some (hres [2, 0, 5] r, putM 0 455 m r.2)
noncomputable def P_earliestByRounds (p0 : Int) (p1 : Int) (p2 : Int) (p3 : Int) (m : Mem) : Option (Int × Mem) :=
  (C_earliestByRounds p0 p1 p2 p3 m).bind fun r =>
  grd (∀ x, r.1 = .inr x → x ∈ ([2, 0, 5] : List Nat)) <|
  some (hres [2, 0, 5] r, putM 0 455 m r.2)
noncomputable def P_wall (p0 : Int) (p1 : Int) (p2 : Int) (p3 : Int) (m : Mem) : Option (Int × Mem) :=
  (C_wall p0 p1 p2 p3 m).bind fun r =>
  grd (∀ x, r.1 = .inr x → x ∈ ([2, 0] : List Nat)) <|
  some (hres [2, 0] r, putM 0 455 m r.2)
noncomputable def P_last (p0 : Int) (p1 : Int) (p2 : Int) (p3 : Int) (m : Mem) : Option (Int × Mem) :=
  (C_last p0 p1 p2 p3 m).bind fun r =>
  grd (∀ x, r.1 = .inr x → x ∈ ([2, 0, 5] : List Nat)) <|
  some (hres [2, 0, 5] r, putM 0 455 m r.2)
noncomputable def P_chain (p0 : Int) (p1 : Int) (p2 : Int) (p3 : Int) (m : Mem) : Option (Int × Mem) :=
  (C_chain p0 p1 p2 p3 m).bind fun r =>
  grd (∀ x, r.1 = .inr x → x ∈ ([2, 0, 5] : List Nat)) <|
  some (hres [2, 0, 5] r, putM 0 455 m r.2)
noncomputable def P_ride (p0 : Int) (p1 : Int) (m : Mem) : Option (Int × Mem) :=
  (C_ride p0 p1 m).bind fun r =>
  grd (∀ x, r.1 = .inr x → x ∈ ([0, 5] : List Nat)) <|
  some (hres [0, 5] r, putM 0 455 m r.2)
noncomputable def P_pairs (p0 : Int) (p1 : Int) (p2 : Int) (m : Mem) : Option (Int × Mem) :=
  (C_pairs p0 p1 p2 m).bind fun r =>
  grd (∀ x, r.1 = .inr x → x ∈ ([2, 0] : List Nat)) <|
  some (hres [2, 0] r, putM 0 455 m r.2)
noncomputable def P_pair (p0 : Int) (p1 : Int) (p2 : Int) (p3 : Int) (p4 : Int) (m : Mem) : Option (Int × Mem) :=
  (C_pair p0 p1 p2 p3 p4 m).bind fun r =>
  grd (∀ x, r.1 = .inr x → x ∈ ([2, 0, 5] : List Nat)) <|
  some (hres [2, 0, 5] r, putM 0 455 m r.2)
noncomputable def P_byPairs (p0 : Int) (p1 : Int) (p2 : Int) (p3 : Int) (m : Mem) : Option (Int × Mem) :=
  (C_byPairs p0 p1 p2 p3 m).bind fun r =>
  grd (∀ x, r.1 = .inr x → x ∈ ([2, 0, 5] : List Nat)) <|
  some (hres [2, 0, 5] r, putM 0 455 m r.2)
noncomputable def P_choices (p0 : Int) (p1 : Int) (p2 : Int) (p3 : Int) (m : Mem) : Option (Int × Mem) :=
  (C_choices p0 p1 p2 p3 m).bind fun r =>
  grd (∀ x, r.1 = .inr x → x ∈ ([2, 0] : List Nat)) <|
  some (hres [2, 0] r, putM 0 455 m r.2)
noncomputable def P_choice (p0 : Int) (p1 : Int) (p2 : Int) (p3 : Int) (p4 : Int) (m : Mem) : Option (Int × Mem) :=
  (C_choice p0 p1 p2 p3 p4 m).bind fun r =>
  grd (∀ x, r.1 = .inr x → x ∈ ([2, 0, 5] : List Nat)) <|
  some (hres [2, 0, 5] r, putM 0 455 m r.2)
noncomputable def P_vehicles (p0 : Int) (m : Mem) : Option (Int × Mem) :=
  (C_vehicles p0 m).bind fun r =>
  grd (∀ x, r.1 = .inr x → x ∈ ([0] : List Nat)) <|
  some (hres [0] r, putM 0 455 m r.2)
noncomputable def P_vehiclesByMatching (p0 : Int) (m : Mem) : Option (Int × Mem) :=
  (C_vehiclesByMatching p0 m).bind fun r =>
  grd (∀ x, r.1 = .inr x → x ∈ ([0] : List Nat)) <|
  some (hres [0] r, putM 0 455 m r.2)
noncomputable def P_isSound (p0 : Int) (m : Mem) : Option (Int × Mem) :=
  (C_isSound p0 m).bind fun r =>
  grd (∀ x, r.1 = .inr x → x ∈ ([0] : List Nat)) <|
  some (hresB [0] r, putM 0 455 m r.2)
noncomputable def W_draw (n_ : Int) (m : Mem) : Option (Int × Mem) :=
  ltv (setM m 455 0 (wr32 ((wr32 (1103515245 * (m 455 0))) + 12345))) fun m_ =>
  grd (0 < n_) <|
  some ((jiand (jiushr (m_ 455 0) 9) 65535).tmod n_, m_)
noncomputable def W_close_b3 (n_ : Int) (k_2 : Int) (a_2 : Int) (b_2 : Int) (m_3 : Mem) : Option ((Int × Mem) ⊕ (Int × Mem)) :=
  if b_2 < n_ then
    grd (InR (6 * a_2) ∧ InR (6 * a_2 + k_2) ∧ 0 ≤ 6 * a_2 + k_2 ∧ 6 * a_2 + k_2 < 36 ∧ InR (6 * k_2) ∧ InR (6 * k_2 + b_2) ∧ 0 ≤ 6 * k_2 + b_2 ∧ 6 * k_2 + b_2 < 36 ∧ InR (m_3 457 (6 * a_2 + k_2).toNat + (m_3 457 (6 * k_2 + b_2).toNat))) <|
    ltv (m_3 457 (6 * a_2 + k_2).toNat + (m_3 457 (6 * k_2 + b_2).toNat) : Int) fun sum_ =>
    grd (InR (6 * a_2 + b_2) ∧ 0 ≤ 6 * a_2 + b_2 ∧ 6 * a_2 + b_2 < 36) <|
    ltv (setM m_3 457 (6 * a_2 + b_2).toNat (if sum_ < m_3 457 (6 * a_2 + b_2).toNat then sum_ else m_3 457 (6 * a_2 + b_2).toNat)) fun m_4 =>
    grd (InR (b_2 + 1)) <|
    ltv (b_2 + 1) fun b_3 =>
    some (.inl (b_3, m_4))
  else
    some (.inr (b_2, m_3))
noncomputable def W_close_b2 (n_ : Int) (k_2 : Int) (a_2 : Int) (m_2 : Mem) : Option ((Int × Mem) ⊕ (Int × Mem)) :=
  if a_2 < n_ then
    ltv (0 : Int) fun b_ =>
    bq2 (loop (fun s => W_close_b3 n_ k_2 a_2 s.1 s.2) (b_, m_2)) fun b_4 m_5 =>
    grd (InR (a_2 + 1)) <|
    ltv (a_2 + 1) fun a_3 =>
    some (.inl (a_3, m_5))
  else
    some (.inr (a_2, m_2))
noncomputable def W_close_b1 (n_ : Int) (k_2 : Int) (m_ : Mem) : Option ((Int × Mem) ⊕ (Int × Mem)) :=
  if k_2 < n_ then
    ltv (0 : Int) fun a_ =>
    bq2 (loop (fun s => W_close_b2 n_ k_2 s.1 s.2) (a_, m_)) fun a_4 m_6 =>
    grd (InR (k_2 + 1)) <|
    ltv (k_2 + 1) fun k_3 =>
    some (.inl (k_3, m_6))
  else
    some (.inr (k_2, m_))
noncomputable def W_close (n_ : Int) (m : Mem) : Option Mem :=
  ltv (0 : Int) fun k_ =>
  bq2 (loop (fun s => W_close_b1 n_ s.1 s.2) (k_, m)) fun k_4 m_7 =>
  some m_7
def W_least (a_ : Int) (b_ : Int) : Int :=
  (if a_ < b_ then a_ else b_)
noncomputable def W_along_b1 (rides_ : Int) (stop_2 : Int) (time_2 : Int) (isRide_2 : Int) (k_2 : Int) (m_ : Mem) : Option ((Int × Int × Int × Int × Mem) ⊕ ((Int × Int × Int × Int × Mem) ⊕ (Int × Mem))) :=
  grd (0 ≤ k_2 ∧ k_2 ≤ 12) <|
  if k_2 < rides_ then
    bq2 (P_ride k_2 116 m_) fun r_ m_2 =>
    ltv (r_ : Int) fun trip_ =>
    bq2 (P_ride k_2 100 m_2) fun r_2 m_3 =>
    grd (InR (1440 * r_2)) <|
    ltv (1440 * r_2 : Int) fun by_ =>
    bq2 (P_ride k_2 111 m_3) fun r_3 m_4 =>
    ltv (r_3 : Int) fun on_ =>
    bq2 (P_ride k_2 102 m_4) fun r_4 m_5 =>
    ltv (r_4 : Int) fun off_ =>
    grd (InR (14 * trip_) ∧ InR (1 + 14 * trip_)) <|
    ltv (1 + 14 * trip_ : Int) fun at_ =>
    grd ((¬ (off_ ≤ on_) → 0 ≤ at_) ∧ (¬ (off_ ≤ on_) → at_ < 127)) <|
    if (off_ ≤ on_) ∨ ((m_5 458 at_.toNat = 1) ∧ (¬ by_ = 0)) then
      some (.inr (.inr ((-1), m_5)))
    else
      grd (InR (at_ + 2) ∧ InR (3 * on_) ∧ InR (at_ + 2 + 3 * on_) ∧ 0 ≤ at_ + 2 + 3 * on_ ∧ at_ + 2 + 3 * on_ < 127) <|
      ltv (m_5 458 (at_ + 2 + 3 * on_).toNat : Int) fun v_ =>
      grd ((¬ (¬ v_ = stop_2) → (¬ isRide_2 = 0) → 0 ≤ v_) ∧ (¬ (¬ v_ = stop_2) → (¬ isRide_2 = 0) → v_ < 7) ∧ (¬ (¬ v_ = stop_2) → (¬ isRide_2 = 0) → InR (time_2 + m_5 456 v_.toNat)) ∧ ((¬ v_ = stop_2) → InR (6 * stop_2)) ∧ ((¬ v_ = stop_2) → InR (6 * stop_2 + v_)) ∧ ((¬ v_ = stop_2) → 0 ≤ 6 * stop_2 + v_) ∧ ((¬ v_ = stop_2) → 6 * stop_2 + v_ < 36) ∧ ((¬ v_ = stop_2) → InR (time_2 + (m_5 457 (6 * stop_2 + v_).toNat)))) <|
      ltv ((if ¬ v_ = stop_2 then time_2 + (m_5 457 (6 * stop_2 + v_).toNat) else (if ¬ isRide_2 = 0 then time_2 + m_5 456 v_.toNat else time_2)) : Int) fun ready_ =>
      grd (InR (at_ + 4) ∧ InR (at_ + 4 + 3 * on_) ∧ 0 ≤ at_ + 4 + 3 * on_ ∧ at_ + 4 + 3 * on_ < 127 ∧ InR (m_5 458 (at_ + 4 + 3 * on_).toNat + by_)) <|
      if m_5 458 (at_ + 4 + 3 * on_).toNat + by_ < ready_ then
        some (.inr (.inr ((-1), m_5)))
      else
        grd (InR (3 * off_) ∧ InR (at_ + 2 + 3 * off_) ∧ 0 ≤ at_ + 2 + 3 * off_ ∧ at_ + 2 + 3 * off_ < 127) <|
        ltv (m_5 458 (at_ + 2 + 3 * off_).toNat : Int) fun stop_3 =>
        grd (InR (at_ + 3) ∧ InR (at_ + 3 + 3 * off_) ∧ 0 ≤ at_ + 3 + 3 * off_ ∧ at_ + 3 + 3 * off_ < 127 ∧ InR (m_5 458 (at_ + 3 + 3 * off_).toNat + by_)) <|
        ltv (m_5 458 (at_ + 3 + 3 * off_).toNat + by_ : Int) fun time_3 =>
        ltv (1 : Int) fun isRide_3 =>
        grd (InR (k_2 + 1)) <|
        ltv (k_2 + 1) fun k_3 =>
        some (.inl (stop_3, time_3, isRide_3, k_3, m_5))
  else
    some (.inr (.inl (stop_2, time_2, isRide_2, k_2, m_)))
noncomputable def W_along (rides_ : Int) (from_ : Int) (to_ : Int) (minute_ : Int) (m : Mem) : Option (Int × Mem) :=
  ltv (from_ : Int) fun stop_ =>
  ltv (minute_ : Int) fun time_ =>
  ltv (0 : Int) fun isRide_ =>
  ltv (0 : Int) fun k_ =>
  br5 (fun q9 => some q9) (loop (fun s => W_along_b1 rides_ s.1 s.2.1 s.2.2.1 s.2.2.2.1 s.2.2.2.2) (stop_, time_, isRide_, k_, m)) fun stop_4 time_4 isRide_4 k_4 m_6 =>
  grd (InR (6 * stop_4) ∧ InR (6 * stop_4 + to_) ∧ 0 ≤ 6 * stop_4 + to_ ∧ 6 * stop_4 + to_ < 36 ∧ InR (time_4 + (m_6 457 (6 * stop_4 + to_).toNat))) <|
  some (time_4 + (m_6 457 (6 * stop_4 + to_).toNat), m_6)
noncomputable def W_reach_b1 (from_ : Int) (minute_ : Int) (n_ : Int) (v_2 : Int) (m_ : Mem) : Option ((Int × Mem) ⊕ (Int × Mem)) :=
  if v_2 < n_ then
    grd (0 ≤ v_2 ∧ v_2 < 6 ∧ InR (6 * from_) ∧ InR (6 * from_ + v_2) ∧ 0 ≤ 6 * from_ + v_2 ∧ 6 * from_ + v_2 < 36 ∧ InR (minute_ + (m_ 457 (6 * from_ + v_2).toNat))) <|
    ltv (setM m_ 459 v_2.toNat (minute_ + (m_ 457 (6 * from_ + v_2).toNat))) fun m_2 =>
    ltv (setM m_2 460 v_2.toNat 1000000) fun m_3 =>
    grd (InR (v_2 + 1)) <|
    ltv (v_2 + 1) fun v_3 =>
    some (.inl (v_3, m_3))
  else
    some (.inr (v_2, m_))
noncomputable def W_reach_b5 (n_ : Int) (v_5 : Int) (comes_ : Int) (w_2 : Int) (m_10 : Mem) : Option ((Int × Mem) ⊕ (Int × Mem)) :=
  if w_2 < n_ then
    grd (InR (6 * v_5) ∧ InR (6 * v_5 + w_2) ∧ 0 ≤ 6 * v_5 + w_2 ∧ 6 * v_5 + w_2 < 36 ∧ InR (comes_ + (m_10 457 (6 * v_5 + w_2).toNat))) <|
    ltv (comes_ + (m_10 457 (6 * v_5 + w_2).toNat) : Int) fun walked_ =>
    grd (0 ≤ w_2 ∧ w_2 < 6) <|
    ltv (setM m_10 459 w_2.toNat (if (¬ w_2 = v_5) ∧ (walked_ < m_10 459 w_2.toNat) then walked_ else m_10 459 w_2.toNat)) fun m_11 =>
    grd (InR (w_2 + 1)) <|
    ltv (w_2 + 1) fun w_3 =>
    some (.inl (w_3, m_11))
  else
    some (.inr (w_2, m_10))
noncomputable def W_reach_b4 (cut_ : Int) (n_ : Int) (at_ : Int) (by_ : Int) (goesOn_5 : Int) (isOn_2 : Int) (c_2 : Int) (m_7 : Mem) : Option ((Int × Int × Int × Mem) ⊕ (Int × Int × Int × Mem)) :=
  grd (0 ≤ at_ ∧ at_ < 127 ∧ (((m_7 458 at_.toNat = 0) ∨ (by_ = 0)) → InR (at_ + 1)) ∧ (((m_7 458 at_.toNat = 0) ∨ (by_ = 0)) → 0 ≤ at_ + 1) ∧ (((m_7 458 at_.toNat = 0) ∨ (by_ = 0)) → at_ + 1 < 127)) <|
  if ((m_7 458 at_.toNat = 0) ∨ (by_ = 0)) ∧ (c_2 < m_7 458 (at_ + 1).toNat) then
    grd (InR (at_ + 2) ∧ InR (3 * c_2) ∧ InR (at_ + 2 + 3 * c_2) ∧ 0 ≤ at_ + 2 + 3 * c_2 ∧ at_ + 2 + 3 * c_2 < 127) <|
    ltv (m_7 458 (at_ + 2 + 3 * c_2).toNat : Int) fun v_5 =>
    grd (InR (at_ + 3) ∧ InR (at_ + 3 + 3 * c_2) ∧ 0 ≤ at_ + 3 + 3 * c_2 ∧ at_ + 3 + 3 * c_2 < 127 ∧ InR (m_7 458 (at_ + 3 + 3 * c_2).toNat + by_)) <|
    ltv (m_7 458 (at_ + 3 + 3 * c_2).toNat + by_ : Int) fun comes_ =>
    grd (InR (at_ + 4) ∧ InR (at_ + 4 + 3 * c_2) ∧ 0 ≤ at_ + 4 + 3 * c_2 ∧ at_ + 4 + 3 * c_2 < 127 ∧ InR (m_7 458 (at_ + 4 + 3 * c_2).toNat + by_)) <|
    ltv (m_7 458 (at_ + 4 + 3 * c_2).toNat + by_ : Int) fun goes_ =>
    ltv (fun (goesOn_6 : Int) (m_8 : Mem) =>
    grd ((¬ (¬ isOn_2 = 0) → ((0 ≤ goes_) ∧ (¬ v_5 = cut_)) → 0 ≤ v_5) ∧ (¬ (¬ isOn_2 = 0) → ((0 ≤ goes_) ∧ (¬ v_5 = cut_)) → v_5 < 6) ∧ (¬ (¬ isOn_2 = 0) → ((0 ≤ goes_) ∧ (¬ v_5 = cut_)) → ¬ (m_8 459 v_5.toNat ≤ goes_) → 0 ≤ v_5) ∧ (¬ (¬ isOn_2 = 0) → ((0 ≤ goes_) ∧ (¬ v_5 = cut_)) → ¬ (m_8 459 v_5.toNat ≤ goes_) → v_5 < 6) ∧ (¬ (¬ isOn_2 = 0) → ((0 ≤ goes_) ∧ (¬ v_5 = cut_)) → ¬ (m_8 459 v_5.toNat ≤ goes_) → v_5 < 7) ∧ (¬ (¬ isOn_2 = 0) → ((0 ≤ goes_) ∧ (¬ v_5 = cut_)) → ¬ (m_8 459 v_5.toNat ≤ goes_) → InR (m_8 460 v_5.toNat + m_8 456 v_5.toNat))) <|
    ltv ((if (¬ isOn_2 = 0) ∨ (((0 ≤ goes_) ∧ (¬ v_5 = cut_)) ∧ ((m_8 459 v_5.toNat ≤ goes_) ∨ (m_8 460 v_5.toNat + m_8 456 v_5.toNat ≤ goes_))) then 1 else 0) : Int) fun isOn_3 =>
    grd (InR (c_2 + 1)) <|
    ltv (c_2 + 1) fun c_3 =>
    some (.inl (goesOn_6, isOn_3, c_3, m_8))) fun kj_ =>
    grd ((((¬ isOn_2 = 0) ∧ (¬ v_5 = cut_)) → 0 ≤ v_5) ∧ (((¬ isOn_2 = 0) ∧ (¬ v_5 = cut_)) → v_5 < 6)) <|
    if ((¬ isOn_2 = 0) ∧ (¬ v_5 = cut_)) ∧ (comes_ < m_7 460 v_5.toNat) then
      grd (0 ≤ v_5 ∧ v_5 < 6) <|
      ltv (setM m_7 460 v_5.toNat comes_) fun m_9 =>
      ltv (1 : Int) fun goesOn_7 =>
      ltv (0 : Int) fun w_ =>
      bq2 (loop (fun s => W_reach_b5 n_ v_5 comes_ s.1 s.2) (w_, m_9)) fun w_4 m_12 =>
      kj_ goesOn_7 m_12
    else
      kj_ goesOn_5 m_7
  else
    some (.inr (goesOn_5, isOn_2, c_2, m_7))
noncomputable def W_reach_b3 (cut_ : Int) (n_ : Int) (goesOn_4 : Int) (k_2 : Int) (m_6 : Mem) : Option ((Int × Int × Mem) ⊕ (Int × Int × Mem)) :=
  grd (InR (3 * (m_6 458 0))) <|
  if k_2 < 3 * (m_6 458 0) then
    grd (InR (14 * (k_2.tdiv 3)) ∧ InR (1 + 14 * (k_2.tdiv 3))) <|
    ltv (1 + 14 * (k_2.tdiv 3) : Int) fun at_ =>
    grd (InR (k_2.tmod 3 - 1) ∧ InR (1440 * (k_2.tmod 3 - 1))) <|
    ltv (1440 * (k_2.tmod 3 - 1) : Int) fun by_ =>
    ltv (0 : Int) fun isOn_ =>
    ltv (0 : Int) fun c_ =>
    bq4 (loop (fun s => W_reach_b4 cut_ n_ at_ by_ s.1 s.2.1 s.2.2.1 s.2.2.2) (goesOn_4, isOn_, c_, m_6)) fun goesOn_8 isOn_4 c_4 m_13 =>
    grd (InR (k_2 + 1)) <|
    ltv (k_2 + 1) fun k_3 =>
    some (.inl (goesOn_8, k_3, m_13))
  else
    some (.inr (goesOn_4, k_2, m_6))
noncomputable def W_reach_b2 (cut_ : Int) (n_ : Int) (goesOn_2 : Int) (m_5 : Mem) : Option ((Int × Mem) ⊕ (Int × Mem)) :=
  if ¬ goesOn_2 = 0 then
    ltv (0 : Int) fun goesOn_3 =>
    ltv (0 : Int) fun k_ =>
    bq3 (loop (fun s => W_reach_b3 cut_ n_ s.1 s.2.1 s.2.2) (goesOn_3, k_, m_5)) fun goesOn_9 k_4 m_14 =>
    some (.inl (goesOn_9, m_14))
  else
    some (.inr (goesOn_2, m_5))
noncomputable def W_reach (from_ : Int) (minute_ : Int) (cut_ : Int) (m : Mem) : Option Mem :=
  ltv (m 456 6 : Int) fun n_ =>
  ltv (0 : Int) fun v_ =>
  bq2 (loop (fun s => W_reach_b1 from_ minute_ n_ s.1 s.2) (v_, m)) fun v_4 m_4 =>
  ltv (1 : Int) fun goesOn_ =>
  bq2 (loop (fun s => W_reach_b2 cut_ n_ s.1 s.2) (goesOn_, m_4)) fun goesOn_10 m_15 =>
  some m_15
noncomputable def W_drawn_b1 (n_ : Int) (is_2 : Int) (v_3 : Int) (m_8 : Mem) : Option ((Int × Int × Mem) ⊕ (Int × Int × Mem)) :=
  grd (0 ≤ v_3 ∧ v_3 ≤ 6) <|
  if v_3 < n_ then
    grd (v_3 < 7) <|
    bq2 (W_draw 6 m_8) fun r_6 m_9 =>
    ltv (setM m_9 456 v_3.toNat r_6) fun m_10 =>
    ltv (fun (v_4 : Int) (m_11 : Mem) =>
    ltv (jiand is_2 v_4 : Int) fun is_3 =>
    grd (InR (v_3 + 1)) <|
    ltv (v_3 + 1) fun v_5 =>
    some (.inl (is_3, v_5, m_11))) fun kj_2 =>
    bq2 (P_stop (m_10 456 v_3.toNat) m_10) fun r_7 m_12 =>
    if r_7 = v_3 then
      kj_2 1 m_12
    else
      kj_2 0 m_12
  else
    some (.inr (is_2, v_3, m_8))
noncomputable def W_drawn_b3 (n_ : Int) (a_2 : Int) (b_2 : Int) (m_15 : Mem) : Option ((Int × Mem) ⊕ (Int × Mem)) :=
  if b_2 < n_ then
    grd (InR (6 * a_2) ∧ InR (6 * a_2 + b_2) ∧ 0 ≤ 6 * a_2 + b_2 ∧ 6 * a_2 + b_2 < 36) <|
    ltv (setM m_15 457 (6 * a_2 + b_2).toNat (if a_2 = b_2 then 0 else 1000000)) fun m_16 =>
    grd (InR (b_2 + 1)) <|
    ltv (b_2 + 1) fun b_3 =>
    some (.inl (b_3, m_16))
  else
    some (.inr (b_2, m_15))
noncomputable def W_drawn_b2 (n_ : Int) (a_2 : Int) (m_14 : Mem) : Option ((Int × Mem) ⊕ (Int × Mem)) :=
  if a_2 < n_ then
    ltv (0 : Int) fun b_ =>
    bq2 (loop (fun s => W_drawn_b3 n_ a_2 s.1 s.2) (b_, m_14)) fun b_4 m_17 =>
    grd (InR (a_2 + 1)) <|
    ltv (a_2 + 1) fun a_3 =>
    some (.inl (a_3, m_17))
  else
    some (.inr (a_2, m_14))
noncomputable def W_drawn_b5 (n_ : Int) (a_6 : Int) (is_6 : Int) (b_6 : Int) (m_20 : Mem) : Option ((Int × Int × Mem) ⊕ (Int × Int × Mem)) :=
  grd (0 ≤ b_6 ∧ b_6 ≤ 6) <|
  if b_6 < n_ then
    bq2 (W_draw 4 m_20) fun r_8 m_21 =>
    if r_8 = 0 then
      bq2 (W_draw 20 m_21) fun r_9 m_22 =>
      grd (InR (1 + r_9)) <|
      ltv (1 + r_9 : Int) fun minutes_ =>
      grd (InR (6 * a_6) ∧ InR (6 * a_6 + b_6) ∧ 0 ≤ 6 * a_6 + b_6 ∧ 6 * a_6 + b_6 < 36) <|
      ltv (setM m_22 457 (6 * a_6 + b_6).toNat minutes_) fun m_23 =>
      grd (InR (6 * b_6) ∧ InR (6 * b_6 + a_6) ∧ 0 ≤ 6 * b_6 + a_6 ∧ 6 * b_6 + a_6 < 36) <|
      ltv (setM m_23 457 (6 * b_6 + a_6).toNat minutes_) fun m_24 =>
      ltv (fun (v_7 : Int) (m_25 : Mem) =>
      ltv (jiand is_6 v_7 : Int) fun is_7 =>
      grd (InR (b_6 + 1)) <|
      ltv (b_6 + 1) fun b_8 =>
      some (.inl (is_7, b_8, m_25))) fun kj_3 =>
      bq2 (P_walk a_6 b_6 minutes_ m_24) fun r_10 m_26 =>
      if r_10 = 0 then
        kj_3 1 m_26
      else
        kj_3 0 m_26
    else
      grd (InR (b_6 + 1)) <|
      ltv (b_6 + 1) fun b_7 =>
      some (.inl (is_6, b_7, m_21))
  else
    some (.inr (is_6, b_6, m_20))
noncomputable def W_drawn_b4 (n_ : Int) (is_5 : Int) (a_6 : Int) (m_19 : Mem) : Option ((Int × Int × Mem) ⊕ (Int × Int × Mem)) :=
  grd (0 ≤ a_6 ∧ a_6 ≤ 6) <|
  if a_6 < n_ then
    grd (InR (a_6 + 1)) <|
    ltv (a_6 + 1 : Int) fun b_5 =>
    bq3 (loop (fun s => W_drawn_b5 n_ a_6 s.1 s.2.1 s.2.2) (is_5, b_5, m_19)) fun is_8 b_9 m_27 =>
    grd (InR (a_6 + 1)) <|
    ltv (a_6 + 1) fun a_7 =>
    some (.inl (is_8, a_7, m_27))
  else
    some (.inr (is_5, a_6, m_19))
noncomputable def W_drawn_b7 (n_ : Int) (k_2 : Int) (at_ : Int) (is_11 : Int) (time_2 : Int) (v_10 : Int) (c_2 : Int) (m_39 : Mem) : Option ((Int × Int × Int × Int × Mem) ⊕ (Int × Int × Int × Int × Mem)) :=
  grd (0 ≤ c_2 ∧ c_2 ≤ 4 ∧ InR (at_ + 1) ∧ 0 ≤ at_ + 1 ∧ at_ + 1 < 127) <|
  if c_2 < m_39 458 (at_ + 1).toNat then
    grd (InR (at_ + 2) ∧ InR (3 * c_2) ∧ InR (at_ + 2 + 3 * c_2) ∧ 0 ≤ at_ + 2 + 3 * c_2 ∧ at_ + 2 + 3 * c_2 < 127) <|
    ltv (setM m_39 458 (at_ + 2 + 3 * c_2).toNat v_10) fun m_40 =>
    grd (InR (at_ + 3) ∧ InR (at_ + 3 + 3 * c_2) ∧ 0 ≤ at_ + 3 + 3 * c_2 ∧ at_ + 3 + 3 * c_2 < 127) <|
    ltv (setM m_40 458 (at_ + 3 + 3 * c_2).toNat time_2) fun m_41 =>
    ltv (fun (v_11 : Int) (m_42 : Mem) =>
    grd (InR (time_2 + v_11)) <|
    ltv (time_2 + v_11 : Int) fun time_3 =>
    grd (InR (at_ + 4) ∧ InR (at_ + 4 + 3 * c_2) ∧ 0 ≤ at_ + 4 + 3 * c_2 ∧ at_ + 4 + 3 * c_2 < 127) <|
    ltv (setM m_42 458 (at_ + 4 + 3 * c_2).toNat time_3) fun m_44 =>
    ltv (fun (v_12 : Int) (m_45 : Mem) =>
    ltv (jiand is_11 v_12 : Int) fun is_12 =>
    bq2 (W_draw 25 m_45) fun r_19 m_50 =>
    grd (InR (3 + r_19) ∧ InR (time_3 + (3 + r_19))) <|
    ltv (time_3 + (3 + r_19) : Int) fun time_4 =>
    grd (InR (v_10 + 1) ∧ InR (n_ - 1)) <|
    bq2 (W_draw (n_ - 1) m_50) fun r_20 m_51 =>
    grd (InR (v_10 + 1 + r_20) ∧ 0 < n_) <|
    ltv ((v_10 + 1 + r_20).tmod n_ : Int) fun v_15 =>
    grd (InR (c_2 + 1)) <|
    ltv (c_2 + 1) fun c_3 =>
    some (.inl (is_12, time_4, v_15, c_3, m_51))) fun kj_6 =>
    if c_2 = 0 then
      grd (0 ≤ at_ ∧ at_ < 127) <|
      ltv (fun (v_14 : Int) (m_48 : Mem) =>
      kj_6 v_14 m_48) fun kj_8 =>
      bq2 (P_trip (m_44 458 at_.toNat) v_10 time_3 m_44) fun r_18 m_49 =>
      if r_18 = k_2 then
        kj_8 1 m_49
      else
        kj_8 0 m_49
    else
      ltv (fun (v_13 : Int) (m_46 : Mem) =>
      kj_6 v_13 m_46) fun kj_7 =>
      bq2 (P_call k_2 v_10 (m_44 458 (at_ + 3 + 3 * c_2).toNat) time_3 m_44) fun r_17 m_47 =>
      grd (InR (c_2 + 1)) <|
      if r_17 = c_2 + 1 then
        kj_7 1 m_47
      else
        kj_7 0 m_47) fun kj_5 =>
    if c_2 = 0 then
      kj_5 0 m_41
    else
      bq2 (W_draw 4 m_41) fun r_16 m_43 =>
      kj_5 r_16 m_43
  else
    some (.inr (is_11, time_2, v_10, c_2, m_39))
noncomputable def W_drawn_b6 (n_ : Int) (trips_ : Int) (is_10 : Int) (k_2 : Int) (m_31 : Mem) : Option ((Int × Int × Mem) ⊕ (Int × Int × Mem)) :=
  grd (0 ≤ k_2 ∧ k_2 ≤ 9) <|
  if k_2 < trips_ then
    grd (InR (14 * k_2) ∧ InR (1 + 14 * k_2)) <|
    ltv (1 + 14 * k_2 : Int) fun at_ =>
    grd (0 ≤ at_ ∧ at_ < 127) <|
    ltv (fun (v_8 : Int) (m_32 : Mem) =>
    ltv (setM m_32 458 at_.toNat v_8) fun m_34 =>
    grd (InR (at_ + 1) ∧ 0 ≤ at_ + 1 ∧ at_ + 1 < 127) <|
    bq2 (W_draw 3 m_34) fun r_13 m_35 =>
    grd (InR (2 + r_13)) <|
    ltv (setM m_35 458 (at_ + 1).toNat (2 + r_13)) fun m_36 =>
    bq2 (W_draw 130 m_36) fun r_14 m_37 =>
    grd (InR (430 + r_14)) <|
    ltv (430 + r_14 : Int) fun time_ =>
    bq2 (W_draw n_ m_37) fun r_15 m_38 =>
    ltv (r_15 : Int) fun v_9 =>
    ltv (0 : Int) fun c_ =>
    bq5 (loop (fun s => W_drawn_b7 n_ k_2 at_ s.1 s.2.1 s.2.2.1 s.2.2.2.1 s.2.2.2.2) (is_10, time_, v_9, c_, m_38)) fun is_13 time_5 v_16 c_4 m_52 =>
    grd (InR (k_2 + 1)) <|
    ltv (k_2 + 1) fun k_3 =>
    some (.inl (is_13, k_3, m_52))) fun kj_4 =>
    bq2 (W_draw 3 m_31) fun r_12 m_33 =>
    if r_12 = 0 then
      kj_4 1 m_33
    else
      kj_4 0 m_33
  else
    some (.inr (is_10, k_2, m_31))
noncomputable def W_drawn  (m : Mem) : Option (Int × Mem) :=
  bq2 (W_draw 3 m) fun r_ m_ =>
  grd (InR (4 + r_)) <|
  ltv (4 + r_ : Int) fun n_ =>
  ltv (setM m_ 456 6 n_) fun m_2 =>
  ltv (fun (v_ : Int) (m_3 : Mem) =>
  ltv (v_ : Int) fun is_ =>
  ltv (0 : Int) fun v_2 =>
  bq3 (loop (fun s => W_drawn_b1 n_ s.1 s.2.1 s.2.2) (is_, v_2, m_3)) fun is_4 v_6 m_13 =>
  ltv (0 : Int) fun a_ =>
  bq2 (loop (fun s => W_drawn_b2 n_ s.1 s.2) (a_, m_13)) fun a_4 m_18 =>
  ltv (0 : Int) fun a_5 =>
  bq3 (loop (fun s => W_drawn_b4 n_ s.1 s.2.1 s.2.2) (is_4, a_5, m_18)) fun is_9 a_8 m_28 =>
  bq2 (W_draw 7 m_28) fun r_11 m_29 =>
  grd (InR (3 + r_11)) <|
  ltv (3 + r_11 : Int) fun trips_ =>
  ltv (setM m_29 458 0 trips_) fun m_30 =>
  ltv (0 : Int) fun k_ =>
  bq3 (loop (fun s => W_drawn_b6 n_ trips_ s.1 s.2.1 s.2.2) (is_9, k_, m_30)) fun is_14 k_4 m_53 =>
  grd ((is_14 = 0 ∨ is_14 = 1)) <|
  some (is_14, m_53)) fun kj_ =>
  bq2 (P_service m_2) fun r_2 m_4 =>
  if r_2 = 0 then
    bq2 (P_service m_4) fun r_3 m_5 =>
    if r_3 = 1 then
      bq2 (P_week 0 127 9 11 m_5) fun r_4 m_6 =>
      if r_4 = 3 then
        bq2 (P_putDay 1 10 1 m_6) fun r_5 m_7 =>
        if r_5 = 0 then
          kj_ 1 m_7
        else
          kj_ 0 m_7
      else
        kj_ 0 m_6
    else
      kj_ 0 m_5
  else
    kj_ 0 m_4
noncomputable def W_asked_b1 (due_ : Int) (m_8 : Mem) (set_2 : Int) (v_4 : Int) : Option ((Int × Int) ⊕ (Int × Int)) :=
  if v_4 < m_8 456 6 then
    grd (0 ≤ v_4 ∧ v_4 < 6) <|
    ltv (jior set_2 (if W_least (m_8 459 v_4.toNat) (m_8 460 v_4.toNat) < due_ then jishl 1 v_4 else 0) : Int) fun set_3 =>
    grd (InR (v_4 + 1)) <|
    ltv (v_4 + 1) fun v_5 =>
    some (.inl (set_3, v_5))
  else
    some (.inr (set_2, v_4))
noncomputable def W_asked (from_ : Int) (to_ : Int) (minute_ : Int) (m : Mem) : Option (Int × Mem) :=
  grd (0 ≤ to_ ∧ to_ < 6) <|
  ltv (W_least (m 459 to_.toNat) (m 460 to_.toNat) : Int) fun due_ =>
  bq2 (P_earliest from_ to_ 10 minute_ m) fun r_ m_ =>
  ltv (r_ : Int) fun told_ =>
  ltv (fun (v_ : Int) (m_2 : Mem) =>
  ltv (v_ : Int) fun is_ =>
  bq2 (P_choices from_ to_ 10 minute_ m_2) fun r_5 m_6 =>
  ltv (r_5 : Int) fun choices_ =>
  if 1000000 ≤ due_ then
    if (¬ is_ = 0) ∧ (choices_ = 0) then
      bq2 (P_chain from_ to_ 10 minute_ m_6) fun r_13 m_19 =>
      if r_13 = (-900003) then
        some (1, m_19)
      else
        some (0, m_19)
    else
      some (0, m_6)
  else
    bq2 (P_chain from_ to_ 10 minute_ m_6) fun r_6 m_7 =>
    ltv (r_6 : Int) fun rides_ =>
    ltv (fun (v_2 : Int) (m_8 : Mem) =>
    ltv (jiand is_ v_2 : Int) fun is_2 =>
    ltv (0 : Int) fun set_ =>
    ltv (0 : Int) fun v_3 =>
    bq2 (loop (fun s => W_asked_b1 due_ m_8 s.1 s.2) (set_, v_3)) fun set_4 v_6 =>
    ltv (fun (v_7 : Int) (m_11 : Mem) =>
    ltv (jiand is_2 v_7 : Int) fun is_3 =>
    ltv (fun (is_4 : Int) (m_13 : Mem) =>
    grd ((is_4 = 0 ∨ is_4 = 1)) <|
    some (is_4, m_13)) fun kj_4 =>
    if due_ < 2880 then
      bq2 (P_last from_ to_ 10 due_ m_11) fun r_10 m_14 =>
      ltv (r_10 : Int) fun last_ =>
      ltv (fun (v_8 : Int) (m_15 : Mem) =>
      ltv (v_8 : Int) fun then_ =>
      ltv (jiand is_3 (if ((minute_ ≤ last_) ∧ (0 ≤ then_)) ∧ (then_ ≤ due_) then 1 else 0) : Int) fun is_5 =>
      ltv (fun (v_9 : Int) (m_17 : Mem) =>
      ltv (v_9 : Int) fun later_ =>
      ltv (jiand is_5 (if (later_ < 0) ∨ (due_ < later_) then 1 else 0) : Int) fun is_6 =>
      kj_4 is_6 m_17) fun kj_6 =>
      if last_ < 1439 then
        grd (InR (last_ + 1)) <|
        bq2 (P_earliest from_ to_ 10 (last_ + 1) m_15) fun r_12 m_18 =>
        kj_6 r_12 m_18
      else
        kj_6 (-1) m_15) fun kj_5 =>
      if last_ < 1440 then
        bq2 (P_earliest from_ to_ 10 last_ m_14) fun r_11 m_16 =>
        kj_5 r_11 m_16
      else
        kj_5 due_ m_14
    else
      kj_4 is_3 m_11) fun kj_3 =>
    bq2 (P_wall from_ 10 minute_ due_ m_8) fun r_9 m_12 =>
    if r_9 = set_4 then
      kj_3 1 m_12
    else
      kj_3 0 m_12) fun kj_2 =>
    if 0 ≤ rides_ then
      bq2 (W_along rides_ from_ to_ minute_ m_7) fun r_7 m_9 =>
      if r_7 = due_ then
        grd (InR (choices_ - 1)) <|
        bq2 (P_choice from_ to_ 10 minute_ (choices_ - 1) m_9) fun r_8 m_10 =>
        grd (InR (5000 * rides_) ∧ InR (5000 * rides_ + due_)) <|
        if r_8 = 5000 * rides_ + due_ then
          kj_2 1 m_10
        else
          kj_2 0 m_10
      else
        kj_2 0 m_9
    else
      kj_2 0 m_7) fun kj_ =>
  if told_ = (if 1000000 ≤ due_ then (-900003) else due_) then
    bq2 (P_earliestByQueue from_ to_ 10 minute_ m_) fun r_2 m_3 =>
    if r_2 = told_ then
      bq2 (P_earliestByRounds from_ to_ 10 minute_ m_3) fun r_3 m_4 =>
      if r_3 = told_ then
        bq2 (P_byPairs from_ to_ 10 minute_ m_4) fun r_4 m_5 =>
        if r_4 = told_ then
          kj_ 1 m_5
        else
          kj_ 0 m_5
      else
        kj_ 0 m_4
    else
      kj_ 0 m_3
  else
    kj_ 0 m_
noncomputable def W_rise_b2 (to_ : Int) (m_10 : Mem) (due_2 : Int) (v_4 : Int) : Option ((Int × Int) ⊕ (Int × Int)) :=
  if v_4 < m_10 456 6 then
    grd (0 ≤ v_4 ∧ v_4 < 6 ∧ InR (6 * v_4) ∧ InR (6 * v_4 + to_) ∧ 0 ≤ 6 * v_4 + to_ ∧ 6 * v_4 + to_ < 36 ∧ InR (m_10 460 v_4.toNat + (m_10 457 (6 * v_4 + to_).toNat))) <|
    ltv (W_least due_2 (m_10 460 v_4.toNat + (m_10 457 (6 * v_4 + to_).toNat)) : Int) fun due_3 =>
    grd (InR (v_4 + 1)) <|
    ltv (v_4 + 1) fun v_5 =>
    some (.inl (due_3, v_5))
  else
    some (.inr (due_2, v_4))
noncomputable def W_rise_b1 (from_ : Int) (to_ : Int) (many_ : Int) (is_2 : Int) (k_2 : Int) (m_4 : Mem) : Option ((Int × Int × Mem) ⊕ (Int × Int × Mem)) :=
  grd (0 ≤ k_2 ∧ k_2 ≤ 600) <|
  if k_2 < many_ then
    bq2 (P_pair from_ to_ 10 k_2 0 m_4) fun r_3 m_5 =>
    ltv (r_3 : Int) fun leave_ =>
    bq2 (P_pair from_ to_ 10 k_2 1 m_5) fun r_4 m_6 =>
    ltv (r_4 : Int) fun come_ =>
    ltv (fun (v_2 : Int) (m_7 : Mem) =>
    ltv (jiand is_2 v_2 : Int) fun is_3 =>
    (W_reach from_ leave_ (-1) m_7).bind fun m_10 =>
    ltv (1000000 : Int) fun due_ =>
    ltv (0 : Int) fun v_3 =>
    bq2 (loop (fun s => W_rise_b2 to_ m_10 s.1 s.2) (due_, v_3)) fun due_4 v_6 =>
    ltv (jiand is_3 (if due_4 = come_ then 1 else 0) : Int) fun is_4 =>
    grd (InR (k_2 + 1)) <|
    ltv (k_2 + 1) fun k_3 =>
    some (.inl (is_4, k_3, m_10))) fun kj_2 =>
    if (0 ≤ leave_) ∧ (leave_ < come_) then
      if k_2 = 0 then
        kj_2 1 m_6
      else
        grd (InR (k_2 - 1)) <|
        bq2 (P_pair from_ to_ 10 (k_2 - 1) 0 m_6) fun r_5 m_8 =>
        if r_5 < leave_ then
          bq2 (P_pair from_ to_ 10 (k_2 - 1) 1 m_8) fun r_6 m_9 =>
          if r_6 < come_ then
            kj_2 1 m_9
          else
            kj_2 0 m_9
        else
          kj_2 0 m_8
    else
      kj_2 0 m_6
  else
    some (.inr (is_2, k_2, m_4))
noncomputable def W_rise (from_ : Int) (to_ : Int) (m : Mem) : Option (Int × Mem) :=
  bq2 (P_pairs from_ to_ 10 m) fun r_ m_ =>
  ltv (r_ : Int) fun many_ =>
  ltv (fun (v_ : Int) (m_2 : Mem) =>
  ltv (v_ : Int) fun is_ =>
  ltv (0 : Int) fun k_ =>
  bq3 (loop (fun s => W_rise_b1 from_ to_ many_ s.1 s.2.1 s.2.2) (is_, k_, m_2)) fun is_5 k_4 m_11 =>
  grd ((is_5 = 0 ∨ is_5 = 1)) <|
  some (is_5, m_11)) fun kj_ =>
  if 0 ≤ many_ then
    bq2 (P_pair from_ to_ 10 many_ 1 m_) fun r_2 m_3 =>
    if r_2 = (-900003) then
      kj_ 1 m_3
    else
      kj_ 0 m_3
  else
    kj_ 0 m_
noncomputable def W_law_b2 (n_ : Int) (from_ : Int) (minute_ : Int) (is_3 : Int) (to_2 : Int) (m_9 : Mem) : Option ((Int × Int × Mem) ⊕ (Int × Int × Mem)) :=
  grd (0 ≤ to_2 ∧ to_2 ≤ 6) <|
  if to_2 < n_ then
    bq2 (W_asked from_ to_2 minute_ m_9) fun r_5 m_10 =>
    ltv (jiand is_3 r_5 : Int) fun is_4 =>
    grd (InR (to_2 + 1)) <|
    ltv (to_2 + 1) fun to_3 =>
    some (.inl (is_4, to_3, m_10))
  else
    some (.inr (is_3, to_2, m_9))
noncomputable def W_law_b1 (n_ : Int) (is_2 : Int) (k_2 : Int) (m_3 : Mem) : Option ((Int × Int × Mem) ⊕ (Int × Int × Mem)) :=
  grd (0 ≤ k_2 ∧ k_2 ≤ 3) <|
  if k_2 < 3 then
    bq2 (W_draw n_ m_3) fun r_2 m_4 =>
    ltv (r_2 : Int) fun from_ =>
    ltv (fun (v_ : Int) (m_5 : Mem) =>
    ltv (v_ : Int) fun minute_ =>
    (W_reach from_ minute_ (-1) m_5).bind fun m_8 =>
    ltv (0 : Int) fun to_ =>
    bq3 (loop (fun s => W_law_b2 n_ from_ minute_ s.1 s.2.1 s.2.2) (is_2, to_, m_8)) fun is_5 to_4 m_11 =>
    grd (InR (from_ + 1) ∧ InR (n_ - 1)) <|
    bq2 (W_draw (n_ - 1) m_11) fun r_6 m_12 =>
    grd (InR (from_ + 1 + r_6) ∧ 0 < n_) <|
    ltv ((from_ + 1 + r_6).tmod n_ : Int) fun other_ =>
    bq2 (W_rise from_ other_ m_12) fun r_7 m_13 =>
    ltv (jiand is_5 r_7 : Int) fun is_6 =>
    grd (InR (k_2 + 1)) <|
    ltv (k_2 + 1) fun k_3 =>
    some (.inl (is_6, k_3, m_13))) fun kj_ =>
    if k_2 = 0 then
      bq2 (W_draw 1440 m_4) fun r_4 m_7 =>
      kj_ r_4 m_7
    else
      bq2 (W_draw 200 m_4) fun r_3 m_6 =>
      grd (InR (400 + r_3)) <|
      kj_ (400 + r_3) m_6
  else
    some (.inr (is_2, k_2, m_3))
noncomputable def W_law (m : Mem) : Option (Int × Mem) :=
  bq2 (W_drawn m) fun r_ m_ =>
  ltv (r_ : Int) fun is_ =>
  ltv (m_ 456 6 : Int) fun n_ =>
  (W_close n_ m_).bind fun m_2 =>
  ltv (0 : Int) fun k_ =>
  bq3 (loop (fun s => W_law_b1 n_ s.1 s.2.1 s.2.2) (is_, k_, m_2)) fun is_7 k_4 m_14 =>
  bq2 (P_vehicles 10 m_14) fun r_8 m_15 =>
  ltv (r_8 : Int) fun vehicles_ =>
  if ¬ is_7 = 0 then
    bq2 (P_vehiclesByMatching 10 m_15) fun r_9 m_16 =>
    if vehicles_ = r_9 then
      if vehicles_ ≤ m_16 458 0 then
        bq2 (P_isSound 10 m_16) fun r_10 m_17 =>
        if r_10 = 1 then
          some (1, m_17)
        else
          some (0, m_17)
      else
        some (0, m_16)
    else
      some (0, m_16)
  else
    some (0, m_15)
