/-! ===== printed by a program out of the Java source and the decode rows: 24.FC ===== -/
noncomputable def C_needNumber (number_ : Int) (least_ : Int) (greatest_ : Int) (m : Mem) : Option ((Unit ⊕ Nat) × Mem) :=
  if (number_ < least_) ∨ (greatest_ < number_) then
    some (.inr 0, m)
  else
    some (.inl (), m)
def rm_X11_needNumber : Room := { frames := 6, cells := 1, slots := 6, locals := 82 }
noncomputable def C_Stops_add (minutes_ : Int) (m : Mem) : Option (Int × Mem) :=
  grd (0 ≤ m 1 0 ∧ m 1 0 < 12) <|
  ltv (setM m 2 (m 1 0).toNat minutes_) fun m_ =>
  grd (InR (m_ 1 0 + 1)) <|
  ltv (setM m_ 1 0 (m_ 1 0 + 1)) fun m_2 =>
  grd (InR (m_2 1 0 - 1)) <|
  some (m_2 1 0 - 1, m_2)
def rm_X8_add : Room := { frames := 0, cells := 0, slots := 0, locals := 0 }
noncomputable def C_stop (change_ : Int) (m : Mem) : Option ((Int ⊕ Nat) × Mem) :=
  (C_needNumber change_ 0 30 m).bind fun q3 => tbd q3 fun u_ m_ =>
  if 12 ≤ m_ 1 0 then
    some (.inr 1, m_)
  else
    bq2 (C_Stops_add change_ m_) fun r_ m_2 =>
    some (.inl r_, m_2)
def rm_X11_stop : Room := { frames := 7, cells := 2, slots := 12, locals := 104 }
noncomputable def C_Stops_has (stop_ : Int) (m : Mem) : Option Int :=
  some (if (0 ≤ stop_) ∧ (stop_ < m 1 0) then 1 else 0)
def rm_X8_has : Room := { frames := 0, cells := 0, slots := 0, locals := 0 }
noncomputable def C_needStop (stop_ : Int) (m : Mem) : Option ((Unit ⊕ Nat) × Mem) :=
  (C_Stops_has stop_ m).bind fun r_ =>
  if ¬ r_ = 0 then
    some (.inl (), m)
  else
    some (.inr 2, m)
def rm_X11_needStop : Room := { frames := 6, cells := 1, slots := 6, locals := 82 }
noncomputable def C_setChange (stop_ : Int) (change_ : Int) (m : Mem) : Option ((Int ⊕ Nat) × Mem) :=
  (C_needStop stop_ m).bind fun q3 => tbd q3 fun u_ m_ =>
  (C_needNumber change_ 0 30 m_).bind fun q7 => tbd q7 fun u_2 m_2 =>
  grd (0 ≤ stop_ ∧ stop_ < 12) <|
  ltv (m_2 2 stop_.toNat : Int) fun ahead_ =>
  ltv (setM m_2 2 stop_.toNat change_) fun m_3 =>
  some (.inl ahead_, m_3)
def rm_X11_setChange : Room := { frames := 7, cells := 2, slots := 12, locals := 104 }
noncomputable def C_needUnlike (one_ : Int) (other_ : Int) (m : Mem) : Option ((Unit ⊕ Nat) × Mem) :=
  if one_ = other_ then
    some (.inr 0, m)
  else
    some (.inl (), m)
def rm_X11_needUnlike : Room := { frames := 6, cells := 1, slots := 6, locals := 82 }
noncomputable def C_walk (stop_ : Int) (other_ : Int) (minutes_ : Int) (m : Mem) : Option ((Int ⊕ Nat) × Mem) :=
  (C_needStop stop_ m).bind fun q3 => tbd q3 fun u_ m_ =>
  (C_needStop other_ m_).bind fun q7 => tbd q7 fun u_2 m_2 =>
  (C_needUnlike stop_ other_ m_2).bind fun q11 => tbd q11 fun u_3 m_3 =>
  (C_needNumber minutes_ 0 60 m_3).bind fun q15 => tbd q15 fun u_4 m_4 =>
  grd (0 ≤ stop_ ∧ stop_ < 12 ∧ 0 ≤ other_ ∧ other_ < 12) <|
  ltv (m_4 (4 + stop_.toNat) other_.toNat : Int) fun ahead_ =>
  ltv (setM m_4 (4 + stop_.toNat) other_.toNat minutes_) fun m_5 =>
  ltv (setM m_5 (4 + other_.toNat) stop_.toNat minutes_) fun m_6 =>
  some (.inl ahead_, m_6)
def rm_X11_walk : Room := { frames := 7, cells := 4, slots := 24, locals := 104 }
noncomputable def C_Stops_linkVia_b1 (stop_ : Int) (via_ : Int) (other_2 : Int) (m_ : Mem) : Option ((Int × Mem) ⊕ (Int × Mem)) :=
  if other_2 < m_ 1 0 then
    grd (0 ≤ stop_ ∧ stop_ < 12 ∧ 0 ≤ via_ ∧ via_ < 12 ∧ 0 ≤ other_2 ∧ other_2 < 12 ∧ InR (m_ (17 + stop_.toNat) via_.toNat + (m_ (17 + via_.toNat) other_2.toNat))) <|
    ltv (m_ (17 + stop_.toNat) via_.toNat + (m_ (17 + via_.toNat) other_2.toNat) : Int) fun sum_ =>
    if (¬ other_2 = stop_) ∧ (sum_ < m_ (17 + stop_.toNat) other_2.toNat) then
      ltv (setM m_ (17 + stop_.toNat) other_2.toNat sum_) fun m_2 =>
      grd (InR (other_2 + 1)) <|
      ltv (other_2 + 1) fun other_4 =>
      some (.inl (other_4, m_2))
    else
      grd (InR (other_2 + 1)) <|
      ltv (other_2 + 1) fun other_3 =>
      some (.inl (other_3, m_))
  else
    some (.inr (other_2, m_))
noncomputable def C_Stops_linkVia (stop_ : Int) (via_ : Int) (m : Mem) : Option Mem :=
  ltv (0 : Int) fun other_ =>
  bq2 (loop (fun s => C_Stops_linkVia_b1 stop_ via_ s.1 s.2) (other_, m)) fun other_5 m_3 =>
  some m_3
def rm_X8_linkVia : Room := { frames := 0, cells := 0, slots := 0, locals := 0 }
noncomputable def C_Stops_link_b2 (stop_2 : Int) (other_2 : Int) (m_3 : Mem) : Option ((Int × Mem) ⊕ (Int × Mem)) :=
  if other_2 < m_3 1 0 then
    grd (0 ≤ stop_2 ∧ stop_2 < 12 ∧ 0 ≤ other_2 ∧ other_2 < 12) <|
    ltv ((if ((0 < m_3 (4 + stop_2.toNat) other_2.toNat) ∧ (¬ stop_2 = m_3 1 4)) ∧ (¬ other_2 = m_3 1 4) then 1 else 0) : Int) fun isTold_ =>
    grd (0 ≤ stop_2 ∧ stop_2 < 12 ∧ 0 ≤ other_2 ∧ other_2 < 12) <|
    ltv (setM m_3 (17 + stop_2.toNat) other_2.toNat (if ¬ isTold_ = 0 then m_3 (4 + stop_2.toNat) other_2.toNat else 1000000)) fun m_4 =>
    grd (InR (other_2 + 1)) <|
    ltv (other_2 + 1) fun other_3 =>
    some (.inl (other_3, m_4))
  else
    some (.inr (other_2, m_3))
noncomputable def C_Stops_link_b1 (stop_2 : Int) (m_2 : Mem) : Option ((Int × Mem) ⊕ (Int × Mem)) :=
  if stop_2 < m_2 1 0 then
    ltv (0 : Int) fun other_ =>
    bq2 (loop (fun s => C_Stops_link_b2 stop_2 s.1 s.2) (other_, m_2)) fun other_4 m_5 =>
    grd (InR (stop_2 + 1)) <|
    ltv (stop_2 + 1) fun stop_3 =>
    some (.inl (stop_3, m_5))
  else
    some (.inr (stop_2, m_2))
noncomputable def C_Stops_link_b4 (via_2 : Int) (stop_6 : Int) (m_8 : Mem) : Option ((Int × Mem) ⊕ (Int × Mem)) :=
  if stop_6 < m_8 1 0 then
    grd (0 ≤ stop_6 ∧ stop_6 < 12 ∧ 0 ≤ via_2 ∧ via_2 < 12) <|
    if m_8 (17 + stop_6.toNat) via_2.toNat < 1000000 then
      (C_Stops_linkVia stop_6 via_2 m_8).bind fun m_9 =>
      grd (InR (stop_6 + 1)) <|
      ltv (stop_6 + 1) fun stop_8 =>
      some (.inl (stop_8, m_9))
    else
      grd (InR (stop_6 + 1)) <|
      ltv (stop_6 + 1) fun stop_7 =>
      some (.inl (stop_7, m_8))
  else
    some (.inr (stop_6, m_8))
noncomputable def C_Stops_link_b3 (via_2 : Int) (m_7 : Mem) : Option ((Int × Mem) ⊕ (Int × Mem)) :=
  if via_2 < m_7 1 0 then
    ltv (0 : Int) fun stop_5 =>
    bq2 (loop (fun s => C_Stops_link_b4 via_2 s.1 s.2) (stop_5, m_7)) fun stop_9 m_10 =>
    grd (InR (via_2 + 1)) <|
    ltv (via_2 + 1) fun via_3 =>
    some (.inl (via_3, m_10))
  else
    some (.inr (via_2, m_7))
noncomputable def C_Stops_link (without_ : Int) (m : Mem) : Option Mem :=
  ltv (setM m 1 4 without_) fun m_ =>
  ltv (0 : Int) fun stop_ =>
  bq2 (loop (fun s => C_Stops_link_b1 s.1 s.2) (stop_, m_)) fun stop_4 m_6 =>
  ltv (0 : Int) fun via_ =>
  bq2 (loop (fun s => C_Stops_link_b3 s.1 s.2) (via_, m_6)) fun via_4 m_11 =>
  some m_11
def rm_X8_link : Room := { frames := 1, cells := 0, slots := 0, locals := 24 }
noncomputable def C_needFound (found_ : Int) (m : Mem) : Option ((Unit ⊕ Nat) × Mem) :=
  if 1000000 ≤ found_ then
    some (.inr 5, m)
  else
    some (.inl (), m)
def rm_X11_needFound : Room := { frames := 6, cells := 1, slots := 6, locals := 82 }
noncomputable def C_walkTime (stop_ : Int) (other_ : Int) (m : Mem) : Option ((Int ⊕ Nat) × Mem) :=
  (C_needStop stop_ m).bind fun q3 => tbd q3 fun u_ m_ =>
  (C_needStop other_ m_).bind fun q7 => tbd q7 fun u_2 m_2 =>
  if stop_ = other_ then
    some (.inl 0, m_2)
  else
    (C_Stops_link (-1) m_2).bind fun m_3 =>
    grd (0 ≤ stop_ ∧ stop_ < 12 ∧ 0 ≤ other_ ∧ other_ < 12) <|
    (C_needFound (m_3 (17 + stop_.toNat) other_.toNat) m_3).bind fun q20 => tbd q20 fun u_3 m_4 =>
    some (.inl (m_4 (17 + stop_.toNat) other_.toNat), m_4)
def rm_X11_walkTime : Room := { frames := 7, cells := 3, slots := 18, locals := 103 }
noncomputable def C_Services_add  (m : Mem) : Option (Int × Mem) :=
  grd (0 ≤ m 29 0 ∧ m 29 0 < 6) <|
  ltv (setM m 30 (m 29 0).toNat 0) fun m_ =>
  grd (InR (m_ 29 0 + 1)) <|
  ltv (setM m_ 29 0 (m_ 29 0 + 1)) fun m_2 =>
  grd (InR (m_2 29 0 - 1)) <|
  some (m_2 29 0 - 1, m_2)
def rm_X7_add : Room := { frames := 0, cells := 0, slots := 0, locals := 0 }
noncomputable def C_service  (m : Mem) : Option ((Int ⊕ Nat) × Mem) :=
  if 6 ≤ m 29 0 then
    some (.inr 1, m)
  else
    bq2 (C_Services_add m) fun r_ m_ =>
    some (.inl r_, m_)
def rm_X11_service : Room := { frames := 6, cells := 1, slots := 6, locals := 82 }
noncomputable def C_Services_has (service_ : Int) (m : Mem) : Option Int :=
  some (if (0 ≤ service_) ∧ (service_ < m 29 0) then 1 else 0)
def rm_X7_has : Room := { frames := 0, cells := 0, slots := 0, locals := 0 }
noncomputable def C_needService (service_ : Int) (m : Mem) : Option ((Unit ⊕ Nat) × Mem) :=
  (C_Services_has service_ m).bind fun r_ =>
  if ¬ r_ = 0 then
    some (.inl (), m)
  else
    some (.inr 2, m)
def rm_X11_needService : Room := { frames := 6, cells := 1, slots := 6, locals := 82 }
noncomputable def C_needDay (day_ : Int) (m : Mem) : Option ((Unit ⊕ Nat) × Mem) :=
  (C_needNumber day_ 0 27 m).bind fun q3 => tbd q3 fun u_ m_ =>
  some (.inl (), m_)
def rm_X11_needDay : Room := { frames := 7, cells := 1, slots := 6, locals := 104 }
noncomputable def C_Services_put (service_ : Int) (day_ : Int) (isOn_ : Int) (m : Mem) : Option Mem :=
  ltv (jishl 1 day_ : Int) fun bit_ =>
  grd (0 ≤ service_ ∧ service_ < 6) <|
  ltv (setM m 30 service_.toNat (if ¬ isOn_ = 0 then jior (m 30 service_.toNat) bit_ else jiand (m 30 service_.toNat) (jixor bit_ (-1)))) fun m_ =>
  some m_
def rm_X7_put : Room := { frames := 0, cells := 0, slots := 0, locals := 0 }
noncomputable def C_week_b1 (service_ : Int) (days_ : Int) (to_ : Int) (day_2 : Int) (m_5 : Mem) : Option ((Int × Mem) ⊕ (Int × Mem)) :=
  if day_2 ≤ to_ then
    if jiand (jishr days_ (day_2.tmod 7)) 1 = 1 then
      (C_Services_put service_ day_2 1 m_5).bind fun m_6 =>
      grd (InR (day_2 + 1)) <|
      ltv (day_2 + 1) fun day_4 =>
      some (.inl (day_4, m_6))
    else
      grd (InR (day_2 + 1)) <|
      ltv (day_2 + 1) fun day_3 =>
      some (.inl (day_3, m_5))
  else
    some (.inr (day_2, m_5))
noncomputable def C_week (service_ : Int) (days_ : Int) (from_ : Int) (to_ : Int) (m : Mem) : Option ((Int ⊕ Nat) × Mem) :=
  (C_needService service_ m).bind fun q3 => tbd q3 fun u_ m_ =>
  (C_needNumber days_ 0 127 m_).bind fun q7 => tbd q7 fun u_2 m_2 =>
  (C_needDay from_ m_2).bind fun q11 => tbd q11 fun u_3 m_3 =>
  (C_needDay to_ m_3).bind fun q15 => tbd q15 fun u_4 m_4 =>
  if to_ < from_ then
    some (.inr 0, m_4)
  else
    ltv (from_ : Int) fun day_ =>
    bq2 (loop (fun s => C_week_b1 service_ days_ to_ s.1 s.2) (day_, m_4)) fun day_5 m_7 =>
    grd (0 ≤ service_ ∧ service_ < 6) <|
    some (.inl (jbits (m_7 30 service_.toNat)), m_7)
def rm_X11_week : Room := { frames := 8, cells := 5, slots := 30, locals := 124 }
noncomputable def C_Services_isOn (service_ : Int) (day_ : Int) (m : Mem) : Option Int :=
  grd ((((0 ≤ day_) ∧ (day_ < 28)) → 0 ≤ service_) ∧ (((0 ≤ day_) ∧ (day_ < 28)) → service_ < 6)) <|
  some (if ((0 ≤ day_) ∧ (day_ < 28)) ∧ (jiand (jishr (m 30 service_.toNat) day_) 1 = 1) then 1 else 0)
def rm_X7_isOn : Room := { frames := 0, cells := 0, slots := 0, locals := 0 }
noncomputable def C_putDay (service_ : Int) (day_ : Int) (isOn_ : Int) (m : Mem) : Option ((Int ⊕ Nat) × Mem) :=
  (C_needService service_ m).bind fun q3 => tbd q3 fun u_ m_ =>
  (C_needDay day_ m_).bind fun q7 => tbd q7 fun u_2 m_2 =>
  (C_Services_isOn service_ day_ m_2).bind fun r_ =>
  ltv (r_ : Int) fun ahead_ =>
  (C_Services_put service_ day_ isOn_ m_2).bind fun m_3 =>
  grd ((ahead_ = 0 ∨ ahead_ = 1)) <|
  some (.inl ahead_, m_3)
def rm_X11_putDay : Room := { frames := 8, cells := 2, slots := 12, locals := 124 }
noncomputable def C_runsOn (service_ : Int) (day_ : Int) (m : Mem) : Option ((Int ⊕ Nat) × Mem) :=
  (C_needService service_ m).bind fun q3 => tbd q3 fun u_ m_ =>
  (C_needDay day_ m_).bind fun q7 => tbd q7 fun u_2 m_2 =>
  (C_Services_isOn service_ day_ m_2).bind fun r_ =>
  grd ((r_ = 0 ∨ r_ = 1)) <|
  some (.inl r_, m_2)
def rm_X11_runsOn : Room := { frames := 8, cells := 2, slots := 12, locals := 124 }
noncomputable def C_Services_firstFrom_b1 (service_ : Int) (m : Mem) (next_2 : Int) : Option ((Int) ⊕ ((Int) ⊕ Int)) :=
  if next_2 < 28 then
    (C_Services_isOn service_ next_2 m).bind fun r_ =>
    if ¬ r_ = 0 then
      some (.inr (.inr next_2))
    else
      grd (InR (next_2 + 1)) <|
      ltv (next_2 + 1) fun next_3 =>
      some (.inl next_3)
  else
    some (.inr (.inl next_2))
noncomputable def C_Services_firstFrom (service_ : Int) (day_ : Int) (m : Mem) : Option Int :=
  ltv (day_ : Int) fun next_ =>
  br1 (fun q9 => some q9) (loop (fun s => C_Services_firstFrom_b1 service_ m s) next_) fun next_4 =>
  some (-1)
def rm_X7_firstFrom : Room := { frames := 1, cells := 0, slots := 0, locals := 22 }
noncomputable def C_nextDay (service_ : Int) (day_ : Int) (m : Mem) : Option ((Int ⊕ Nat) × Mem) :=
  (C_needService service_ m).bind fun q3 => tbd q3 fun u_ m_ =>
  (C_needDay day_ m_).bind fun q7 => tbd q7 fun u_2 m_2 =>
  (C_Services_firstFrom service_ day_ m_2).bind fun r_ =>
  ltv (r_ : Int) fun next_ =>
  if next_ = (-1) then
    some (.inr 5, m_2)
  else
    some (.inl next_, m_2)
def rm_X11_nextDay : Room := { frames := 8, cells := 3, slots := 18, locals := 124 }
noncomputable def C_needRoomForTrip  (m : Mem) : Option ((Unit ⊕ Nat) × Mem) :=
  if 24 ≤ m 31 0 then
    some (.inr 1, m)
  else
    some (.inl (), m)
def rm_X11_needRoomForTrip : Room := { frames := 6, cells := 1, slots := 6, locals := 82 }
noncomputable def C_Trips_add (trip_ : Int) (at_ : Int) (arrival_ : Int) (departure_ : Int) (m : Mem) : Option Mem :=
  grd (0 ≤ trip_ ∧ trip_ < 24) <|
  ltv (m 33 trip_.toNat : Int) fun call_ =>
  grd (0 ≤ call_ ∧ call_ < 8) <|
  ltv (setM m (35 + trip_.toNat) call_.toNat at_) fun m_ =>
  ltv (setM m_ (60 + trip_.toNat) call_.toNat arrival_) fun m_2 =>
  ltv (setM m_2 (85 + trip_.toNat) call_.toNat departure_) fun m_3 =>
  grd (InR (m_3 33 trip_.toNat + 1)) <|
  ltv (setM m_3 33 trip_.toNat (m_3 33 trip_.toNat + 1)) fun m_4 =>
  some m_4
def rm_X9_add : Room := { frames := 0, cells := 0, slots := 0, locals := 0 }
noncomputable def C_Trips_begin (ofService_ : Int) (at_ : Int) (departure_ : Int) (m : Mem) : Option (Int × Mem) :=
  grd (0 ≤ m 31 0 ∧ m 31 0 < 24) <|
  ltv (setM m 32 (m 31 0).toNat ofService_) fun m_ =>
  grd (0 ≤ m_ 31 0 ∧ m_ 31 0 < 24) <|
  ltv (setM m_ 33 (m_ 31 0).toNat 0) fun m_2 =>
  (C_Trips_add (m_2 31 0) at_ departure_ departure_ m_2).bind fun m_3 =>
  grd (InR (m_3 31 0 + 1)) <|
  ltv (setM m_3 31 0 (m_3 31 0 + 1)) fun m_4 =>
  grd (InR (m_4 31 0 - 1)) <|
  some (m_4 31 0 - 1, m_4)
def rm_X9_begin : Room := { frames := 1, cells := 0, slots := 0, locals := 25 }
noncomputable def C_trip (service_ : Int) (stop_ : Int) (departure_ : Int) (m : Mem) : Option ((Int ⊕ Nat) × Mem) :=
  (C_needService service_ m).bind fun q3 => tbd q3 fun u_ m_ =>
  (C_needStop stop_ m_).bind fun q7 => tbd q7 fun u_2 m_2 =>
  (C_needNumber departure_ 0 2879 m_2).bind fun q11 => tbd q11 fun u_3 m_3 =>
  (C_needRoomForTrip m_3).bind fun q15 => tbd q15 fun u_4 m_4 =>
  bq2 (C_Trips_begin service_ stop_ departure_ m_4) fun r_ m_5 =>
  some (.inl r_, m_5)
def rm_X11_trip : Room := { frames := 7, cells := 4, slots := 24, locals := 104 }
noncomputable def C_Trips_has (trip_ : Int) (m : Mem) : Option Int :=
  some (if (0 ≤ trip_) ∧ (trip_ < m 31 0) then 1 else 0)
def rm_X9_has : Room := { frames := 0, cells := 0, slots := 0, locals := 0 }
noncomputable def C_needTrip (trip_ : Int) (m : Mem) : Option ((Unit ⊕ Nat) × Mem) :=
  (C_Trips_has trip_ m).bind fun r_ =>
  if ¬ r_ = 0 then
    some (.inl (), m)
  else
    some (.inr 2, m)
def rm_X11_needTrip : Room := { frames := 6, cells := 1, slots := 6, locals := 82 }
def C_goesOn (ahead_ : Int) (arrival_ : Int) (departure_ : Int) : Int :=
  (if ((ahead_ < arrival_) ∧ (arrival_ ≤ departure_)) ∧ (departure_ < 2880) then 1 else 0)
def rm_X11_goesOn : Room := { frames := 0, cells := 0, slots := 0, locals := 0 }
noncomputable def C_call (trip_ : Int) (stop_ : Int) (arrival_ : Int) (departure_ : Int) (m : Mem) : Option ((Int ⊕ Nat) × Mem) :=
  (C_needTrip trip_ m).bind fun q3 => tbd q3 fun u_ m_ =>
  (C_needStop stop_ m_).bind fun q7 => tbd q7 fun u_2 m_2 =>
  grd (0 ≤ trip_ ∧ trip_ < 24 ∧ InR (m_2 33 trip_.toNat - 1)) <|
  ltv (m_2 33 trip_.toNat - 1 : Int) fun ahead_ =>
  grd (0 ≤ ahead_ ∧ ahead_ < 8) <|
  if C_goesOn (m_2 (85 + trip_.toNat) ahead_.toNat) arrival_ departure_ = 0 then
    some (.inr 0, m_2)
  else
    (C_needUnlike stop_ (m_2 (35 + trip_.toNat) ahead_.toNat) m_2).bind fun q18 => tbd q18 fun u_3 m_3 =>
    if 8 ≤ m_3 33 trip_.toNat then
      some (.inr 1, m_3)
    else
      (C_Trips_add trip_ stop_ arrival_ departure_ m_3).bind fun m_4 =>
      some (.inl (m_4 33 trip_.toNat), m_4)
def rm_X11_call : Room := { frames := 7, cells := 5, slots := 30, locals := 103 }
noncomputable def C_trips  (m : Mem) : Option Int :=
  some (m 31 0)
def rm_X11_trips : Room := { frames := 0, cells := 0, slots := 0, locals := 0 }
noncomputable def C_calls (trip_ : Int) (m : Mem) : Option ((Int ⊕ Nat) × Mem) :=
  (C_needTrip trip_ m).bind fun q3 => tbd q3 fun u_ m_ =>
  grd (0 ≤ trip_ ∧ trip_ < 24) <|
  some (.inl (m_ 33 trip_.toNat), m_)
def rm_X11_calls : Room := { frames := 7, cells := 1, slots := 6, locals := 103 }
noncomputable def C_needCall (trip_ : Int) (call_ : Int) (m : Mem) : Option ((Unit ⊕ Nat) × Mem) :=
  (C_needTrip trip_ m).bind fun q3 => tbd q3 fun u_ m_ =>
  grd ((¬ (call_ < 0) → 0 ≤ trip_) ∧ (¬ (call_ < 0) → trip_ < 24)) <|
  if (call_ < 0) ∨ (m_ 33 trip_.toNat ≤ call_) then
    some (.inr 2, m_)
  else
    some (.inl (), m_)
def rm_X11_needCall : Room := { frames := 7, cells := 2, slots := 12, locals := 103 }
noncomputable def C_stopAt (trip_ : Int) (call_ : Int) (m : Mem) : Option ((Int ⊕ Nat) × Mem) :=
  (C_needCall trip_ call_ m).bind fun q3 => tbd q3 fun u_ m_ =>
  grd (0 ≤ trip_ ∧ trip_ < 24 ∧ 0 ≤ call_ ∧ call_ < 8) <|
  some (.inl (m_ (35 + trip_.toNat) call_.toNat), m_)
def rm_X11_stopAt : Room := { frames := 8, cells := 2, slots := 12, locals := 125 }
noncomputable def C_timeAt (trip_ : Int) (call_ : Int) (isArrival_ : Int) (m : Mem) : Option ((Int ⊕ Nat) × Mem) :=
  (C_needCall trip_ call_ m).bind fun q3 => tbd q3 fun u_ m_ =>
  grd ((¬ (¬ isArrival_ = 0) → 0 ≤ trip_) ∧ (¬ (¬ isArrival_ = 0) → trip_ < 24) ∧ (¬ (¬ isArrival_ = 0) → 0 ≤ call_) ∧ (¬ (¬ isArrival_ = 0) → call_ < 8) ∧ ((¬ isArrival_ = 0) → 0 ≤ trip_) ∧ ((¬ isArrival_ = 0) → trip_ < 24) ∧ ((¬ isArrival_ = 0) → 0 ≤ call_) ∧ ((¬ isArrival_ = 0) → call_ < 8)) <|
  some (.inl (if ¬ isArrival_ = 0 then m_ (60 + trip_.toNat) call_.toNat else m_ (85 + trip_.toNat) call_.toNat), m_)
def rm_X11_timeAt : Room := { frames := 8, cells := 2, slots := 12, locals := 125 }
noncomputable def C_needShift (trip_ : Int) (minutes_ : Int) (m : Mem) : Option ((Unit ⊕ Nat) × Mem) :=
  (C_needNumber minutes_ (-60) 60 m).bind fun q3 => tbd q3 fun u_ m_ =>
  grd (0 ≤ trip_ ∧ trip_ < 24 ∧ InR (m_ (85 + trip_.toNat) 0 + minutes_)) <|
  (C_needNumber (m_ (85 + trip_.toNat) 0 + minutes_) 0 2879 m_).bind fun q7 => tbd q7 fun u_2 m_2 =>
  grd (InR (m_2 33 trip_.toNat - 1) ∧ 0 ≤ m_2 33 trip_.toNat - 1 ∧ m_2 33 trip_.toNat - 1 < 8 ∧ InR (m_2 (85 + trip_.toNat) (m_2 33 trip_.toNat - 1).toNat + minutes_)) <|
  (C_needNumber (m_2 (85 + trip_.toNat) (m_2 33 trip_.toNat - 1).toNat + minutes_) 0 2879 m_2).bind fun q11 => tbd q11 fun u_3 m_3 =>
  some (.inl (), m_3)
def rm_X11_needShift : Room := { frames := 7, cells := 3, slots := 18, locals := 104 }
noncomputable def C_Trips_move_b1 (trip_ : Int) (minutes_ : Int) (call_2 : Int) (m_ : Mem) : Option ((Int × Mem) ⊕ (Int × Mem)) :=
  grd (0 ≤ trip_ ∧ trip_ < 24) <|
  if call_2 < m_ 33 trip_.toNat then
    grd (0 ≤ call_2 ∧ call_2 < 8 ∧ InR (m_ (60 + trip_.toNat) call_2.toNat + minutes_)) <|
    ltv (setM m_ (60 + trip_.toNat) call_2.toNat (m_ (60 + trip_.toNat) call_2.toNat + minutes_)) fun m_2 =>
    grd (InR (m_2 (85 + trip_.toNat) call_2.toNat + minutes_)) <|
    ltv (setM m_2 (85 + trip_.toNat) call_2.toNat (m_2 (85 + trip_.toNat) call_2.toNat + minutes_)) fun m_3 =>
    grd (InR (call_2 + 1)) <|
    ltv (call_2 + 1) fun call_3 =>
    some (.inl (call_3, m_3))
  else
    some (.inr (call_2, m_))
noncomputable def C_Trips_move (trip_ : Int) (minutes_ : Int) (m : Mem) : Option Mem :=
  ltv (0 : Int) fun call_ =>
  bq2 (loop (fun s => C_Trips_move_b1 trip_ minutes_ s.1 s.2) (call_, m)) fun call_4 m_4 =>
  some m_4
def rm_X9_move : Room := { frames := 0, cells := 0, slots := 0, locals := 0 }
noncomputable def C_shift (trip_ : Int) (minutes_ : Int) (m : Mem) : Option ((Int ⊕ Nat) × Mem) :=
  (C_needTrip trip_ m).bind fun q3 => tbd q3 fun u_ m_ =>
  (C_needShift trip_ minutes_ m_).bind fun q7 => tbd q7 fun u_2 m_2 =>
  (C_Trips_move trip_ minutes_ m_2).bind fun m_3 =>
  grd (0 ≤ trip_ ∧ trip_ < 24) <|
  some (.inl (m_3 (85 + trip_.toNat) 0), m_3)
def rm_X11_shift : Room := { frames := 8, cells := 4, slots := 24, locals := 126 }
noncomputable def C_needRoomForSigns (signs_ : Int) (m : Mem) : Option ((Unit ⊕ Nat) × Mem) :=
  grd (InR (m 114 1 + signs_)) <|
  if 80 < m 114 1 + signs_ then
    some (.inr 1, m)
  else
    some (.inl (), m)
def rm_X11_needRoomForSigns : Room := { frames := 6, cells := 1, slots := 6, locals := 82 }
noncomputable def C_Row_put (sign_ : Int) (m : Mem) : Option (Int × Mem) :=
  grd (0 ≤ m 114 1 ∧ m 114 1 < 80 ∧ (0 ≤ sign_ ∧ sign_ ≤ 65535)) <|
  ltv (setM m 115 (m 114 1).toNat sign_) fun m_ =>
  grd (InR (m_ 114 1 + 1)) <|
  ltv (setM m_ 114 1 (m_ 114 1 + 1)) fun m_2 =>
  some (m_2 114 1, m_2)
def rm_X5_put : Room := { frames := 0, cells := 0, slots := 0, locals := 0 }
noncomputable def C_type (sign_ : Int) (m : Mem) : Option ((Int ⊕ Nat) × Mem) :=
  (C_needRoomForSigns 1 m).bind fun q3 => tbd q3 fun u_ m_ =>
  bq2 (C_Row_put sign_ m_) fun r_ m_2 =>
  some (.inl r_, m_2)
def rm_X11_type : Room := { frames := 7, cells := 1, slots := 6, locals := 103 }
noncomputable def C_Row_putDigit (value_ : Int) (m : Mem) : Option (Int × Mem) :=
  grd (InR (48 + value_.tmod 10)) <|
  bq2 (C_Row_put ((48 + value_.tmod 10) % 65536) m) fun r_ m_ =>
  some (r_, m_)
def rm_X5_putDigit : Room := { frames := 1, cells := 0, slots := 0, locals := 21 }
noncomputable def C_Row_putNumber (value_ : Int) (m : Mem) : Option (Int × Mem) :=
  ltv (fun (m_ : Mem) =>
  ltv (fun (m_3 : Mem) =>
  ltv (fun (m_5 : Mem) =>
  bq2 (C_Row_putDigit value_ m_5) fun r_4 m_7 =>
  some (r_4, m_7)) fun kj_3 =>
  if 9 < value_ then
    bq2 (C_Row_putDigit (value_.tdiv 10) m_3) fun r_3 m_6 =>
    kj_3 m_6
  else
    kj_3 m_3) fun kj_2 =>
  if 99 < value_ then
    bq2 (C_Row_putDigit (value_.tdiv 100) m_) fun r_2 m_4 =>
    kj_2 m_4
  else
    kj_2 m_) fun kj_ =>
  if 999 < value_ then
    bq2 (C_Row_putDigit (value_.tdiv 1000) m) fun r_ m_2 =>
    kj_ m_2
  else
    kj_ m
def rm_X5_putNumber : Room := { frames := 2, cells := 0, slots := 0, locals := 42 }
noncomputable def C_typeNumber (number_ : Int) (m : Mem) : Option ((Int ⊕ Nat) × Mem) :=
  (C_needNumber number_ 0 9999 m).bind fun q3 => tbd q3 fun u_ m_ =>
  (C_needRoomForSigns (if 999 < number_ then 4 else (if 99 < number_ then 3 else (if 9 < number_ then 2 else 1))) m_).bind fun q16 => tbd q16 fun u_2 m_2 =>
  bq2 (C_Row_putNumber number_ m_2) fun r_ m_3 =>
  some (.inl r_, m_3)
def rm_X11_typeNumber : Room := { frames := 7, cells := 2, slots := 12, locals := 104 }
noncomputable def C_Row_empty  (m : Mem) : Option (Int × Mem) :=
  ltv (m 114 1 : Int) fun had_ =>
  ltv (setM m 114 1 0) fun m_ =>
  some (had_, m_)
def rm_X5_empty : Room := { frames := 0, cells := 0, slots := 0, locals := 0 }
noncomputable def C_erase  (m : Mem) : Option (Int × Mem) :=
  bq2 (C_Row_empty m) fun r_ m_ =>
  some (r_, m_)
def rm_X11_erase : Room := { frames := 1, cells := 0, slots := 0, locals := 21 }
noncomputable def C_Row_readNumber_b1 (digits_2 : Int) (m_2 : Mem) : Option ((Int × Mem) ⊕ (Int × Mem)) :=
  grd ((((digits_2 < 4) ∧ (m_2 114 8 < m_2 114 1)) → 0 ≤ m_2 114 8) ∧ (((digits_2 < 4) ∧ (m_2 114 8 < m_2 114 1)) → m_2 114 8 < 80) ∧ ((((digits_2 < 4) ∧ (m_2 114 8 < m_2 114 1)) ∧ (48 ≤ m_2 115 (m_2 114 8).toNat)) → 0 ≤ m_2 114 8) ∧ ((((digits_2 < 4) ∧ (m_2 114 8 < m_2 114 1)) ∧ (48 ≤ m_2 115 (m_2 114 8).toNat)) → m_2 114 8 < 80)) <|
  if (((digits_2 < 4) ∧ (m_2 114 8 < m_2 114 1)) ∧ (48 ≤ m_2 115 (m_2 114 8).toNat)) ∧ (m_2 115 (m_2 114 8).toNat ≤ 57) then
    grd (InR (10 * (m_2 114 9)) ∧ 0 ≤ m_2 114 8 ∧ m_2 114 8 < 80 ∧ InR (m_2 115 (m_2 114 8).toNat - 48) ∧ InR (10 * (m_2 114 9) + (m_2 115 (m_2 114 8).toNat - 48))) <|
    ltv (setM m_2 114 9 (10 * (m_2 114 9) + (m_2 115 (m_2 114 8).toNat - 48))) fun m_3 =>
    grd (InR (m_3 114 8 + 1)) <|
    ltv (setM m_3 114 8 (m_3 114 8 + 1)) fun m_4 =>
    grd (InR (digits_2 + 1)) <|
    ltv (digits_2 + 1) fun digits_3 =>
    some (.inl (digits_3, m_4))
  else
    some (.inr (digits_2, m_2))
noncomputable def C_Row_readNumber  (m : Mem) : Option (Int × Mem) :=
  ltv (setM m 114 9 0) fun m_ =>
  ltv (0 : Int) fun digits_ =>
  bq2 (loop (fun s => C_Row_readNumber_b1 s.1 s.2) (digits_, m_)) fun digits_4 m_5 =>
  some ((if 0 < digits_4 then 1 else 0), m_5)
def rm_X5_readNumber : Room := { frames := 0, cells := 0, slots := 0, locals := 0 }
noncomputable def C_Row_readSign (sign_ : Int) (m : Mem) : Option (Int × Mem) :=
  grd ((¬ (m 114 1 ≤ m 114 8) → 0 ≤ m 114 8) ∧ (¬ (m 114 1 ≤ m 114 8) → m 114 8 < 80)) <|
  if (m 114 1 ≤ m 114 8) ∨ (¬ m 115 (m 114 8).toNat = sign_) then
    some (0, m)
  else
    grd (InR (m 114 8 + 1)) <|
    ltv (setM m 114 8 (m 114 8 + 1)) fun m_ =>
    some (1, m_)
def rm_X5_readSign : Room := { frames := 0, cells := 0, slots := 0, locals := 0 }
noncomputable def C_Row_keep (place_ : Int) (arrival_ : Int) (departure_ : Int) (m : Mem) : Option Mem :=
  ltv (fun (m_ : Mem) =>
  grd (InR (m_ 114 4 + 1)) <|
  ltv (setM m_ 114 4 (m_ 114 4 + 1)) fun m_5 =>
  some m_5) fun kj_ =>
  if m 114 4 < 8 then
    grd (0 ≤ m 114 4 ∧ m 114 4 < 8) <|
    ltv (setM m 116 (m 114 4).toNat place_) fun m_2 =>
    grd (0 ≤ m_2 114 4 ∧ m_2 114 4 < 8) <|
    ltv (setM m_2 117 (m_2 114 4).toNat arrival_) fun m_3 =>
    grd (0 ≤ m_3 114 4 ∧ m_3 114 4 < 8) <|
    ltv (setM m_3 118 (m_3 114 4).toNat departure_) fun m_4 =>
    kj_ m_4
  else
    kj_ m
def rm_X5_keep : Room := { frames := 0, cells := 0, slots := 0, locals := 0 }
noncomputable def C_Row_readFirst  (m : Mem) : Option (Int × Mem) :=
  bq2 (C_Row_readNumber m) fun r_ m_ =>
  if ¬ r_ = 0 then
    ltv (setM m_ 114 3 (m_ 114 9)) fun m_2 =>
    bq2 (C_Row_readSign 58 m_2) fun r_2 m_3 =>
    if ¬ r_2 = 0 then
      bq2 (C_Row_readNumber m_3) fun r_3 m_4 =>
      if ¬ r_3 = 0 then
        ltv (m_4 114 9 : Int) fun place_ =>
        bq2 (C_Row_readSign 64 m_4) fun r_4 m_5 =>
        if ¬ r_4 = 0 then
          bq2 (C_Row_readNumber m_5) fun r_5 m_6 =>
          if ¬ r_5 = 0 then
            (C_Row_keep place_ (m_6 114 9) (m_6 114 9) m_6).bind fun m_7 =>
            some (1, m_7)
          else
            some (0, m_6)
        else
          some (0, m_5)
      else
        some (0, m_4)
    else
      some (0, m_3)
  else
    some (0, m_)
def rm_X5_readFirst : Room := { frames := 1, cells := 0, slots := 0, locals := 23 }
noncomputable def C_Row_readNext  (m : Mem) : Option (Int × Mem) :=
  bq2 (C_Row_readSign 44 m) fun r_ m_ =>
  if ¬ r_ = 0 then
    bq2 (C_Row_readNumber m_) fun r_2 m_2 =>
    if ¬ r_2 = 0 then
      ltv (m_2 114 9 : Int) fun place_ =>
      bq2 (C_Row_readSign 64 m_2) fun r_3 m_3 =>
      if ¬ r_3 = 0 then
        bq2 (C_Row_readNumber m_3) fun r_4 m_4 =>
        if ¬ r_4 = 0 then
          ltv (m_4 114 9 : Int) fun arrival_ =>
          bq2 (C_Row_readSign 45 m_4) fun r_5 m_5 =>
          if ¬ r_5 = 0 then
            bq2 (C_Row_readNumber m_5) fun r_6 m_7 =>
            if ¬ r_6 = 0 then
              (C_Row_keep place_ arrival_ (m_7 114 9) m_7).bind fun m_8 =>
              some (1, m_8)
            else
              some (0, m_7)
          else
            (C_Row_keep place_ arrival_ (m_5 114 9) m_5).bind fun m_6 =>
            some (1, m_6)
        else
          some (0, m_4)
      else
        some (0, m_3)
    else
      some (0, m_2)
  else
    some (0, m_)
def rm_X5_readNext : Room := { frames := 1, cells := 0, slots := 0, locals := 23 }
noncomputable def C_Row_read_b1 (isRow_2 : Int) (turn_2 : Int) (m_4 : Mem) : Option ((Int × Int × Mem) ⊕ (Int × Int × Mem)) :=
  if ((turn_2 < 80) ∧ (¬ isRow_2 = 0)) ∧ (m_4 114 8 < m_4 114 1) then
    bq2 (C_Row_readNext m_4) fun r_2 m_5 =>
    ltv (r_2 : Int) fun isRow_3 =>
    grd (InR (turn_2 + 1)) <|
    ltv (turn_2 + 1) fun turn_3 =>
    some (.inl (isRow_3, turn_3, m_5))
  else
    some (.inr (isRow_2, turn_2, m_4))
noncomputable def C_Row_read  (m : Mem) : Option (Int × Mem) :=
  ltv (setM m 114 8 0) fun m_ =>
  ltv (setM m_ 114 4 0) fun m_2 =>
  bq2 (C_Row_readFirst m_2) fun r_ m_3 =>
  ltv (r_ : Int) fun isRow_ =>
  ltv (0 : Int) fun turn_ =>
  bq3 (loop (fun s => C_Row_read_b1 s.1 s.2.1 s.2.2) (isRow_, turn_, m_3)) fun isRow_4 turn_4 m_6 =>
  ltv (fun (m_7 : Mem) =>
  grd ((isRow_4 = 0 ∨ isRow_4 = 1)) <|
  some (isRow_4, m_7)) fun kj_ =>
  if isRow_4 = 0 then
    ltv (setM m_6 114 2 (m_6 114 8)) fun m_8 =>
    kj_ m_8
  else
    kj_ m_6
def rm_X5_read : Room := { frames := 2, cells := 0, slots := 0, locals := 45 }
noncomputable def C_rowFits_b1 (m : Mem) (call_2 : Int) : Option ((Int) ⊕ ((Int) ⊕ Int)) :=
  if call_2 < m 114 4 then
    grd (0 ≤ call_2 ∧ call_2 < 8) <|
    (C_Stops_has (m 116 call_2.toNat) m).bind fun r_2 =>
    if ¬ r_2 = 0 then
      grd (((0 < call_2) → InR (call_2 - 1)) ∧ ((0 < call_2) → 0 ≤ call_2 - 1) ∧ ((0 < call_2) → call_2 - 1 < 8)) <|
      if (0 < call_2) ∧ (m 116 call_2.toNat = m 116 (call_2 - 1).toNat) then
        some (.inr (.inr 0))
      else
        grd ((¬ (call_2 = 0) → InR (call_2 - 1)) ∧ (¬ (call_2 = 0) → 0 ≤ call_2 - 1) ∧ (¬ (call_2 = 0) → call_2 - 1 < 8)) <|
        ltv ((if call_2 = 0 then (-1) else m 118 (call_2 - 1).toNat) : Int) fun ahead_ =>
        if C_goesOn ahead_ (m 117 call_2.toNat) (m 118 call_2.toNat) = 0 then
          some (.inr (.inr 0))
        else
          grd (InR (call_2 + 1)) <|
          ltv (call_2 + 1) fun call_3 =>
          some (.inl call_3)
    else
      some (.inr (.inr 0))
  else
    some (.inr (.inl call_2))
noncomputable def C_rowFits  (m : Mem) : Option Int :=
  (C_Services_has (m 114 3) m).bind fun r_ =>
  if ¬ r_ = 0 then
    if 8 < m 114 4 then
      some 0
    else
      ltv (0 : Int) fun call_ =>
      br1 (fun q9 => some q9) (loop (fun s => C_rowFits_b1 m s) call_) fun call_4 =>
      some 1
  else
    some 0
def rm_X11_rowFits : Room := { frames := 1, cells := 0, slots := 0, locals := 22 }
noncomputable def C_readRow_b1 (trip_ : Int) (call_2 : Int) (m_4 : Mem) : Option ((Int × Mem) ⊕ (Int × Mem)) :=
  if call_2 < m_4 114 4 then
    grd (0 ≤ call_2 ∧ call_2 < 8) <|
    (C_Trips_add trip_ (m_4 116 call_2.toNat) (m_4 117 call_2.toNat) (m_4 118 call_2.toNat) m_4).bind fun m_5 =>
    grd (InR (call_2 + 1)) <|
    ltv (call_2 + 1) fun call_3 =>
    some (.inl (call_3, m_5))
  else
    some (.inr (call_2, m_4))
noncomputable def C_readRow  (m : Mem) : Option ((Int ⊕ Nat) × Mem) :=
  bq2 (C_Row_read m) fun r_ m_ =>
  if ¬ r_ = 0 then
    (C_rowFits m_).bind fun r_2 =>
    if ¬ r_2 = 0 then
      (C_needRoomForTrip m_).bind fun q15 => tbd q15 fun u_ m_2 =>
      bq2 (C_Trips_begin (m_2 114 3) (m_2 116 0) (m_2 118 0) m_2) fun r_3 m_3 =>
      ltv (r_3 : Int) fun trip_ =>
      ltv (1 : Int) fun call_ =>
      bq2 (loop (fun s => C_readRow_b1 trip_ s.1 s.2) (call_, m_3)) fun call_4 m_6 =>
      bq2 (C_Row_empty m_6) fun r_4 m_7 =>
      some (.inl trip_, m_7)
    else
      some (.inr 4, m_)
  else
    some (.inr 0, m_)
def rm_X11_readRow : Room := { frames := 7, cells := 3, slots := 18, locals := 102 }
noncomputable def C_faultAt  (m : Mem) : Option ((Int ⊕ Nat) × Mem) :=
  if m 114 2 = (-1) then
    some (.inr 5, m)
  else
    some (.inl (m 114 2), m)
def rm_X11_faultAt : Room := { frames := 6, cells := 1, slots := 6, locals := 82 }
noncomputable def C_Delays_find_b1 (onDay_ : Int) (ofTrip_ : Int) (m : Mem) (entry_2 : Int) : Option ((Int) ⊕ ((Int) ⊕ Int)) :=
  if entry_2 < m 109 0 then
    grd (0 ≤ entry_2 ∧ entry_2 < 12) <|
    if (m 110 entry_2.toNat = onDay_) ∧ (m 111 entry_2.toNat = ofTrip_) then
      some (.inr (.inr entry_2))
    else
      grd (InR (entry_2 + 1)) <|
      ltv (entry_2 + 1) fun entry_3 =>
      some (.inl entry_3)
  else
    some (.inr (.inl entry_2))
noncomputable def C_Delays_find (onDay_ : Int) (ofTrip_ : Int) (m : Mem) : Option Int :=
  ltv (0 : Int) fun entry_ =>
  br1 (fun q9 => some q9) (loop (fun s => C_Delays_find_b1 onDay_ ofTrip_ m s) entry_) fun entry_4 =>
  some (-1)
def rm_X0_find : Room := { frames := 0, cells := 0, slots := 0, locals := 0 }
noncomputable def C_Delays_remove (entry_ : Int) (m : Mem) : Option Mem :=
  if entry_ = (-1) then
    some m
  else
    grd (InR (m 109 0 - 1)) <|
    ltv (setM m 109 0 (m 109 0 - 1)) fun m_ =>
    grd (0 ≤ entry_ ∧ entry_ < 12 ∧ 0 ≤ m_ 109 0 ∧ m_ 109 0 < 12) <|
    ltv (setM m_ 110 entry_.toNat (m_ 110 (m_ 109 0).toNat)) fun m_2 =>
    grd (0 ≤ m_2 109 0 ∧ m_2 109 0 < 12) <|
    ltv (setM m_2 111 entry_.toNat (m_2 111 (m_2 109 0).toNat)) fun m_3 =>
    grd (0 ≤ m_3 109 0 ∧ m_3 109 0 < 12) <|
    ltv (setM m_3 112 entry_.toNat (m_3 112 (m_3 109 0).toNat)) fun m_4 =>
    grd (0 ≤ m_4 109 0 ∧ m_4 109 0 < 12) <|
    ltv (setM m_4 113 entry_.toNat (m_4 113 (m_4 109 0).toNat)) fun m_5 =>
    some m_5
def rm_X0_remove : Room := { frames := 0, cells := 0, slots := 0, locals := 0 }
noncomputable def C_Delays_put (entry_ : Int) (onDay_ : Int) (ofTrip_ : Int) (ofCall_ : Int) (told_ : Int) (m : Mem) : Option Mem :=
  ltv ((if entry_ = (-1) then m 109 0 else entry_) : Int) fun place_ =>
  grd (0 ≤ place_ ∧ place_ < 12) <|
  ltv (setM m 110 place_.toNat onDay_) fun m_ =>
  ltv (setM m_ 111 place_.toNat ofTrip_) fun m_2 =>
  ltv (setM m_2 112 place_.toNat ofCall_) fun m_3 =>
  ltv (setM m_3 113 place_.toNat told_) fun m_4 =>
  if place_ = m_4 109 0 then
    grd (InR (m_4 109 0 + 1)) <|
    ltv (setM m_4 109 0 (m_4 109 0 + 1)) fun m_5 =>
    some m_5
  else
    some m_4
def rm_X0_put : Room := { frames := 0, cells := 0, slots := 0, locals := 0 }
noncomputable def C_late (day_ : Int) (trip_ : Int) (call_ : Int) (minutes_ : Int) (m : Mem) : Option ((Int ⊕ Nat) × Mem) :=
  (C_needCall trip_ call_ m).bind fun q3 => tbd q3 fun u_ m_ =>
  (C_needDay day_ m_).bind fun q7 => tbd q7 fun u_2 m_2 =>
  (C_needNumber minutes_ 0 120 m_2).bind fun q11 => tbd q11 fun u_3 m_3 =>
  (C_Delays_find day_ trip_ m_3).bind fun r_ =>
  ltv (r_ : Int) fun entry_ =>
  grd ((¬ (entry_ = (-1)) → 0 ≤ entry_) ∧ (¬ (entry_ = (-1)) → entry_ < 12)) <|
  ltv ((if entry_ = (-1) then 0 else m_3 113 entry_.toNat) : Int) fun ahead_ =>
  if minutes_ = 0 then
    (C_Delays_remove entry_ m_3).bind fun m_5 =>
    some (.inl ahead_, m_5)
  else
    if (entry_ = (-1)) ∧ (12 ≤ m_3 109 0) then
      some (.inr 1, m_3)
    else
      (C_Delays_put entry_ day_ trip_ call_ minutes_ m_3).bind fun m_4 =>
      some (.inl ahead_, m_4)
def rm_X11_late : Room := { frames := 8, cells := 5, slots := 30, locals := 125 }
noncomputable def C_Delays_at (entry_ : Int) (ofCall_ : Int) (m : Mem) : Option Int :=
  grd ((¬ (entry_ = (-1)) → 0 ≤ entry_) ∧ (¬ (entry_ = (-1)) → entry_ < 12) ∧ (¬ ((entry_ = (-1)) ∨ (ofCall_ < m 112 entry_.toNat)) → 0 ≤ entry_) ∧ (¬ ((entry_ = (-1)) ∨ (ofCall_ < m 112 entry_.toNat)) → entry_ < 12)) <|
  some (if (entry_ = (-1)) ∨ (ofCall_ < m 112 entry_.toNat) then 0 else m 113 entry_.toNat)
def rm_X0_at : Room := { frames := 0, cells := 0, slots := 0, locals := 0 }
noncomputable def C_lateness (day_ : Int) (trip_ : Int) (call_ : Int) (m : Mem) : Option ((Int ⊕ Nat) × Mem) :=
  (C_needCall trip_ call_ m).bind fun q3 => tbd q3 fun u_ m_ =>
  (C_needDay day_ m_).bind fun q7 => tbd q7 fun u_2 m_2 =>
  (C_Delays_find day_ trip_ m_2).bind fun r_ =>
  (C_Delays_at r_ call_ m_2).bind fun r_2 =>
  some (.inl r_2, m_2)
def rm_X11_lateness : Room := { frames := 8, cells := 3, slots := 18, locals := 125 }
noncomputable def C_onTime  (m : Mem) : Option (Int × Mem) :=
  ltv (m 109 0 : Int) fun told_ =>
  ltv (setM m 109 0 0) fun m_ =>
  some (told_, m_)
def rm_X11_onTime : Room := { frames := 0, cells := 0, slots := 0, locals := 0 }
noncomputable def C_needWay (from_ : Int) (to_ : Int) (day_ : Int) (minute_ : Int) (m : Mem) : Option ((Unit ⊕ Nat) × Mem) :=
  (C_needStop from_ m).bind fun q3 => tbd q3 fun u_ m_ =>
  (C_needStop to_ m_).bind fun q7 => tbd q7 fun u_2 m_2 =>
  (C_needDay day_ m_2).bind fun q11 => tbd q11 fun u_3 m_3 =>
  (C_needNumber minute_ 0 1439 m_3).bind fun q15 => tbd q15 fun u_4 m_4 =>
  some (.inl (), m_4)
def rm_X11_needWay : Room := { frames := 8, cells := 4, slots := 24, locals := 124 }
noncomputable def C_Net_addHop (run_ : Int) (call_ : Int) (m : Mem) : Option Mem :=
  grd (0 ≤ run_ ∧ run_ < 72 ∧ 0 ≤ call_ ∧ call_ < 8) <|
  if m (270 + run_.toNat) call_.toNat < 0 then
    some m
  else
    grd (InR (run_ * 8) ∧ InR (run_ * 8 + call_)) <|
    ltv (run_ * 8 + call_ : Int) fun hop_ =>
    grd (0 ≤ m 119 11 ∧ m 119 11 < 576 ∧ InR ((m (270 + run_.toNat) call_.toNat) * 1024) ∧ InR ((m (270 + run_.toNat) call_.toNat) * 1024 + hop_)) <|
    ltv (setM m 342 (m 119 11).toNat ((m (270 + run_.toNat) call_.toNat) * 1024 + hop_)) fun m_ =>
    grd (0 ≤ m_ 119 11 ∧ m_ 119 11 < 576 ∧ InR (call_ + 1) ∧ 0 ≤ call_ + 1 ∧ call_ + 1 < 8 ∧ InR ((m_ (197 + run_.toNat) (call_ + 1).toNat) * 1024) ∧ InR ((m_ (197 + run_.toNat) (call_ + 1).toNat) * 1024 + hop_)) <|
    ltv (setM m_ 343 (m_ 119 11).toNat ((m_ (197 + run_.toNat) (call_ + 1).toNat) * 1024 + hop_)) fun m_2 =>
    grd (InR (m_2 119 11 + 1)) <|
    ltv (setM m_2 119 11 (m_2 119 11 + 1)) fun m_3 =>
    some m_3
def rm_X3_addHop : Room := { frames := 0, cells := 0, slots := 0, locals := 0 }
noncomputable def C_Net_addRun_b1 (trip_ : Int) (delay_ : Int) (moved_ : Int) (run_ : Int) (call_2 : Int) (m_5 : Mem) : Option ((Int × Mem) ⊕ (Int × Mem)) :=
  grd (0 ≤ run_ ∧ run_ < 72) <|
  if call_2 < m_5 122 run_.toNat then
    grd (0 ≤ call_2 ∧ call_2 < 8 ∧ 0 ≤ trip_ ∧ trip_ < 24) <|
    ltv (setM m_5 (124 + run_.toNat) call_2.toNat (m_5 (35 + trip_.toNat) call_2.toNat)) fun m_6 =>
    grd (InR (m_6 (60 + trip_.toNat) call_2.toNat + moved_) ∧ InR (call_2 - 1)) <|
    (C_Delays_at delay_ (call_2 - 1) m_6).bind fun r_ =>
    grd (InR (m_6 (60 + trip_.toNat) call_2.toNat + moved_ + r_)) <|
    ltv (setM m_6 (197 + run_.toNat) call_2.toNat (m_6 (60 + trip_.toNat) call_2.toNat + moved_ + r_)) fun m_7 =>
    grd (InR (m_7 (85 + trip_.toNat) call_2.toNat + moved_)) <|
    (C_Delays_at delay_ call_2 m_7).bind fun r_2 =>
    grd (InR (m_7 (85 + trip_.toNat) call_2.toNat + moved_ + r_2)) <|
    ltv (setM m_7 (270 + run_.toNat) call_2.toNat (m_7 (85 + trip_.toNat) call_2.toNat + moved_ + r_2)) fun m_8 =>
    if 0 < call_2 then
      (C_Net_addHop run_ (call_2 - 1) m_8).bind fun m_9 =>
      grd (InR (call_2 + 1)) <|
      ltv (call_2 + 1) fun call_4 =>
      some (.inl (call_4, m_9))
    else
      grd (InR (call_2 + 1)) <|
      ltv (call_2 + 1) fun call_3 =>
      some (.inl (call_3, m_8))
  else
    some (.inr (call_2, m_5))
noncomputable def C_Net_addRun (trip_ : Int) (ahead_ : Int) (delay_ : Int) (moved_ : Int) (m : Mem) : Option Mem :=
  ltv (m 119 4 : Int) fun run_ =>
  grd (InR (m 119 4 + 1)) <|
  ltv (setM m 119 4 (m 119 4 + 1)) fun m_ =>
  grd (0 ≤ run_ ∧ run_ < 72) <|
  ltv (setM m_ 120 run_.toNat trip_) fun m_2 =>
  ltv (setM m_2 121 run_.toNat ahead_) fun m_3 =>
  grd (0 ≤ trip_ ∧ trip_ < 24) <|
  ltv (setM m_3 122 run_.toNat (m_3 33 trip_.toNat)) fun m_4 =>
  ltv (0 : Int) fun call_ =>
  bq2 (loop (fun s => C_Net_addRun_b1 trip_ delay_ moved_ run_ s.1 s.2) (call_, m_4)) fun call_5 m_10 =>
  some m_10
def rm_X3_addRun : Room := { frames := 1, cells := 0, slots := 0, locals := 23 }
noncomputable def C_merge_b1 (keys_ : Nat) (spare_ : Nat) (middle_ : Int) (high_ : Int) (left_2 : Int) (right_2 : Int) (at_2 : Int) (m_ : Mem) : Option ((Int × Int × Int × Mem) ⊕ (Int × Int × Int × Mem)) :=
  if at_2 < high_ then
    grd (((left_2 < middle_) → ¬ (high_ ≤ right_2) → 0 ≤ left_2) ∧ ((left_2 < middle_) → ¬ (high_ ≤ right_2) → left_2 < alen SHC keys_) ∧ ((left_2 < middle_) → ¬ (high_ ≤ right_2) → 0 ≤ right_2) ∧ ((left_2 < middle_) → ¬ (high_ ≤ right_2) → right_2 < alen SHC keys_)) <|
    if (left_2 < middle_) ∧ ((high_ ≤ right_2) ∨ (m_ keys_ left_2.toNat ≤ m_ keys_ right_2.toNat)) then
      grd (0 ≤ at_2 ∧ at_2 < alen SHC spare_ ∧ 0 ≤ left_2 ∧ left_2 < alen SHC keys_) <|
      ltv (setM m_ spare_ at_2.toNat (m_ keys_ left_2.toNat)) fun m_3 =>
      grd (InR (left_2 + 1)) <|
      ltv (left_2 + 1) fun left_3 =>
      grd (InR (at_2 + 1)) <|
      ltv (at_2 + 1) fun at_4 =>
      some (.inl (left_3, right_2, at_4, m_3))
    else
      grd (0 ≤ at_2 ∧ at_2 < alen SHC spare_ ∧ 0 ≤ right_2 ∧ right_2 < alen SHC keys_) <|
      ltv (setM m_ spare_ at_2.toNat (m_ keys_ right_2.toNat)) fun m_2 =>
      grd (InR (right_2 + 1)) <|
      ltv (right_2 + 1) fun right_3 =>
      grd (InR (at_2 + 1)) <|
      ltv (at_2 + 1) fun at_3 =>
      some (.inl (left_2, right_3, at_3, m_2))
  else
    some (.inr (left_2, right_2, at_2, m_))
noncomputable def C_merge (keys_ : Nat) (spare_ : Nat) (low_ : Int) (middle_ : Int) (high_ : Int) (m : Mem) : Option Mem :=
  ltv (low_ : Int) fun left_ =>
  ltv (middle_ : Int) fun right_ =>
  ltv (low_ : Int) fun at_ =>
  bq4 (loop (fun s => C_merge_b1 keys_ spare_ middle_ high_ s.1 s.2.1 s.2.2.1 s.2.2.2) (left_, right_, at_, m)) fun left_4 right_4 at_5 m_4 =>
  some m_4
def rm_X11_merge : Room := { frames := 0, cells := 0, slots := 0, locals := 0 }
noncomputable def C_sortUp_b2 (keys_ : Nat) (spare_ : Nat) (count_ : Int) (width_2 : Int) (low_2 : Int) (m_2 : Mem) : Option ((Int × Mem) ⊕ (Int × Mem)) :=
  if low_2 < count_ then
    grd (InR (low_2 + width_2)) <|
    ltv ((if count_ < low_2 + width_2 then count_ else low_2 + width_2) : Int) fun middle_ =>
    grd (InR (middle_ + width_2)) <|
    (C_merge keys_ spare_ low_2 middle_ (if count_ < middle_ + width_2 then count_ else middle_ + width_2) m_2).bind fun m_3 =>
    grd (InR (2 * width_2) ∧ InR (low_2 + 2 * width_2)) <|
    ltv (low_2 + 2 * width_2 : Int) fun low_3 =>
    some (.inl (low_3, m_3))
  else
    some (.inr (low_2, m_2))
noncomputable def C_sortUp_b1 (keys_ : Nat) (spare_ : Nat) (count_ : Int) (width_2 : Int) (m_ : Mem) : Option ((Int × Mem) ⊕ (Int × Mem)) :=
  if width_2 < count_ then
    ltv (0 : Int) fun low_ =>
    bq2 (loop (fun s => C_sortUp_b2 keys_ spare_ count_ width_2 s.1 s.2) (low_, m_)) fun low_4 m_4 =>
    grd (0 ≤ count_ ∧ count_ ≤ alen SHC spare_ ∧ count_ ≤ alen SHC keys_) <|
    ltv (cpyM m_4 spare_ keys_ count_.toNat) fun m_5 =>
    grd (InR (width_2 * 2)) <|
    ltv (width_2 * 2 : Int) fun width_3 =>
    some (.inl (width_3, m_5))
  else
    some (.inr (width_2, m_))
noncomputable def C_sortUp (keys_ : Nat) (spare_ : Nat) (count_ : Int) (m : Mem) : Option Mem :=
  ltv (1 : Int) fun width_ =>
  bq2 (loop (fun s => C_sortUp_b1 keys_ spare_ count_ s.1 s.2) (width_, m)) fun width_4 m_6 =>
  some m_6
def rm_X11_sortUp : Room := { frames := 1, cells := 0, slots := 0, locals := 60 }
noncomputable def C_Net_lay_b2 (day_ : Int) (shifted_ : Int) (minutes_ : Int) (ahead_2 : Int) (trip_2 : Int) (m_5 : Mem) : Option ((Int × Mem) ⊕ (Int × Mem)) :=
  if trip_2 < m_5 31 0 then
    grd (0 ≤ trip_2 ∧ trip_2 < 24 ∧ InR (day_ + ahead_2)) <|
    (C_Services_isOn (m_5 32 trip_2.toNat) (day_ + ahead_2) m_5).bind fun r_ =>
    if ¬ r_ = 0 then
      ltv ((if trip_2 = shifted_ then minutes_ else 0) : Int) fun moved_ =>
      (C_Delays_find (day_ + ahead_2) trip_2 m_5).bind fun r_2 =>
      grd (InR (1440 * ahead_2) ∧ InR (1440 * ahead_2 + moved_)) <|
      (C_Net_addRun trip_2 ahead_2 r_2 (1440 * ahead_2 + moved_) m_5).bind fun m_6 =>
      grd (InR (trip_2 + 1)) <|
      ltv (trip_2 + 1) fun trip_4 =>
      some (.inl (trip_4, m_6))
    else
      grd (InR (trip_2 + 1)) <|
      ltv (trip_2 + 1) fun trip_3 =>
      some (.inl (trip_3, m_5))
  else
    some (.inr (trip_2, m_5))
noncomputable def C_Net_lay_b1 (day_ : Int) (shifted_ : Int) (minutes_ : Int) (ahead_2 : Int) (m_4 : Mem) : Option ((Int × Mem) ⊕ (Int × Mem)) :=
  if ahead_2 ≤ 1 then
    ltv (0 : Int) fun trip_ =>
    bq2 (loop (fun s => C_Net_lay_b2 day_ shifted_ minutes_ ahead_2 s.1 s.2) (trip_, m_4)) fun trip_5 m_7 =>
    grd (InR (ahead_2 + 1)) <|
    ltv (ahead_2 + 1) fun ahead_3 =>
    some (.inl (ahead_3, m_7))
  else
    some (.inr (ahead_2, m_4))
noncomputable def C_Net_lay (day_ : Int) (shifted_ : Int) (minutes_ : Int) (m : Mem) : Option Mem :=
  (C_Stops_link (-1) m).bind fun m_ =>
  ltv (setM m_ 119 4 0) fun m_2 =>
  ltv (setM m_2 119 11 0) fun m_3 =>
  ltv ((-1) : Int) fun ahead_ =>
  bq2 (loop (fun s => C_Net_lay_b1 day_ shifted_ minutes_ s.1 s.2) (ahead_, m_3)) fun ahead_4 m_8 =>
  (C_sortUp 342 344 (m_8 119 11) m_8).bind fun m_9 =>
  (C_sortUp 343 344 (m_9 119 11) m_9).bind fun m_10 =>
  some m_10
def rm_X3_lay : Room := { frames := 2, cells := 0, slots := 0, locals := 85 }
noncomputable def C_Labels_clear_b1 (x : Nat) (stop_2 : Int) (m_ : Mem) : Option ((Int × Mem) ⊕ (Int × Mem)) :=
  if stop_2 < m_ 1 0 then
    grd (0 ≤ stop_2 ∧ stop_2 < 12) <|
    ltv (setM m_ (x + 1) stop_2.toNat 1000000) fun m_2 =>
    ltv (setM m_2 (x + 2) stop_2.toNat 1000000) fun m_3 =>
    grd (InR (stop_2 + 1)) <|
    ltv (stop_2 + 1) fun stop_3 =>
    some (.inl (stop_3, m_3))
  else
    some (.inr (stop_2, m_))
noncomputable def C_Labels_clear (x : Nat) (m : Mem) : Option Mem :=
  ltv (0 : Int) fun stop_ =>
  bq2 (loop (fun s => C_Labels_clear_b1 x s.1 s.2) (stop_, m)) fun stop_4 m_4 =>
  some m_4
def rm_X2_clear : Room := { frames := 0, cells := 0, slots := 0, locals := 0 }
noncomputable def C_Labels_walkOn_b1 (x : Nat) (stop_ : Int) (minute_ : Int) (other_2 : Int) (m_ : Mem) : Option ((Int × Mem) ⊕ (Int × Mem)) :=
  if other_2 < m_ 1 0 then
    grd (0 ≤ stop_ ∧ stop_ < 12 ∧ 0 ≤ other_2 ∧ other_2 < 12 ∧ InR (minute_ + (m_ (17 + stop_.toNat) other_2.toNat))) <|
    ltv (minute_ + (m_ (17 + stop_.toNat) other_2.toNat) : Int) fun there_ =>
    if there_ < m_ (x + 2) other_2.toNat then
      ltv (setM m_ (x + 2) other_2.toNat there_) fun m_2 =>
      grd (InR (other_2 + 1)) <|
      ltv (other_2 + 1) fun other_4 =>
      some (.inl (other_4, m_2))
    else
      grd (InR (other_2 + 1)) <|
      ltv (other_2 + 1) fun other_3 =>
      some (.inl (other_3, m_))
  else
    some (.inr (other_2, m_))
noncomputable def C_Labels_walkOn (x : Nat) (stop_ : Int) (minute_ : Int) (m : Mem) : Option Mem :=
  ltv (0 : Int) fun other_ =>
  bq2 (loop (fun s => C_Labels_walkOn_b1 x stop_ minute_ s.1 s.2) (other_, m)) fun other_5 m_3 =>
  some m_3
def rm_X2_walkOn : Room := { frames := 0, cells := 0, slots := 0, locals := 0 }
noncomputable def C_Labels_begin (x : Nat) (from_ : Int) (minute_ : Int) (m : Mem) : Option Mem :=
  (C_Labels_clear x m).bind fun m_ =>
  grd (0 ≤ from_ ∧ from_ < 12) <|
  ltv (setM m_ (x + 2) from_.toNat minute_) fun m_2 =>
  (C_Labels_walkOn x from_ minute_ m_2).bind fun m_3 =>
  some m_3
def rm_X2_begin : Room := { frames := 1, cells := 0, slots := 0, locals := 24 }
noncomputable def C_Search_leaveRuns_b1 (run_2 : Int) (m_ : Mem) : Option ((Int × Mem) ⊕ (Int × Mem)) :=
  if run_2 < m_ 119 4 then
    grd (0 ≤ run_2 ∧ run_2 < 72) <|
    ltv (setM m_ 346 run_2.toNat 0) fun m_2 =>
    grd (InR (run_2 + 1)) <|
    ltv (run_2 + 1) fun run_3 =>
    some (.inl (run_3, m_2))
  else
    some (.inr (run_2, m_))
noncomputable def C_Search_leaveRuns  (m : Mem) : Option Mem :=
  ltv (0 : Int) fun run_ =>
  bq2 (loop (fun s => C_Search_leaveRuns_b1 s.1 s.2) (run_, m)) fun run_4 m_3 =>
  some m_3
def rm_X6_leaveRuns : Room := { frames := 0, cells := 0, slots := 0, locals := 0 }
def C_Net_runOf (key_ : Int) : Int :=
  (key_.tmod 1024).tdiv 8
def rm_X3_runOf : Room := { frames := 0, cells := 0, slots := 0, locals := 0 }
def C_Net_callOf (key_ : Int) : Int :=
  key_.tmod 8
def rm_X3_callOf : Room := { frames := 0, cells := 0, slots := 0, locals := 0 }
noncomputable def C_Labels_canGetOn (x : Nat) (stop_ : Int) (leave_ : Int) (m : Mem) : Option Int :=
  grd (((0 ≤ leave_) → 0 ≤ stop_) ∧ ((0 ≤ leave_) → stop_ < 12) ∧ ((0 ≤ leave_) → ¬ (m (x + 2) stop_.toNat ≤ leave_) → 0 ≤ stop_) ∧ ((0 ≤ leave_) → ¬ (m (x + 2) stop_.toNat ≤ leave_) → stop_ < 12) ∧ ((0 ≤ leave_) → ¬ (m (x + 2) stop_.toNat ≤ leave_) → InR (m (x + 1) stop_.toNat + m 2 stop_.toNat))) <|
  some (if (0 ≤ leave_) ∧ ((m (x + 2) stop_.toNat ≤ leave_) ∨ (m (x + 1) stop_.toNat + m 2 stop_.toNat ≤ leave_)) then 1 else 0)
def rm_X2_canGetOn : Room := { frames := 0, cells := 0, slots := 0, locals := 0 }
noncomputable def C_Labels_getOff (x : Nat) (stop_ : Int) (minute_ : Int) (m : Mem) : Option (Int × Mem) :=
  grd ((¬ (stop_ = m 1 4) → 0 ≤ stop_) ∧ (¬ (stop_ = m 1 4) → stop_ < 12)) <|
  if (stop_ = m 1 4) ∨ (m (x + 1) stop_.toNat ≤ minute_) then
    some (0, m)
  else
    grd (0 ≤ stop_ ∧ stop_ < 12) <|
    ltv (setM m (x + 1) stop_.toNat minute_) fun m_ =>
    (C_Labels_walkOn x stop_ minute_ m_).bind fun m_2 =>
    some (1, m_2)
def rm_X2_getOff : Room := { frames := 1, cells := 0, slots := 0, locals := 24 }
noncomputable def C_Search_readHops_b1 (minute_ : Int) (index_2 : Int) (m_2 : Mem) : Option ((Int × Mem) ⊕ (Int × Mem)) :=
  if index_2 < m_2 119 11 then
    grd (0 ≤ index_2 ∧ index_2 < 576) <|
    ltv (m_2 342 index_2.toNat : Int) fun key_ =>
    ltv (key_.tdiv 1024 : Int) fun leave_ =>
    ltv (C_Net_runOf key_ : Int) fun run_ =>
    ltv (C_Net_callOf key_ : Int) fun call_ =>
    ltv (fun (m_3 : Mem) =>
    grd (0 ≤ run_ ∧ run_ < 72) <|
    if ¬ m_3 346 run_.toNat = 0 then
      grd (InR (call_ + 1) ∧ 0 ≤ call_ + 1 ∧ call_ + 1 < 8) <|
      bq2 (C_Labels_getOff 352 (m_3 (124 + run_.toNat) (call_ + 1).toNat) (m_3 (197 + run_.toNat) (call_ + 1).toNat) m_3) fun r_2 m_5 =>
      grd (InR (index_2 + 1)) <|
      ltv (index_2 + 1) fun index_4 =>
      some (.inl (index_4, m_5))
    else
      grd (InR (index_2 + 1)) <|
      ltv (index_2 + 1) fun index_3 =>
      some (.inl (index_3, m_3))) fun kj_ =>
    grd (((minute_ ≤ leave_) → 0 ≤ run_) ∧ ((minute_ ≤ leave_) → run_ < 72)) <|
    if (minute_ ≤ leave_) ∧ (m_2 346 run_.toNat = 0) then
      grd (0 ≤ run_ ∧ run_ < 72 ∧ 0 ≤ call_ ∧ call_ < 8) <|
      (C_Labels_canGetOn 352 (m_2 (124 + run_.toNat) call_.toNat) leave_ m_2).bind fun r_ =>
      grd ((r_ = 0 ∨ r_ = 1)) <|
      ltv (setM m_2 346 run_.toNat r_) fun m_4 =>
      kj_ m_4
    else
      kj_ m_2
  else
    some (.inr (index_2, m_2))
noncomputable def C_Search_readHops (minute_ : Int) (m : Mem) : Option Mem :=
  (C_Search_leaveRuns m).bind fun m_ =>
  ltv (0 : Int) fun index_ =>
  bq2 (loop (fun s => C_Search_readHops_b1 minute_ s.1 s.2) (index_, m_)) fun index_5 m_6 =>
  some m_6
def rm_X6_readHops : Room := { frames := 2, cells := 0, slots := 0, locals := 46 }
noncomputable def C_Search_scan (from_ : Int) (minute_ : Int) (m : Mem) : Option Mem :=
  (C_Labels_begin 352 from_ minute_ m).bind fun m_ =>
  (C_Search_readHops minute_ m_).bind fun m_2 =>
  some m_2
def rm_X6_scan : Room := { frames := 3, cells := 0, slots := 0, locals := 72 }
noncomputable def C_Labels_at (x : Nat) (stop_ : Int) (m : Mem) : Option Int :=
  grd (0 ≤ stop_ ∧ stop_ < 12) <|
  some (if m (x + 2) stop_.toNat < m (x + 1) stop_.toNat then m (x + 2) stop_.toNat else m (x + 1) stop_.toNat)
def rm_X2_at : Room := { frames := 1, cells := 0, slots := 0, locals := 60 }
noncomputable def C_earliest (from_ : Int) (to_ : Int) (day_ : Int) (minute_ : Int) (m : Mem) : Option ((Int ⊕ Nat) × Mem) :=
  (C_needWay from_ to_ day_ minute_ m).bind fun q3 => tbd q3 fun u_ m_ =>
  (C_Net_lay day_ (-1) 0 m_).bind fun m_2 =>
  (C_Search_scan from_ minute_ m_2).bind fun m_3 =>
  (C_Labels_at 352 to_ m_3).bind fun r_ =>
  (C_needFound r_ m_3).bind fun q18 => tbd q18 fun u_2 m_4 =>
  (C_Labels_at 352 to_ m_4).bind fun r_2 =>
  some (.inl r_2, m_4)
def rm_X11_earliest : Room := { frames := 9, cells := 5, slots := 30, locals := 148 }
noncomputable def C_Search_minuteAt (place_ : Int) (m : Mem) : Option Int :=
  grd ((¬ (place_ < 12) → InR (place_ - 12)) ∧ (¬ (place_ < 12) → 0 ≤ place_ - 12) ∧ (¬ (place_ < 12) → place_ - 12 < 12) ∧ ((place_ < 12) → 0 ≤ place_) ∧ ((place_ < 12) → place_ < 12)) <|
  some (if place_ < 12 then m (352 + 2) place_.toNat else m (352 + 1) (place_ - 12).toNat)
def rm_X6_minuteAt : Room := { frames := 0, cells := 0, slots := 0, locals := 0 }
noncomputable def C_Search_nearest_b1 (m : Mem) (best_2 : Int) (least_2 : Int) (place_2 : Int) : Option ((Int × Int × Int) ⊕ (Int × Int × Int)) :=
  if place_2 < 24 then
    grd (((place_2.tmod 12 < m 1 0) → 0 ≤ place_2) ∧ ((place_2.tmod 12 < m 1 0) → place_2 < 24)) <|
    ltv ((if (place_2.tmod 12 < m 1 0) ∧ (m 349 place_2.toNat = 0) then 1 else 0) : Int) fun isOpen_ =>
    if ¬ isOpen_ = 0 then
      (C_Search_minuteAt place_2 m).bind fun r_ =>
      if r_ < least_2 then
        (C_Search_minuteAt place_2 m).bind fun r_2 =>
        ltv (r_2 : Int) fun least_3 =>
        ltv (place_2 : Int) fun best_3 =>
        grd (InR (place_2 + 1)) <|
        ltv (place_2 + 1) fun place_5 =>
        some (.inl (best_3, least_3, place_5))
      else
        grd (InR (place_2 + 1)) <|
        ltv (place_2 + 1) fun place_4 =>
        some (.inl (best_2, least_2, place_4))
    else
      grd (InR (place_2 + 1)) <|
      ltv (place_2 + 1) fun place_3 =>
      some (.inl (best_2, least_2, place_3))
  else
    some (.inr (best_2, least_2, place_2))
noncomputable def C_Search_nearest  (m : Mem) : Option Int :=
  ltv ((-1) : Int) fun best_ =>
  ltv (1000000 : Int) fun least_ =>
  ltv (0 : Int) fun place_ =>
  bq3 (loop (fun s => C_Search_nearest_b1 m s.1 s.2.1 s.2.2) (best_, least_, place_)) fun best_4 least_4 place_6 =>
  some best_4
def rm_X6_nearest : Room := { frames := 1, cells := 0, slots := 0, locals := 21 }
noncomputable def C_Search_getOnAll_b2 (stop_ : Int) (ready_ : Int) (run_2 : Int) (isOn_2 : Int) (call_2 : Int) (m_2 : Mem) : Option ((Int × Int × Mem) ⊕ (Int × Int × Mem)) :=
  grd (0 ≤ run_2 ∧ run_2 < 72) <|
  if call_2 < m_2 122 run_2.toNat then
    if ¬ isOn_2 = 0 then
      grd (0 ≤ call_2 ∧ call_2 < 8) <|
      bq2 (C_Labels_getOff 352 (m_2 (124 + run_2.toNat) call_2.toNat) (m_2 (197 + run_2.toNat) call_2.toNat) m_2) fun r_ m_3 =>
      grd (InR (call_2 + 1)) <|
      ltv (call_2 + 1) fun call_4 =>
      some (.inl (isOn_2, call_4, m_3))
    else
      grd (0 ≤ call_2 ∧ call_2 < 8) <|
      ltv ((if (m_2 (124 + run_2.toNat) call_2.toNat = stop_) ∧ (ready_ ≤ m_2 (270 + run_2.toNat) call_2.toNat) then 1 else 0) : Int) fun isOn_3 =>
      grd (InR (call_2 + 1)) <|
      ltv (call_2 + 1) fun call_3 =>
      some (.inl (isOn_3, call_3, m_2))
  else
    some (.inr (isOn_2, call_2, m_2))
noncomputable def C_Search_getOnAll_b1 (stop_ : Int) (ready_ : Int) (run_2 : Int) (m_ : Mem) : Option ((Int × Mem) ⊕ (Int × Mem)) :=
  if run_2 < m_ 119 4 then
    ltv (0 : Int) fun isOn_ =>
    ltv (0 : Int) fun call_ =>
    bq3 (loop (fun s => C_Search_getOnAll_b2 stop_ ready_ run_2 s.1 s.2.1 s.2.2) (isOn_, call_, m_)) fun isOn_4 call_5 m_4 =>
    grd (InR (run_2 + 1)) <|
    ltv (run_2 + 1) fun run_3 =>
    some (.inl (run_3, m_4))
  else
    some (.inr (run_2, m_))
noncomputable def C_Search_getOnAll (stop_ : Int) (ready_ : Int) (m : Mem) : Option Mem :=
  ltv (0 : Int) fun run_ =>
  bq2 (loop (fun s => C_Search_getOnAll_b1 stop_ ready_ s.1 s.2) (run_, m)) fun run_4 m_5 =>
  some m_5
def rm_X6_getOnAll : Room := { frames := 2, cells := 0, slots := 0, locals := 46 }
noncomputable def C_Search_goOnFromNearest_b1 (place_2 : Int) (m_2 : Mem) : Option ((Int × Mem) ⊕ (Int × Mem)) :=
  if place_2 < 24 then
    grd (0 ≤ place_2 ∧ place_2 < 24) <|
    ltv (setM m_2 349 place_2.toNat 0) fun m_3 =>
    grd (InR (place_2 + 1)) <|
    ltv (place_2 + 1) fun place_3 =>
    some (.inl (place_3, m_3))
  else
    some (.inr (place_2, m_2))
noncomputable def C_Search_goOnFromNearest_b2 (step_2 : Int) (m_5 : Mem) : Option ((Int × Mem) ⊕ ((Int × Mem) ⊕ Mem)) :=
  if step_2 < 24 then
    (C_Search_nearest m_5).bind fun r_ =>
    ltv (r_ : Int) fun place_5 =>
    if place_5 = (-1) then
      some (.inr (.inr m_5))
    else
      grd (0 ≤ place_5 ∧ place_5 < 24) <|
      ltv (setM m_5 349 place_5.toNat 1) fun m_6 =>
      ltv (place_5.tmod 12 : Int) fun stop_ =>
      grd ((¬ (place_5 < 12) → 0 ≤ stop_) ∧ (¬ (place_5 < 12) → stop_ < 12)) <|
      ltv ((if place_5 < 12 then 0 else m_6 2 stop_.toNat) : Int) fun pause_ =>
      (C_Search_minuteAt place_5 m_6).bind fun r_2 =>
      grd (InR (r_2 + pause_)) <|
      (C_Search_getOnAll stop_ (r_2 + pause_) m_6).bind fun m_7 =>
      grd (InR (step_2 + 1)) <|
      ltv (step_2 + 1) fun step_3 =>
      some (.inl (step_3, m_7))
  else
    some (.inr (.inl (step_2, m_5)))
noncomputable def C_Search_goOnFromNearest (from_ : Int) (minute_ : Int) (m : Mem) : Option Mem :=
  (C_Labels_begin 352 from_ minute_ m).bind fun m_ =>
  ltv (0 : Int) fun place_ =>
  bq2 (loop (fun s => C_Search_goOnFromNearest_b1 s.1 s.2) (place_, m_)) fun place_4 m_4 =>
  ltv (0 : Int) fun step_ =>
  br2 (fun q9 => some q9) (loop (fun s => C_Search_goOnFromNearest_b2 s.1 s.2) (step_, m_4)) fun step_4 m_8 =>
  some m_8
def rm_X6_goOnFromNearest : Room := { frames := 3, cells := 0, slots := 0, locals := 71 }
noncomputable def C_earliestByQueue (from_ : Int) (to_ : Int) (day_ : Int) (minute_ : Int) (m : Mem) : Option ((Int ⊕ Nat) × Mem) :=
  (C_needWay from_ to_ day_ minute_ m).bind fun q3 => tbd q3 fun u_ m_ =>
  (C_Net_lay day_ (-1) 0 m_).bind fun m_2 =>
  (C_Search_goOnFromNearest from_ minute_ m_2).bind fun m_3 =>
  (C_Labels_at 352 to_ m_3).bind fun r_ =>
  (C_needFound r_ m_3).bind fun q18 => tbd q18 fun u_2 m_4 =>
  (C_Labels_at 352 to_ m_4).bind fun r_2 =>
  some (.inl r_2, m_4)
def rm_X11_earliestByQueue : Room := { frames := 9, cells := 5, slots := 30, locals := 148 }
noncomputable def C_Labels_copy_b1 (x : Nat) (other_ : Nat) (stop_2 : Int) (m_ : Mem) : Option ((Int × Mem) ⊕ (Int × Mem)) :=
  if stop_2 < m_ 1 0 then
    grd (0 ≤ stop_2 ∧ stop_2 < 12) <|
    ltv (setM m_ (x + 1) stop_2.toNat (m_ (other_ + 1) stop_2.toNat)) fun m_2 =>
    ltv (setM m_2 (x + 2) stop_2.toNat (m_2 (other_ + 2) stop_2.toNat)) fun m_3 =>
    grd (InR (stop_2 + 1)) <|
    ltv (stop_2 + 1) fun stop_3 =>
    some (.inl (stop_3, m_3))
  else
    some (.inr (stop_2, m_))
noncomputable def C_Labels_copy (x : Nat) (other_ : Nat) (m : Mem) : Option Mem :=
  ltv (0 : Int) fun stop_ =>
  bq2 (loop (fun s => C_Labels_copy_b1 x other_ s.1 s.2) (stop_, m)) fun stop_4 m_4 =>
  some m_4
def rm_X2_copy : Room := { frames := 0, cells := 0, slots := 0, locals := 0 }
noncomputable def C_Rounds_rideOnce_b2 (ahead_ : Nat) (then_ : Nat) (run_2 : Int) (isBetter_3 : Int) (isOn_2 : Int) (call_2 : Int) (m_2 : Mem) : Option ((Int × Int × Int × Mem) ⊕ (Int × Int × Int × Mem)) :=
  grd (0 ≤ run_2 ∧ run_2 < 72) <|
  if call_2 < m_2 122 run_2.toNat then
    ltv (fun (isBetter_4 : Int) (m_3 : Mem) =>
    ltv (fun (v_ : Int) =>
    ltv (v_ : Int) fun isOn_3 =>
    grd (InR (call_2 + 1)) <|
    ltv (call_2 + 1) fun call_3 =>
    some (.inl (isBetter_4, isOn_3, call_3, m_3))) fun kj_2 =>
    if ¬ isOn_2 = 0 then
      kj_2 1
    else
      grd (0 ≤ run_2 ∧ run_2 < 72 ∧ 0 ≤ call_2 ∧ call_2 < 8) <|
      (C_Labels_canGetOn ahead_ (m_3 (124 + run_2.toNat) call_2.toNat) (m_3 (270 + run_2.toNat) call_2.toNat) m_3).bind fun r_2 =>
      if ¬ r_2 = 0 then
        kj_2 1
      else
        kj_2 0) fun kj_ =>
    if ¬ isOn_2 = 0 then
      grd (0 ≤ call_2 ∧ call_2 < 8) <|
      bq2 (C_Labels_getOff then_ (m_2 (124 + run_2.toNat) call_2.toNat) (m_2 (197 + run_2.toNat) call_2.toNat) m_2) fun r_ m_4 =>
      if ¬ r_ = 0 then
        ltv (1 : Int) fun isBetter_5 =>
        kj_ isBetter_5 m_4
      else
        kj_ isBetter_3 m_4
    else
      kj_ isBetter_3 m_2
  else
    some (.inr (isBetter_3, isOn_2, call_2, m_2))
noncomputable def C_Rounds_rideOnce_b1 (ahead_ : Nat) (then_ : Nat) (isBetter_2 : Int) (run_2 : Int) (m_ : Mem) : Option ((Int × Int × Mem) ⊕ (Int × Int × Mem)) :=
  if run_2 < m_ 119 4 then
    ltv (0 : Int) fun isOn_ =>
    ltv (0 : Int) fun call_ =>
    bq4 (loop (fun s => C_Rounds_rideOnce_b2 ahead_ then_ run_2 s.1 s.2.1 s.2.2.1 s.2.2.2) (isBetter_2, isOn_, call_, m_)) fun isBetter_6 isOn_4 call_4 m_5 =>
    grd (InR (run_2 + 1)) <|
    ltv (run_2 + 1) fun run_3 =>
    some (.inl (isBetter_6, run_3, m_5))
  else
    some (.inr (isBetter_2, run_2, m_))
noncomputable def C_Rounds_rideOnce (ahead_ : Nat) (then_ : Nat) (m : Mem) : Option (Int × Mem) :=
  ltv (0 : Int) fun isBetter_ =>
  ltv (0 : Int) fun run_ =>
  bq3 (loop (fun s => C_Rounds_rideOnce_b1 ahead_ then_ s.1 s.2.1 s.2.2) (isBetter_, run_, m)) fun isBetter_7 run_4 m_6 =>
  grd ((isBetter_7 = 0 ∨ isBetter_7 = 1)) <|
  some (isBetter_7, m_6)
def rm_X4_rideOnce : Room := { frames := 2, cells := 0, slots := 0, locals := 46 }
noncomputable def C_Rounds_fill_b1 (round_2 : Int) (m_3 : Mem) : Option ((Int × Mem) ⊕ ((Int × Mem) ⊕ Mem)) :=
  if round_2 ≤ 12 then
    grd (0 ≤ round_2 ∧ round_2 < 13 ∧ InR (round_2 - 1) ∧ 0 ≤ round_2 - 1 ∧ round_2 - 1 < 13) <|
    (C_Labels_copy (361 + 3 * round_2.toNat) (361 + 3 * (round_2 - 1).toNat) m_3).bind fun m_4 =>
    bq2 (C_Rounds_rideOnce (361 + 3 * (round_2 - 1).toNat) (361 + 3 * round_2.toNat) m_4) fun r_ m_5 =>
    if ¬ r_ = 0 then
      ltv (setM m_5 355 3 round_2) fun m_6 =>
      grd (InR (round_2 + 1)) <|
      ltv (round_2 + 1) fun round_3 =>
      some (.inl (round_3, m_6))
    else
      some (.inr (.inr m_5))
  else
    some (.inr (.inl (round_2, m_3)))
noncomputable def C_Rounds_fill (from_ : Int) (minute_ : Int) (m : Mem) : Option Mem :=
  (C_Labels_begin (361 + 3 * 0) from_ minute_ m).bind fun m_ =>
  ltv (setM m_ 355 3 0) fun m_2 =>
  ltv (1 : Int) fun round_ =>
  br2 (fun q9 => some q9) (loop (fun s => C_Rounds_fill_b1 s.1 s.2) (round_, m_2)) fun round_4 m_7 =>
  some m_7
def rm_X4_fill : Room := { frames := 3, cells := 0, slots := 0, locals := 72 }
noncomputable def C_Rounds_least (to_ : Int) (m : Mem) : Option Int :=
  grd (0 ≤ m 355 3 ∧ m 355 3 < 13) <|
  (C_Labels_at (361 + 3 * (m 355 3).toNat) to_ m).bind fun r_ =>
  some r_
def rm_X4_least : Room := { frames := 2, cells := 0, slots := 0, locals := 81 }
noncomputable def C_earliestByRounds (from_ : Int) (to_ : Int) (day_ : Int) (minute_ : Int) (m : Mem) : Option ((Int ⊕ Nat) × Mem) :=
  (C_needWay from_ to_ day_ minute_ m).bind fun q3 => tbd q3 fun u_ m_ =>
  (C_Net_lay day_ (-1) 0 m_).bind fun m_2 =>
  (C_Rounds_fill from_ minute_ m_2).bind fun m_3 =>
  (C_Rounds_least to_ m_3).bind fun r_ =>
  (C_needFound r_ m_3).bind fun q18 => tbd q18 fun u_2 m_4 =>
  (C_Rounds_least to_ m_4).bind fun r_2 =>
  some (.inl r_2, m_4)
def rm_X11_earliestByRounds : Room := { frames := 9, cells := 5, slots := 30, locals := 148 }
noncomputable def C_wall_b1 (before_ : Int) (m_6 : Mem) (sum_2 : Int) (stop_2 : Int) : Option ((Int × Int) ⊕ (Int × Int)) :=
  if stop_2 < m_6 1 0 then
    (C_Labels_at 352 stop_2 m_6).bind fun r_ =>
    if r_ < before_ then
      ltv (jior sum_2 (jishl 1 stop_2) : Int) fun sum_3 =>
      grd (InR (stop_2 + 1)) <|
      ltv (stop_2 + 1) fun stop_4 =>
      some (.inl (sum_3, stop_4))
    else
      grd (InR (stop_2 + 1)) <|
      ltv (stop_2 + 1) fun stop_3 =>
      some (.inl (sum_2, stop_3))
  else
    some (.inr (sum_2, stop_2))
noncomputable def C_wall (from_ : Int) (day_ : Int) (minute_ : Int) (before_ : Int) (m : Mem) : Option ((Int ⊕ Nat) × Mem) :=
  (C_needStop from_ m).bind fun q3 => tbd q3 fun u_ m_ =>
  (C_needDay day_ m_).bind fun q7 => tbd q7 fun u_2 m_2 =>
  (C_needNumber minute_ 0 1439 m_2).bind fun q11 => tbd q11 fun u_3 m_3 =>
  (C_needNumber before_ 0 4319 m_3).bind fun q15 => tbd q15 fun u_4 m_4 =>
  (C_Net_lay day_ (-1) 0 m_4).bind fun m_5 =>
  (C_Search_scan from_ minute_ m_5).bind fun m_6 =>
  ltv (0 : Int) fun sum_ =>
  ltv (0 : Int) fun stop_ =>
  bq2 (loop (fun s => C_wall_b1 before_ m_6 s.1 s.2) (sum_, stop_)) fun sum_4 stop_5 =>
  some (.inl sum_4, m_6)
def rm_X11_wall : Room := { frames := 8, cells := 4, slots := 24, locals := 124 }
noncomputable def C_Search_getOnBack_b1 (stop_ : Int) (leave_ : Int) (other_2 : Int) (m_3 : Mem) : Option ((Int × Mem) ⊕ (Int × Mem)) :=
  if other_2 < m_3 1 0 then
    grd (0 ≤ other_2 ∧ other_2 < 12 ∧ 0 ≤ stop_ ∧ stop_ < 12 ∧ InR (leave_ - (m_3 (17 + other_2.toNat) stop_.toNat))) <|
    ltv (setM m_3 348 other_2.toNat (if m_3 348 other_2.toNat < leave_ - (m_3 (17 + other_2.toNat) stop_.toNat) then leave_ - (m_3 (17 + other_2.toNat) stop_.toNat) else m_3 348 other_2.toNat)) fun m_4 =>
    grd (InR (other_2 + 1)) <|
    ltv (other_2 + 1) fun other_3 =>
    some (.inl (other_3, m_4))
  else
    some (.inr (other_2, m_3))
noncomputable def C_Search_getOnBack (stop_ : Int) (leave_ : Int) (m : Mem) : Option Mem :=
  grd (0 ≤ stop_ ∧ stop_ < 12) <|
  if leave_ ≤ m 347 stop_.toNat then
    some m
  else
    ltv (setM m 347 stop_.toNat leave_) fun m_ =>
    grd (InR (leave_ - (m_ 2 stop_.toNat))) <|
    ltv (setM m_ 348 stop_.toNat (if m_ 348 stop_.toNat < leave_ - (m_ 2 stop_.toNat) then leave_ - (m_ 2 stop_.toNat) else m_ 348 stop_.toNat)) fun m_2 =>
    ltv (0 : Int) fun other_ =>
    bq2 (loop (fun s => C_Search_getOnBack_b1 stop_ leave_ s.1 s.2) (other_, m_2)) fun other_4 m_5 =>
    some m_5
def rm_X6_getOnBack : Room := { frames := 1, cells := 0, slots := 0, locals := 60 }
noncomputable def C_Search_scanBack_b1 (to_ : Int) (by_ : Int) (stop_2 : Int) (m_2 : Mem) : Option ((Int × Mem) ⊕ (Int × Mem)) :=
  if stop_2 < m_2 1 0 then
    grd (0 ≤ stop_2 ∧ stop_2 < 12) <|
    ltv (setM m_2 347 stop_2.toNat (-1)) fun m_3 =>
    grd ((¬ (stop_2 = to_) → 0 ≤ to_) ∧ (¬ (stop_2 = to_) → to_ < 12) ∧ (¬ (stop_2 = to_) → InR (by_ - (m_3 (17 + stop_2.toNat) to_.toNat)))) <|
    ltv (setM m_3 348 stop_2.toNat (if stop_2 = to_ then by_ else by_ - (m_3 (17 + stop_2.toNat) to_.toNat))) fun m_4 =>
    grd (InR (stop_2 + 1)) <|
    ltv (stop_2 + 1) fun stop_3 =>
    some (.inl (stop_3, m_4))
  else
    some (.inr (stop_2, m_2))
noncomputable def C_Search_scanBack_b2 (index_2 : Int) (m_6 : Mem) : Option ((Int × Mem) ⊕ (Int × Mem)) :=
  if 0 ≤ index_2 then
    grd (0 ≤ index_2 ∧ index_2 < 576) <|
    ltv (m_6 343 index_2.toNat : Int) fun key_ =>
    ltv (C_Net_runOf key_ : Int) fun run_ =>
    ltv (C_Net_callOf key_ : Int) fun call_ =>
    ltv (fun (m_7 : Mem) =>
    grd (0 ≤ run_ ∧ run_ < 72) <|
    if ¬ m_7 346 run_.toNat = 0 then
      grd (0 ≤ call_ ∧ call_ < 8) <|
      (C_Search_getOnBack (m_7 (124 + run_.toNat) call_.toNat) (m_7 (270 + run_.toNat) call_.toNat) m_7).bind fun m_9 =>
      grd (InR (index_2 - 1)) <|
      ltv (index_2 - 1) fun index_4 =>
      some (.inl (index_4, m_9))
    else
      grd (InR (index_2 - 1)) <|
      ltv (index_2 - 1) fun index_3 =>
      some (.inl (index_3, m_7))) fun kj_ =>
    grd (0 ≤ run_ ∧ run_ < 72 ∧ InR (call_ + 1) ∧ 0 ≤ call_ + 1 ∧ call_ + 1 < 8 ∧ 0 ≤ m_6 (124 + run_.toNat) (call_ + 1).toNat ∧ m_6 (124 + run_.toNat) (call_ + 1).toNat < 12) <|
    if key_.tdiv 1024 ≤ m_6 348 (m_6 (124 + run_.toNat) (call_ + 1).toNat).toNat then
      ltv (setM m_6 346 run_.toNat 1) fun m_8 =>
      kj_ m_8
    else
      kj_ m_6
  else
    some (.inr (index_2, m_6))
noncomputable def C_Search_scanBack (to_ : Int) (by_ : Int) (m : Mem) : Option Mem :=
  (C_Search_leaveRuns m).bind fun m_ =>
  ltv (0 : Int) fun stop_ =>
  bq2 (loop (fun s => C_Search_scanBack_b1 to_ by_ s.1 s.2) (stop_, m_)) fun stop_4 m_5 =>
  grd (InR (m_5 119 11 - 1)) <|
  ltv (m_5 119 11 - 1 : Int) fun index_ =>
  bq2 (loop (fun s => C_Search_scanBack_b2 s.1 s.2) (index_, m_5)) fun index_5 m_10 =>
  some m_10
def rm_X6_scanBack : Room := { frames := 2, cells := 0, slots := 0, locals := 83 }
noncomputable def C_Search_lastLeaveByRides_b1 (from_ : Int) (m_ : Mem) (leave_2 : Int) (stop_2 : Int) : Option ((Int × Int) ⊕ (Int × Int)) :=
  if stop_2 < m_ 1 0 then
    grd (0 ≤ stop_2 ∧ stop_2 < 12 ∧ 0 ≤ from_ ∧ from_ < 12 ∧ InR (m_ 347 stop_2.toNat - (m_ (17 + from_.toNat) stop_2.toNat))) <|
    ltv ((if leave_2 < m_ 347 stop_2.toNat - (m_ (17 + from_.toNat) stop_2.toNat) then m_ 347 stop_2.toNat - (m_ (17 + from_.toNat) stop_2.toNat) else leave_2) : Int) fun leave_3 =>
    grd (InR (stop_2 + 1)) <|
    ltv (stop_2 + 1) fun stop_3 =>
    some (.inl (leave_3, stop_3))
  else
    some (.inr (leave_2, stop_2))
noncomputable def C_Search_lastLeaveByRides (from_ : Int) (to_ : Int) (by_ : Int) (m : Mem) : Option (Int × Mem) :=
  (C_Search_scanBack to_ by_ m).bind fun m_ =>
  grd (0 ≤ from_ ∧ from_ < 12) <|
  ltv (m_ 347 from_.toNat : Int) fun leave_ =>
  ltv (0 : Int) fun stop_ =>
  bq2 (loop (fun s => C_Search_lastLeaveByRides_b1 from_ m_ s.1 s.2) (leave_, stop_)) fun leave_4 stop_4 =>
  some (leave_4, m_)
def rm_X6_lastLeaveByRides : Room := { frames := 3, cells := 0, slots := 0, locals := 109 }
noncomputable def C_Search_lastLeave (from_ : Int) (to_ : Int) (by_ : Int) (m : Mem) : Option (Int × Mem) :=
  bq2 (C_Search_lastLeaveByRides from_ to_ by_ m) fun r_ m_ =>
  ltv (r_ : Int) fun byRides_ =>
  grd ((¬ (from_ = to_) → 0 ≤ from_) ∧ (¬ (from_ = to_) → from_ < 12) ∧ (¬ (from_ = to_) → 0 ≤ to_) ∧ (¬ (from_ = to_) → to_ < 12) ∧ (¬ (from_ = to_) → InR (by_ - (m_ (17 + from_.toNat) to_.toNat)))) <|
  ltv ((if from_ = to_ then by_ else by_ - (m_ (17 + from_.toNat) to_.toNat)) : Int) fun byFoot_ =>
  some ((if byRides_ < byFoot_ then byFoot_ else byRides_), m_)
def rm_X6_lastLeave : Room := { frames := 4, cells := 0, slots := 0, locals := 134 }
noncomputable def C_last (from_ : Int) (to_ : Int) (day_ : Int) (minute_ : Int) (m : Mem) : Option ((Int ⊕ Nat) × Mem) :=
  (C_needStop from_ m).bind fun q3 => tbd q3 fun u_ m_ =>
  (C_needStop to_ m_).bind fun q7 => tbd q7 fun u_2 m_2 =>
  (C_needDay day_ m_2).bind fun q11 => tbd q11 fun u_3 m_3 =>
  (C_needNumber minute_ 0 2879 m_3).bind fun q15 => tbd q15 fun u_4 m_4 =>
  (C_Net_lay day_ (-1) 0 m_4).bind fun m_5 =>
  bq2 (C_Search_lastLeave from_ to_ minute_ m_5) fun r_ m_6 =>
  ltv (r_ : Int) fun leave_ =>
  if leave_ < 0 then
    some (.inr 5, m_6)
  else
    some (.inl leave_, m_6)
def rm_X11_last : Room := { frames := 8, cells := 5, slots := 30, locals := 159 }
noncomputable def C_Rounds_fewestRides_b1 (to_ : Int) (m : Mem) (round_2 : Int) : Option ((Int) ⊕ ((Int) ⊕ Int)) :=
  if round_2 < m 355 3 then
    grd (0 ≤ round_2 ∧ round_2 < 13) <|
    (C_Labels_at (361 + 3 * round_2.toNat) to_ m).bind fun r_ =>
    (C_Rounds_least to_ m).bind fun r_2 =>
    if r_ = r_2 then
      some (.inr (.inr round_2))
    else
      grd (InR (round_2 + 1)) <|
      ltv (round_2 + 1) fun round_3 =>
      some (.inl round_3)
  else
    some (.inr (.inl round_2))
noncomputable def C_Rounds_fewestRides (to_ : Int) (m : Mem) : Option Int :=
  ltv (0 : Int) fun round_ =>
  br1 (fun q9 => some q9) (loop (fun s => C_Rounds_fewestRides_b1 to_ m s) round_) fun round_4 =>
  some (m 355 3)
def rm_X4_fewestRides : Room := { frames := 3, cells := 0, slots := 0, locals := 102 }
noncomputable def C_Rounds_offCall_b1 (run_ : Int) (ride_ : Int) (stop_ : Int) (by_ : Int) (pause_ : Int) (m : Mem) (isOn_2 : Int) (call_2 : Int) : Option ((Int × Int) ⊕ ((Int × Int) ⊕ Int)) :=
  grd (0 ≤ run_ ∧ run_ < 72) <|
  if call_2 < m 122 run_.toNat then
    grd (0 ≤ call_2 ∧ call_2 < 8 ∧ (¬ (m (124 + run_.toNat) call_2.toNat = stop_) → 0 ≤ m (124 + run_.toNat) call_2.toNat) ∧ (¬ (m (124 + run_.toNat) call_2.toNat = stop_) → m (124 + run_.toNat) call_2.toNat < 12) ∧ (¬ (m (124 + run_.toNat) call_2.toNat = stop_) → 0 ≤ stop_) ∧ (¬ (m (124 + run_.toNat) call_2.toNat = stop_) → stop_ < 12)) <|
    ltv ((if m (124 + run_.toNat) call_2.toNat = stop_ then pause_ else m (17 + (m (124 + run_.toNat) call_2.toNat).toNat) stop_.toNat) : Int) fun between_ =>
    grd (((¬ isOn_2 = 0) → 0 ≤ call_2) ∧ ((¬ isOn_2 = 0) → call_2 < 8) ∧ ((¬ isOn_2 = 0) → InR (m (197 + run_.toNat) call_2.toNat + between_))) <|
    if (¬ isOn_2 = 0) ∧ (m (197 + run_.toNat) call_2.toNat + between_ ≤ by_) then
      some (.inr (.inr call_2))
    else
      ltv (fun (v_ : Int) =>
      ltv (v_ : Int) fun isOn_3 =>
      grd (InR (call_2 + 1)) <|
      ltv (call_2 + 1) fun call_3 =>
      some (.inl (isOn_3, call_3))) fun kj_ =>
      if ¬ isOn_2 = 0 then
        kj_ 1
      else
        grd (0 ≤ ride_ ∧ ride_ < 13 ∧ 0 ≤ call_2 ∧ call_2 < 8) <|
        (C_Labels_canGetOn (361 + 3 * ride_.toNat) (m (124 + run_.toNat) call_2.toNat) (m (270 + run_.toNat) call_2.toNat) m).bind fun r_ =>
        if ¬ r_ = 0 then
          kj_ 1
        else
          kj_ 0
  else
    some (.inr (.inl (isOn_2, call_2)))
noncomputable def C_Rounds_offCall (run_ : Int) (ride_ : Int) (stop_ : Int) (by_ : Int) (pause_ : Int) (m : Mem) : Option Int :=
  ltv (0 : Int) fun isOn_ =>
  ltv (0 : Int) fun call_ =>
  br2 (fun q9 => some q9) (loop (fun s => C_Rounds_offCall_b1 run_ ride_ stop_ by_ pause_ m s.1 s.2) (isOn_, call_)) fun isOn_4 call_4 =>
  some (-1)
def rm_X4_offCall : Room := { frames := 1, cells := 0, slots := 0, locals := 22 }
noncomputable def C_Rounds_findRide_b1 (ride_ : Int) (stop_ : Int) (by_ : Int) (pause_ : Int) (m : Mem) (run_2 : Int) : Option ((Int) ⊕ ((Int) ⊕ Int)) :=
  if run_2 < m 119 4 then
    (C_Rounds_offCall run_2 ride_ stop_ by_ pause_ m).bind fun r_ =>
    if ¬ r_ = (-1) then
      some (.inr (.inr run_2))
    else
      grd (InR (run_2 + 1)) <|
      ltv (run_2 + 1) fun run_3 =>
      some (.inl run_3)
  else
    some (.inr (.inl run_2))
noncomputable def C_Rounds_findRide (ride_ : Int) (stop_ : Int) (by_ : Int) (pause_ : Int) (m : Mem) : Option Int :=
  ltv (0 : Int) fun run_ =>
  br1 (fun q9 => some q9) (loop (fun s => C_Rounds_findRide_b1 ride_ stop_ by_ pause_ m s) run_) fun run_4 =>
  some 0
def rm_X4_findRide : Room := { frames := 2, cells := 0, slots := 0, locals := 50 }
noncomputable def C_Rounds_onCall_b1 (run_ : Int) (ride_ : Int) (m : Mem) (call_2 : Int) : Option ((Int) ⊕ ((Int) ⊕ Int)) :=
  if 0 < call_2 then
    grd (0 ≤ ride_ ∧ ride_ < 13 ∧ 0 ≤ run_ ∧ run_ < 72 ∧ 0 ≤ call_2 ∧ call_2 < 8) <|
    (C_Labels_canGetOn (361 + 3 * ride_.toNat) (m (124 + run_.toNat) call_2.toNat) (m (270 + run_.toNat) call_2.toNat) m).bind fun r_ =>
    if ¬ r_ = 0 then
      some (.inr (.inr call_2))
    else
      grd (InR (call_2 - 1)) <|
      ltv (call_2 - 1) fun call_3 =>
      some (.inl call_3)
  else
    some (.inr (.inl call_2))
noncomputable def C_Rounds_onCall (run_ : Int) (ride_ : Int) (off_ : Int) (m : Mem) : Option Int :=
  grd (InR (off_ - 1)) <|
  ltv (off_ - 1 : Int) fun call_ =>
  br1 (fun q9 => some q9) (loop (fun s => C_Rounds_onCall_b1 run_ ride_ m s) call_) fun call_4 =>
  some 0
def rm_X4_onCall : Room := { frames := 1, cells := 0, slots := 0, locals := 22 }
noncomputable def C_Rounds_keepChain_b1 (stop_2 : Int) (by_2 : Int) (pause_2 : Int) (ride_2 : Int) (m_2 : Mem) : Option ((Int × Int × Int × Int × Mem) ⊕ (Int × Int × Int × Int × Mem)) :=
  if 0 ≤ ride_2 then
    (C_Rounds_findRide ride_2 stop_2 by_2 pause_2 m_2).bind fun r_3 =>
    ltv (r_3 : Int) fun run_ =>
    grd (0 ≤ ride_2 ∧ ride_2 < 12 ∧ 0 ≤ run_ ∧ run_ < 72) <|
    ltv (setM m_2 357 ride_2.toNat (m_2 120 run_.toNat)) fun m_3 =>
    ltv (setM m_3 358 ride_2.toNat (m_3 121 run_.toNat)) fun m_4 =>
    (C_Rounds_offCall run_ ride_2 stop_2 by_2 pause_2 m_4).bind fun r_4 =>
    ltv (setM m_4 360 ride_2.toNat r_4) fun m_5 =>
    (C_Rounds_onCall run_ ride_2 (m_5 360 ride_2.toNat) m_5).bind fun r_5 =>
    ltv (setM m_5 359 ride_2.toNat r_5) fun m_6 =>
    grd (0 ≤ m_6 359 ride_2.toNat ∧ m_6 359 ride_2.toNat < 8) <|
    ltv (m_6 (124 + run_.toNat) (m_6 359 ride_2.toNat).toNat : Int) fun stop_3 =>
    ltv (m_6 (270 + run_.toNat) (m_6 359 ride_2.toNat).toNat : Int) fun by_3 =>
    grd (0 ≤ stop_3 ∧ stop_3 < 12) <|
    ltv (m_6 2 stop_3.toNat : Int) fun pause_3 =>
    grd (InR (ride_2 - 1)) <|
    ltv (ride_2 - 1) fun ride_3 =>
    some (.inl (stop_3, by_3, pause_3, ride_3, m_6))
  else
    some (.inr (stop_2, by_2, pause_2, ride_2, m_2))
noncomputable def C_Rounds_keepChain (to_ : Int) (m : Mem) : Option Mem :=
  (C_Rounds_fewestRides to_ m).bind fun r_ =>
  ltv (setM m 355 4 r_) fun m_ =>
  ltv (to_ : Int) fun stop_ =>
  (C_Rounds_least to_ m_).bind fun r_2 =>
  ltv (r_2 : Int) fun by_ =>
  ltv (0 : Int) fun pause_ =>
  grd (InR (m_ 355 4 - 1)) <|
  ltv (m_ 355 4 - 1 : Int) fun ride_ =>
  bq5 (loop (fun s => C_Rounds_keepChain_b1 s.1 s.2.1 s.2.2.1 s.2.2.2.1 s.2.2.2.2) (stop_, by_, pause_, ride_, m_)) fun stop_4 by_4 pause_4 ride_4 m_7 =>
  some m_7
def rm_X4_keepChain : Room := { frames := 4, cells := 0, slots := 0, locals := 124 }
noncomputable def C_chain (from_ : Int) (to_ : Int) (day_ : Int) (minute_ : Int) (m : Mem) : Option ((Int ⊕ Nat) × Mem) :=
  (C_needWay from_ to_ day_ minute_ m).bind fun q3 => tbd q3 fun u_ m_ =>
  (C_Net_lay day_ (-1) 0 m_).bind fun m_2 =>
  (C_Rounds_fill from_ minute_ m_2).bind fun m_3 =>
  (C_Rounds_least to_ m_3).bind fun r_ =>
  (C_needFound r_ m_3).bind fun q18 => tbd q18 fun u_2 m_4 =>
  (C_Rounds_keepChain to_ m_4).bind fun m_5 =>
  some (.inl (m_5 355 4), m_5)
def rm_X11_chain : Room := { frames := 9, cells := 5, slots := 30, locals := 150 }
noncomputable def C_ride (index_ : Int) (what_ : Int) (m : Mem) : Option ((Int ⊕ Nat) × Mem) :=
  if (((¬ what_ = 116) ∧ (¬ what_ = 100)) ∧ (¬ what_ = 111)) ∧ (¬ what_ = 102) then
    some (.inr 0, m)
  else
    if (index_ < 0) ∨ (m 355 4 ≤ index_) then
      some (.inr 5, m)
    else
      if what_ = 116 then
        grd (0 ≤ index_ ∧ index_ < 12) <|
        some (.inl (m 357 index_.toNat), m)
      else
        if what_ = 100 then
          grd (0 ≤ index_ ∧ index_ < 12) <|
          some (.inl (m 358 index_.toNat), m)
        else
          grd ((¬ (what_ = 111) → 0 ≤ index_) ∧ (¬ (what_ = 111) → index_ < 12) ∧ ((what_ = 111) → 0 ≤ index_) ∧ ((what_ = 111) → index_ < 12)) <|
          some (.inl (if what_ = 111 then m 359 index_.toNat else m 360 index_.toNat), m)
def rm_X11_ride : Room := { frames := 6, cells := 2, slots := 12, locals := 82 }
noncomputable def C_needRun (trip_ : Int) (day_ : Int) (m : Mem) : Option ((Unit ⊕ Nat) × Mem) :=
  grd (0 ≤ trip_ ∧ trip_ < 24) <|
  (C_Services_isOn (m 32 trip_.toNat) day_ m).bind fun r_ =>
  if ¬ r_ = 0 then
    some (.inl (), m)
  else
    some (.inr 4, m)
def rm_X11_needRun : Room := { frames := 6, cells := 1, slots := 6, locals := 82 }
noncomputable def C_Search_scanOnBoard_b2 (run_2 : Int) (call_2 : Int) (m_3 : Mem) : Option ((Int × Mem) ⊕ (Int × Mem)) :=
  grd (0 ≤ run_2 ∧ run_2 < 72) <|
  if call_2 < m_3 122 run_2.toNat then
    grd (0 ≤ call_2 ∧ call_2 < 8) <|
    bq2 (C_Labels_getOff 352 (m_3 (124 + run_2.toNat) call_2.toNat) (m_3 (197 + run_2.toNat) call_2.toNat) m_3) fun r_ m_4 =>
    grd (InR (call_2 + 1)) <|
    ltv (call_2 + 1) fun call_3 =>
    some (.inl (call_3, m_4))
  else
    some (.inr (call_2, m_3))
noncomputable def C_Search_scanOnBoard_b1 (trip_ : Int) (from_ : Int) (run_2 : Int) (m_2 : Mem) : Option ((Int × Mem) ⊕ (Int × Mem)) :=
  if run_2 < m_2 119 4 then
    grd (0 ≤ run_2 ∧ run_2 < 72) <|
    if (m_2 120 run_2.toNat = trip_) ∧ (m_2 121 run_2.toNat = 0) then
      grd (InR (from_ + 1)) <|
      ltv (from_ + 1 : Int) fun call_ =>
      bq2 (loop (fun s => C_Search_scanOnBoard_b2 run_2 s.1 s.2) (call_, m_2)) fun call_4 m_5 =>
      grd (InR (run_2 + 1)) <|
      ltv (run_2 + 1) fun run_4 =>
      some (.inl (run_4, m_5))
    else
      grd (InR (run_2 + 1)) <|
      ltv (run_2 + 1) fun run_3 =>
      some (.inl (run_3, m_2))
  else
    some (.inr (run_2, m_2))
noncomputable def C_Search_scanOnBoard (trip_ : Int) (from_ : Int) (m : Mem) : Option Mem :=
  (C_Labels_clear 352 m).bind fun m_ =>
  ltv (0 : Int) fun run_ =>
  bq2 (loop (fun s => C_Search_scanOnBoard_b1 trip_ from_ s.1 s.2) (run_, m_)) fun run_5 m_6 =>
  (C_Search_readHops 0 m_6).bind fun m_7 =>
  some m_7
def rm_X6_scanOnBoard : Room := { frames := 3, cells := 0, slots := 0, locals := 72 }
noncomputable def C_onBoard (day_ : Int) (trip_ : Int) (call_ : Int) (to_ : Int) (m : Mem) : Option ((Int ⊕ Nat) × Mem) :=
  (C_needCall trip_ call_ m).bind fun q3 => tbd q3 fun u_ m_ =>
  (C_needStop to_ m_).bind fun q7 => tbd q7 fun u_2 m_2 =>
  (C_needDay day_ m_2).bind fun q11 => tbd q11 fun u_3 m_3 =>
  (C_needRun trip_ day_ m_3).bind fun q15 => tbd q15 fun u_4 m_4 =>
  grd (0 ≤ trip_ ∧ trip_ < 24 ∧ InR (m_4 33 trip_.toNat - 1)) <|
  if call_ = m_4 33 trip_.toNat - 1 then
    some (.inr 4, m_4)
  else
    (C_Net_lay day_ (-1) 0 m_4).bind fun m_5 =>
    (C_Search_scanOnBoard trip_ call_ m_5).bind fun m_6 =>
    (C_Labels_at 352 to_ m_6).bind fun r_ =>
    (C_needFound r_ m_6).bind fun q35 => tbd q35 fun u_5 m_7 =>
    (C_Labels_at 352 to_ m_7).bind fun r_2 =>
    some (.inl r_2, m_7)
def rm_X11_onBoard : Room := { frames := 8, cells := 7, slots := 42, locals := 125 }
noncomputable def C_Labels_atByRides_b1 (x : Nat) (to_ : Int) (m : Mem) (least_2 : Int) (stop_2 : Int) : Option ((Int × Int) ⊕ (Int × Int)) :=
  if stop_2 < m 1 0 then
    grd (0 ≤ stop_2 ∧ stop_2 < 12 ∧ 0 ≤ to_ ∧ to_ < 12 ∧ InR (m (x + 1) stop_2.toNat + (m (17 + stop_2.toNat) to_.toNat))) <|
    ltv ((if m (x + 1) stop_2.toNat + (m (17 + stop_2.toNat) to_.toNat) < least_2 then m (x + 1) stop_2.toNat + (m (17 + stop_2.toNat) to_.toNat) else least_2) : Int) fun least_3 =>
    grd (InR (stop_2 + 1)) <|
    ltv (stop_2 + 1) fun stop_3 =>
    some (.inl (least_3, stop_3))
  else
    some (.inr (least_2, stop_2))
noncomputable def C_Labels_atByRides (x : Nat) (to_ : Int) (m : Mem) : Option Int :=
  grd (0 ≤ to_ ∧ to_ < 12) <|
  ltv (m (x + 1) to_.toNat : Int) fun least_ =>
  ltv (0 : Int) fun stop_ =>
  bq2 (loop (fun s => C_Labels_atByRides_b1 x to_ m s.1 s.2) (least_, stop_)) fun least_4 stop_4 =>
  some least_4
def rm_X2_atByRides : Room := { frames := 1, cells := 0, slots := 0, locals := 60 }
noncomputable def C_Search_collectPairs_b1 (from_ : Int) (to_ : Int) (minute_2 : Int) (turn_2 : Int) (m_2 : Mem) : Option ((Int × Int × Mem) ⊕ ((Int × Int × Mem) ⊕ Mem)) :=
  if turn_2 < 576 then
    (C_Search_scan from_ minute_2 m_2).bind fun m_3 =>
    (C_Labels_atByRides 352 to_ m_3).bind fun r_ =>
    ltv (r_ : Int) fun by_ =>
    if 1000000 ≤ by_ then
      some (.inr (.inr m_3))
    else
      grd (0 ≤ m_3 345 7 ∧ m_3 345 7 < 576) <|
      bq2 (C_Search_lastLeaveByRides from_ to_ by_ m_3) fun r_2 m_4 =>
      ltv (setM m_4 350 (m_3 345 7).toNat r_2) fun m_5 =>
      grd (0 ≤ m_5 345 7 ∧ m_5 345 7 < 576) <|
      ltv (setM m_5 351 (m_5 345 7).toNat by_) fun m_6 =>
      grd (0 ≤ m_6 345 7 ∧ m_6 345 7 < 576 ∧ InR (m_6 350 (m_6 345 7).toNat + 1)) <|
      ltv (m_6 350 (m_6 345 7).toNat + 1 : Int) fun minute_3 =>
      grd (InR (m_6 345 7 + 1)) <|
      ltv (setM m_6 345 7 (m_6 345 7 + 1)) fun m_7 =>
      grd (InR (turn_2 + 1)) <|
      ltv (turn_2 + 1) fun turn_3 =>
      some (.inl (minute_3, turn_3, m_7))
  else
    some (.inr (.inl (minute_2, turn_2, m_2)))
noncomputable def C_Search_collectPairs (from_ : Int) (to_ : Int) (m : Mem) : Option Mem :=
  ltv (setM m 345 7 0) fun m_ =>
  ltv (0 : Int) fun minute_ =>
  ltv (0 : Int) fun turn_ =>
  br3 (fun q9 => some q9) (loop (fun s => C_Search_collectPairs_b1 from_ to_ s.1 s.2.1 s.2.2) (minute_, turn_, m_)) fun minute_4 turn_4 m_8 =>
  some m_8
def rm_X6_collectPairs : Room := { frames := 4, cells := 0, slots := 0, locals := 134 }
noncomputable def C_findPairs (from_ : Int) (to_ : Int) (day_ : Int) (m : Mem) : Option ((Unit ⊕ Nat) × Mem) :=
  (C_needStop from_ m).bind fun q3 => tbd q3 fun u_ m_ =>
  (C_needStop to_ m_).bind fun q7 => tbd q7 fun u_2 m_2 =>
  (C_needUnlike from_ to_ m_2).bind fun q11 => tbd q11 fun u_3 m_3 =>
  (C_needDay day_ m_3).bind fun q15 => tbd q15 fun u_4 m_4 =>
  (C_Net_lay day_ (-1) 0 m_4).bind fun m_5 =>
  (C_Search_collectPairs from_ to_ m_5).bind fun m_6 =>
  some (.inl (), m_6)
def rm_X11_findPairs : Room := { frames := 8, cells := 4, slots := 24, locals := 159 }
noncomputable def C_pairs (from_ : Int) (to_ : Int) (day_ : Int) (m : Mem) : Option ((Int ⊕ Nat) × Mem) :=
  (C_findPairs from_ to_ day_ m).bind fun q3 => tbd q3 fun u_ m_ =>
  some (.inl (m_ 345 7), m_)
def rm_X11_pairs : Room := { frames := 9, cells := 4, slots := 24, locals := 182 }
noncomputable def C_pair (from_ : Int) (to_ : Int) (day_ : Int) (index_ : Int) (isArrival_ : Int) (m : Mem) : Option ((Int ⊕ Nat) × Mem) :=
  (C_findPairs from_ to_ day_ m).bind fun q3 => tbd q3 fun u_ m_ =>
  if (index_ < 0) ∨ (m_ 345 7 ≤ index_) then
    some (.inr 5, m_)
  else
    grd ((¬ (¬ isArrival_ = 0) → 0 ≤ index_) ∧ (¬ (¬ isArrival_ = 0) → index_ < 576) ∧ ((¬ isArrival_ = 0) → 0 ≤ index_) ∧ ((¬ isArrival_ = 0) → index_ < 576)) <|
    some (.inl (if ¬ isArrival_ = 0 then m_ 351 index_.toNat else m_ 350 index_.toNat), m_)
def rm_X11_pair : Room := { frames := 9, cells := 5, slots := 30, locals := 182 }
noncomputable def C_Search_pairArrivalFrom_b1 (minute_ : Int) (m : Mem) (low_2 : Int) (high_2 : Int) (turn_2 : Int) : Option ((Int × Int × Int) ⊕ (Int × Int × Int)) :=
  if (turn_2 < 576) ∧ (low_2 < high_2) then
    grd (InR (low_2 + high_2)) <|
    ltv ((low_2 + high_2).tdiv 2 : Int) fun middle_ =>
    grd (0 ≤ middle_ ∧ middle_ < 576) <|
    if m 350 middle_.toNat < minute_ then
      grd (InR (middle_ + 1)) <|
      ltv (middle_ + 1 : Int) fun low_3 =>
      grd (InR (turn_2 + 1)) <|
      ltv (turn_2 + 1) fun turn_4 =>
      some (.inl (low_3, high_2, turn_4))
    else
      ltv (middle_ : Int) fun high_3 =>
      grd (InR (turn_2 + 1)) <|
      ltv (turn_2 + 1) fun turn_3 =>
      some (.inl (low_2, high_3, turn_3))
  else
    some (.inr (low_2, high_2, turn_2))
noncomputable def C_Search_pairArrivalFrom (minute_ : Int) (m : Mem) : Option Int :=
  ltv (0 : Int) fun low_ =>
  ltv (m 345 7 : Int) fun high_ =>
  ltv (0 : Int) fun turn_ =>
  bq3 (loop (fun s => C_Search_pairArrivalFrom_b1 minute_ m s.1 s.2.1 s.2.2) (low_, high_, turn_)) fun low_4 high_4 turn_5 =>
  grd (((low_4 < m 345 7) → 0 ≤ low_4) ∧ ((low_4 < m 345 7) → low_4 < 576)) <|
  some (if low_4 < m 345 7 then m 351 low_4.toNat else 1000000)
def rm_X6_pairArrivalFrom : Room := { frames := 0, cells := 0, slots := 0, locals := 0 }
noncomputable def C_byPairs (from_ : Int) (to_ : Int) (day_ : Int) (minute_ : Int) (m : Mem) : Option ((Int ⊕ Nat) × Mem) :=
  (C_needWay from_ to_ day_ minute_ m).bind fun q3 => tbd q3 fun u_ m_ =>
  if from_ = to_ then
    some (.inl minute_, m_)
  else
    (C_Net_lay day_ (-1) 0 m_).bind fun m_2 =>
    (C_Search_collectPairs from_ to_ m_2).bind fun m_3 =>
    (C_Search_pairArrivalFrom minute_ m_3).bind fun r_ =>
    grd (0 ≤ from_ ∧ from_ < 12 ∧ 0 ≤ to_ ∧ to_ < 12 ∧ InR (minute_ + (m_3 (17 + from_.toNat) to_.toNat))) <|
    ltv ((if minute_ + (m_3 (17 + from_.toNat) to_.toNat) < r_ then minute_ + (m_3 (17 + from_.toNat) to_.toNat) else r_) : Int) fun found_ =>
    (C_needFound found_ m_3).bind fun q25 => tbd q25 fun u_2 m_4 =>
    some (.inl found_, m_4)
def rm_X11_byPairs : Room := { frames := 9, cells := 5, slots := 30, locals := 159 }
noncomputable def C_Rounds_isChoice (round_ : Int) (to_ : Int) (m : Mem) : Option Int :=
  ltv (fun (v_ : Int) =>
  ltv (v_ : Int) fun fewer_ =>
  grd (0 ≤ round_ ∧ round_ < 13) <|
  (C_Labels_at (361 + 3 * round_.toNat) to_ m).bind fun r_2 =>
  if r_2 < fewer_ then
    some 1
  else
    some 0) fun kj_ =>
  if round_ = 0 then
    kj_ 1000000
  else
    grd (InR (round_ - 1) ∧ 0 ≤ round_ - 1 ∧ round_ - 1 < 13) <|
    (C_Labels_at (361 + 3 * (round_ - 1).toNat) to_ m).bind fun r_ =>
    kj_ r_
def rm_X4_isChoice : Room := { frames := 2, cells := 0, slots := 0, locals := 81 }
noncomputable def C_choices_b1 (to_ : Int) (m_3 : Mem) (count_2 : Int) (round_2 : Int) : Option ((Int × Int) ⊕ (Int × Int)) :=
  if round_2 ≤ m_3 355 3 then
    (C_Rounds_isChoice round_2 to_ m_3).bind fun r_ =>
    if ¬ r_ = 0 then
      grd (InR (count_2 + 1)) <|
      ltv (count_2 + 1) fun count_3 =>
      grd (InR (round_2 + 1)) <|
      ltv (round_2 + 1) fun round_4 =>
      some (.inl (count_3, round_4))
    else
      grd (InR (round_2 + 1)) <|
      ltv (round_2 + 1) fun round_3 =>
      some (.inl (count_2, round_3))
  else
    some (.inr (count_2, round_2))
noncomputable def C_choices (from_ : Int) (to_ : Int) (day_ : Int) (minute_ : Int) (m : Mem) : Option ((Int ⊕ Nat) × Mem) :=
  (C_needWay from_ to_ day_ minute_ m).bind fun q3 => tbd q3 fun u_ m_ =>
  (C_Net_lay day_ (-1) 0 m_).bind fun m_2 =>
  (C_Rounds_fill from_ minute_ m_2).bind fun m_3 =>
  ltv (0 : Int) fun count_ =>
  ltv (0 : Int) fun round_ =>
  bq2 (loop (fun s => C_choices_b1 to_ m_3 s.1 s.2) (count_, round_)) fun count_4 round_5 =>
  some (.inl count_4, m_3)
def rm_X11_choices : Room := { frames := 9, cells := 4, slots := 24, locals := 148 }
noncomputable def C_choice_b1 (to_ : Int) (m_3 : Mem) (left_2 : Int) (round_2 : Int) : Option ((Int × Int) ⊕ ((Int × Int) ⊕ ((Int ⊕ Nat) × Mem))) :=
  if (round_2 ≤ m_3 355 3) ∧ (0 ≤ left_2) then
    (C_Rounds_isChoice round_2 to_ m_3).bind fun r_ =>
    if ¬ r_ = 0 then
      if left_2 = 0 then
        grd (InR (5000 * round_2) ∧ 0 ≤ round_2 ∧ round_2 < 13) <|
        (C_Labels_at (361 + 3 * round_2.toNat) to_ m_3).bind fun r_2 =>
        grd (InR (5000 * round_2 + r_2)) <|
        some (.inr (.inr (.inl (5000 * round_2 + r_2), m_3)))
      else
        grd (InR (left_2 - 1)) <|
        ltv (left_2 - 1) fun left_3 =>
        grd (InR (round_2 + 1)) <|
        ltv (round_2 + 1) fun round_4 =>
        some (.inl (left_3, round_4))
    else
      grd (InR (round_2 + 1)) <|
      ltv (round_2 + 1) fun round_3 =>
      some (.inl (left_2, round_3))
  else
    some (.inr (.inl (left_2, round_2)))
noncomputable def C_choice (from_ : Int) (to_ : Int) (day_ : Int) (minute_ : Int) (index_ : Int) (m : Mem) : Option ((Int ⊕ Nat) × Mem) :=
  (C_needWay from_ to_ day_ minute_ m).bind fun q3 => tbd q3 fun u_ m_ =>
  (C_Net_lay day_ (-1) 0 m_).bind fun m_2 =>
  (C_Rounds_fill from_ minute_ m_2).bind fun m_3 =>
  ltv (index_ : Int) fun left_ =>
  ltv (0 : Int) fun round_ =>
  br2 (fun q9 => some q9) (loop (fun s => C_choice_b1 to_ m_3 s.1 s.2) (left_, round_)) fun left_4 round_5 =>
  some (.inr 5, m_3)
def rm_X11_choice : Room := { frames := 9, cells := 5, slots := 30, locals := 148 }
noncomputable def C_needChange (trip_ : Int) (call_ : Int) (other_ : Int) (otherCall_ : Int) (m : Mem) : Option ((Unit ⊕ Nat) × Mem) :=
  (C_needUnlike trip_ other_ m).bind fun q3 => tbd q3 fun u_ m_ =>
  grd ((¬ (call_ = 0) → 0 ≤ other_) ∧ (¬ (call_ = 0) → other_ < 24) ∧ (¬ (call_ = 0) → InR (m_ 33 other_.toNat - 1))) <|
  if (call_ = 0) ∨ (otherCall_ = m_ 33 other_.toNat - 1) then
    some (.inr 0, m_)
  else
    some (.inl (), m_)
def rm_X11_needChange : Room := { frames := 7, cells := 2, slots := 12, locals := 103 }
noncomputable def C_minutesBetween (stop_ : Int) (other_ : Int) (m : Mem) : Option (Int × Mem) :=
  if stop_ = other_ then
    grd (0 ≤ stop_ ∧ stop_ < 12) <|
    some (m 2 stop_.toNat, m)
  else
    (C_Stops_link (-1) m).bind fun m_ =>
    grd (0 ≤ stop_ ∧ stop_ < 12 ∧ 0 ≤ other_ ∧ other_ < 12) <|
    some (m_ (17 + stop_.toNat) other_.toNat, m_)
def rm_X11_minutesBetween : Room := { frames := 2, cells := 0, slots := 0, locals := 48 }
noncomputable def C_holds (day_ : Int) (trip_ : Int) (call_ : Int) (other_ : Int) (otherCall_ : Int) (m : Mem) : Option ((Int ⊕ Nat) × Mem) :=
  (C_needCall trip_ call_ m).bind fun q3 => tbd q3 fun u_ m_ =>
  (C_needCall other_ otherCall_ m_).bind fun q7 => tbd q7 fun u_2 m_2 =>
  (C_needDay day_ m_2).bind fun q11 => tbd q11 fun u_3 m_3 =>
  (C_needChange trip_ call_ other_ otherCall_ m_3).bind fun q15 => tbd q15 fun u_4 m_4 =>
  (C_needRun trip_ day_ m_4).bind fun q19 => tbd q19 fun u_5 m_5 =>
  (C_needRun other_ day_ m_5).bind fun q23 => tbd q23 fun u_6 m_6 =>
  grd (0 ≤ trip_ ∧ trip_ < 24 ∧ 0 ≤ call_ ∧ call_ < 8 ∧ 0 ≤ other_ ∧ other_ < 24 ∧ 0 ≤ otherCall_ ∧ otherCall_ < 8) <|
  bq2 (C_minutesBetween (m_6 (35 + trip_.toNat) call_.toNat) (m_6 (35 + other_.toNat) otherCall_.toNat) m_6) fun r_ m_7 =>
  ltv (r_ : Int) fun between_ =>
  (C_needFound between_ m_7).bind fun q32 => tbd q32 fun u_7 m_8 =>
  (C_Delays_find day_ trip_ m_8).bind fun r_2 =>
  grd (InR (call_ - 1)) <|
  (C_Delays_at r_2 (call_ - 1) m_8).bind fun r_3 =>
  grd (InR (m_8 (60 + trip_.toNat) call_.toNat + r_3)) <|
  ltv (m_8 (60 + trip_.toNat) call_.toNat + r_3 : Int) fun arrival_ =>
  (C_Delays_find day_ other_ m_8).bind fun r_4 =>
  (C_Delays_at r_4 otherCall_ m_8).bind fun r_5 =>
  grd (InR (m_8 (85 + other_.toNat) otherCall_.toNat + r_5)) <|
  ltv (m_8 (85 + other_.toNat) otherCall_.toNat + r_5 : Int) fun departure_ =>
  grd (InR (arrival_ + between_)) <|
  some (.inl (if arrival_ + between_ ≤ departure_ then 1 else 0), m_8)
def rm_X11_holds : Room := { frames := 8, cells := 10, slots := 60, locals := 127 }
noncomputable def C_Wishes_add (byTrip_ : Int) (offCall_ : Int) (toTrip_ : Int) (onCall_ : Int) (people_ : Int) (m : Mem) : Option (Int × Mem) :=
  grd (0 ≤ m 400 4 ∧ m 400 4 < 6) <|
  ltv (setM m 401 (m 400 4).toNat byTrip_) fun m_ =>
  grd (0 ≤ m_ 400 4 ∧ m_ 400 4 < 6) <|
  ltv (setM m_ 402 (m_ 400 4).toNat offCall_) fun m_2 =>
  grd (0 ≤ m_2 400 4 ∧ m_2 400 4 < 6) <|
  ltv (setM m_2 403 (m_2 400 4).toNat toTrip_) fun m_3 =>
  grd (0 ≤ m_3 400 4 ∧ m_3 400 4 < 6) <|
  ltv (setM m_3 404 (m_3 400 4).toNat onCall_) fun m_4 =>
  grd (0 ≤ m_4 400 4 ∧ m_4 400 4 < 6) <|
  ltv (setM m_4 405 (m_4 400 4).toNat people_) fun m_5 =>
  grd (InR (m_5 400 4 + 1)) <|
  ltv (setM m_5 400 4 (m_5 400 4 + 1)) fun m_6 =>
  grd (InR (m_6 400 4 - 1)) <|
  some (m_6 400 4 - 1, m_6)
def rm_X10_add : Room := { frames := 0, cells := 0, slots := 0, locals := 0 }
noncomputable def C_wish (trip_ : Int) (call_ : Int) (other_ : Int) (otherCall_ : Int) (travellers_ : Int) (m : Mem) : Option ((Int ⊕ Nat) × Mem) :=
  (C_needCall trip_ call_ m).bind fun q3 => tbd q3 fun u_ m_ =>
  (C_needCall other_ otherCall_ m_).bind fun q7 => tbd q7 fun u_2 m_2 =>
  (C_needChange trip_ call_ other_ otherCall_ m_2).bind fun q11 => tbd q11 fun u_3 m_3 =>
  (C_needNumber travellers_ 1 99 m_3).bind fun q15 => tbd q15 fun u_4 m_4 =>
  grd (0 ≤ trip_ ∧ trip_ < 24 ∧ 0 ≤ call_ ∧ call_ < 8 ∧ 0 ≤ other_ ∧ other_ < 24 ∧ 0 ≤ otherCall_ ∧ otherCall_ < 8) <|
  if ¬ m_4 (35 + trip_.toNat) call_.toNat = m_4 (35 + other_.toNat) otherCall_.toNat then
    some (.inr 4, m_4)
  else
    if 6 ≤ m_4 400 4 then
      some (.inr 1, m_4)
    else
      bq2 (C_Wishes_add trip_ call_ other_ otherCall_ travellers_ m_4) fun r_ m_5 =>
      some (.inl r_, m_5)
def rm_X11_wish : Room := { frames := 8, cells := 9, slots := 54, locals := 127 }
noncomputable def C_dropWishes  (m : Mem) : Option (Int × Mem) :=
  ltv (m 400 4 : Int) fun dropped_ =>
  ltv (setM m 400 4 0) fun m_ =>
  some (dropped_, m_)
def rm_X11_dropWishes : Room := { frames := 0, cells := 0, slots := 0, locals := 0 }
noncomputable def C_Wishes_tellDelays_b2 (index_2 : Int) (entry_ : Int) (at_2 : Int) (m_2 : Mem) : Option ((Int × Mem) ⊕ (Int × Mem)) :=
  grd (0 ≤ index_2 ∧ index_2 < 24) <|
  if at_2 < m_2 33 index_2.toNat then
    grd (0 ≤ at_2 ∧ at_2 < 8) <|
    (C_Delays_at entry_ at_2 m_2).bind fun r_2 =>
    ltv (setM m_2 (407 + index_2.toNat) at_2.toNat r_2) fun m_3 =>
    grd (InR (at_2 + 1)) <|
    ltv (at_2 + 1) fun at_3 =>
    some (.inl (at_3, m_3))
  else
    some (.inr (at_2, m_2))
noncomputable def C_Wishes_tellDelays_b1 (day_ : Int) (index_2 : Int) (m_ : Mem) : Option ((Int × Mem) ⊕ (Int × Mem)) :=
  if index_2 < m_ 31 0 then
    (C_Delays_find day_ index_2 m_).bind fun r_ =>
    ltv (r_ : Int) fun entry_ =>
    ltv (0 : Int) fun at_ =>
    bq2 (loop (fun s => C_Wishes_tellDelays_b2 index_2 entry_ s.1 s.2) (at_, m_)) fun at_4 m_4 =>
    grd (InR (index_2 + 1)) <|
    ltv (index_2 + 1) fun index_3 =>
    some (.inl (index_3, m_4))
  else
    some (.inr (index_2, m_))
noncomputable def C_Wishes_tellDelays (day_ : Int) (m : Mem) : Option Mem :=
  ltv (0 : Int) fun index_ =>
  bq2 (loop (fun s => C_Wishes_tellDelays_b1 day_ s.1 s.2) (index_, m)) fun index_4 m_5 =>
  some m_5
def rm_X10_tellDelays : Room := { frames := 1, cells := 0, slots := 0, locals := 23 }
noncomputable def C_Wishes_isCounted (wish_ : Int) (day_ : Int) (m : Mem) : Option Int :=
  grd (0 ≤ wish_ ∧ wish_ < 6 ∧ 0 ≤ m 401 wish_.toNat ∧ m 401 wish_.toNat < 24) <|
  (C_Services_isOn (m 32 (m 401 wish_.toNat).toNat) day_ m).bind fun r_ =>
  if ¬ r_ = 0 then
    grd (0 ≤ m 403 wish_.toNat ∧ m 403 wish_.toNat < 24) <|
    (C_Services_isOn (m 32 (m 403 wish_.toNat).toNat) day_ m).bind fun r_2 =>
    if ¬ r_2 = 0 then
      some 1
    else
      some 0
  else
    some 0
def rm_X10_isCounted : Room := { frames := 1, cells := 0, slots := 0, locals := 22 }
noncomputable def C_Wishes_gap (wish_ : Int) (m : Mem) : Option Int :=
  grd (0 ≤ wish_ ∧ wish_ < 6) <|
  ltv (m 402 wish_.toNat : Int) fun off_ =>
  ltv (m 404 wish_.toNat : Int) fun on_ =>
  grd (0 ≤ m 401 wish_.toNat ∧ m 401 wish_.toNat < 24 ∧ 0 ≤ off_ ∧ off_ < 8 ∧ InR (off_ - 1) ∧ 0 ≤ off_ - 1 ∧ off_ - 1 < 8 ∧ InR (m (60 + (m 401 wish_.toNat).toNat) off_.toNat + (m (407 + (m 401 wish_.toNat).toNat) (off_ - 1).toNat))) <|
  ltv (m (60 + (m 401 wish_.toNat).toNat) off_.toNat + (m (407 + (m 401 wish_.toNat).toNat) (off_ - 1).toNat) : Int) fun arrival_ =>
  grd (0 ≤ m 403 wish_.toNat ∧ m 403 wish_.toNat < 24 ∧ 0 ≤ on_ ∧ on_ < 8 ∧ InR (m (85 + (m 403 wish_.toNat).toNat) on_.toNat + (m (407 + (m 403 wish_.toNat).toNat) on_.toNat))) <|
  ltv (m (85 + (m 403 wish_.toNat).toNat) on_.toNat + (m (407 + (m 403 wish_.toNat).toNat) on_.toNat) : Int) fun departure_ =>
  grd (0 ≤ m (35 + (m 401 wish_.toNat).toNat) off_.toNat ∧ m (35 + (m 401 wish_.toNat).toNat) off_.toNat < 12 ∧ InR (arrival_ + (m 2 (m (35 + (m 401 wish_.toNat).toNat) off_.toNat).toNat)) ∧ InR (arrival_ + (m 2 (m (35 + (m 401 wish_.toNat).toNat) off_.toNat).toNat) - departure_)) <|
  some (arrival_ + (m 2 (m (35 + (m 401 wish_.toNat).toNat) off_.toNat).toNat) - departure_)
def rm_X10_gap : Room := { frames := 0, cells := 0, slots := 0, locals := 0 }
noncomputable def C_Wishes_hold_b1 (wish_ : Int) (m : Mem) (need_ : Int) (at_2 : Int) (m_ : Mem) : Option ((Int × Mem) ⊕ (Int × Mem)) :=
  grd (0 ≤ wish_ ∧ wish_ < 6 ∧ 0 ≤ m_ 403 wish_.toNat ∧ m_ 403 wish_.toNat < 24) <|
  if at_2 < m_ 33 (m_ 403 wish_.toNat).toNat then
    grd (0 ≤ at_2 ∧ at_2 < 8) <|
    ltv (setM m_ (407 + (m 403 wish_.toNat).toNat) at_2.toNat (if m_ (407 + (m 403 wish_.toNat).toNat) at_2.toNat < need_ then need_ else m_ (407 + (m 403 wish_.toNat).toNat) at_2.toNat)) fun m_2 =>
    grd (InR (at_2 + 1)) <|
    ltv (at_2 + 1) fun at_3 =>
    some (.inl (at_3, m_2))
  else
    some (.inr (at_2, m_))
noncomputable def C_Wishes_hold (wish_ : Int) (m : Mem) : Option (Int × Mem) :=
  grd (0 ≤ wish_ ∧ wish_ < 6 ∧ 0 ≤ m 403 wish_.toNat ∧ m 403 wish_.toNat < 24) <|
  grd (0 ≤ m 404 wish_.toNat ∧ m 404 wish_.toNat < 8) <|
  (C_Wishes_gap wish_ m).bind fun r_ =>
  grd (InR (m (407 + (m 403 wish_.toNat).toNat) (m 404 wish_.toNat).toNat + r_)) <|
  ltv (m (407 + (m 403 wish_.toNat).toNat) (m 404 wish_.toNat).toNat + r_ : Int) fun need_ =>
  if need_ ≤ m (407 + (m 403 wish_.toNat).toNat) (m 404 wish_.toNat).toNat then
    some (0, m)
  else
    ltv (m 404 wish_.toNat : Int) fun at_ =>
    bq2 (loop (fun s => C_Wishes_hold_b1 wish_ m need_ s.1 s.2) (at_, m)) fun at_4 m_3 =>
    some (1, m_3)
def rm_X10_hold : Room := { frames := 1, cells := 0, slots := 0, locals := 60 }
noncomputable def C_Wishes_holdOnce_b1 (day_ : Int) (mask_ : Int) (isMoved_2 : Int) (wish_2 : Int) (m_ : Mem) : Option ((Int × Int × Mem) ⊕ (Int × Int × Mem)) :=
  if wish_2 < m_ 400 4 then
    if jiand (jishr mask_ wish_2) 1 = 1 then
      (C_Wishes_isCounted wish_2 day_ m_).bind fun r_ =>
      if ¬ r_ = 0 then
        bq2 (C_Wishes_hold wish_2 m_) fun r_2 m_2 =>
        ltv (jior isMoved_2 r_2 : Int) fun isMoved_3 =>
        grd (InR (wish_2 + 1)) <|
        ltv (wish_2 + 1) fun wish_5 =>
        some (.inl (isMoved_3, wish_5, m_2))
      else
        grd (InR (wish_2 + 1)) <|
        ltv (wish_2 + 1) fun wish_4 =>
        some (.inl (isMoved_2, wish_4, m_))
    else
      grd (InR (wish_2 + 1)) <|
      ltv (wish_2 + 1) fun wish_3 =>
      some (.inl (isMoved_2, wish_3, m_))
  else
    some (.inr (isMoved_2, wish_2, m_))
noncomputable def C_Wishes_holdOnce (day_ : Int) (mask_ : Int) (m : Mem) : Option (Int × Mem) :=
  ltv (0 : Int) fun isMoved_ =>
  ltv (0 : Int) fun wish_ =>
  bq3 (loop (fun s => C_Wishes_holdOnce_b1 day_ mask_ s.1 s.2.1 s.2.2) (isMoved_, wish_, m)) fun isMoved_4 wish_6 m_3 =>
  grd ((isMoved_4 = 0 ∨ isMoved_4 = 1)) <|
  some (isMoved_4, m_3)
def rm_X10_holdOnce : Room := { frames := 2, cells := 0, slots := 0, locals := 84 }
noncomputable def C_Wishes_isWithinLimit_b1 (m : Mem) (wish_2 : Int) : Option ((Int) ⊕ ((Int) ⊕ Int)) :=
  if wish_2 < m 400 4 then
    grd (0 ≤ wish_2 ∧ wish_2 < 6 ∧ 0 ≤ m 403 wish_2.toNat ∧ m 403 wish_2.toNat < 24 ∧ 0 ≤ m 404 wish_2.toNat ∧ m 404 wish_2.toNat < 8) <|
    if 240 < m (407 + (m 403 wish_2.toNat).toNat) (m 404 wish_2.toNat).toNat then
      some (.inr (.inr 0))
    else
      grd (InR (wish_2 + 1)) <|
      ltv (wish_2 + 1) fun wish_3 =>
      some (.inl wish_3)
  else
    some (.inr (.inl wish_2))
noncomputable def C_Wishes_isWithinLimit  (m : Mem) : Option Int :=
  ltv (0 : Int) fun wish_ =>
  br1 (fun q9 => some q9) (loop (fun s => C_Wishes_isWithinLimit_b1 m s) wish_) fun wish_4 =>
  some 1
def rm_X10_isWithinLimit : Room := { frames := 0, cells := 0, slots := 0, locals := 0 }
noncomputable def C_Wishes_spread_b1 (day_ : Int) (mask_ : Int) (isMoved_2 : Int) (turn_2 : Int) (m_2 : Mem) : Option ((Int × Int × Mem) ⊕ (Int × Int × Mem)) :=
  if (turn_2 ≤ m_2 400 4) ∧ (¬ isMoved_2 = 0) then
    bq2 (C_Wishes_holdOnce day_ mask_ m_2) fun r_ m_3 =>
    ltv (r_ : Int) fun isMoved_3 =>
    grd (InR (turn_2 + 1)) <|
    ltv (turn_2 + 1) fun turn_3 =>
    some (.inl (isMoved_3, turn_3, m_3))
  else
    some (.inr (isMoved_2, turn_2, m_2))
noncomputable def C_Wishes_spread (day_ : Int) (mask_ : Int) (m : Mem) : Option (Int × Mem) :=
  (C_Wishes_tellDelays day_ m).bind fun m_ =>
  ltv (1 : Int) fun isMoved_ =>
  ltv (0 : Int) fun turn_ =>
  bq3 (loop (fun s => C_Wishes_spread_b1 day_ mask_ s.1 s.2.1 s.2.2) (isMoved_, turn_, m_)) fun isMoved_4 turn_4 m_4 =>
  if isMoved_4 = 0 then
    (C_Wishes_isWithinLimit m_4).bind fun r_2 =>
    if ¬ r_2 = 0 then
      some (1, m_4)
    else
      some (0, m_4)
  else
    some (0, m_4)
def rm_X10_spread : Room := { frames := 3, cells := 0, slots := 0, locals := 108 }
noncomputable def C_Wishes_cost_b1 (day_ : Int) (m : Mem) (sum_2 : Int) (index_2 : Int) : Option ((Int × Int) ⊕ (Int × Int)) :=
  if index_2 < m 31 0 then
    grd (0 ≤ index_2 ∧ index_2 < 24) <|
    ltv (m 33 index_2.toNat : Int) fun calls_ =>
    if 1 < calls_ then
      (C_Services_isOn (m 32 index_2.toNat) day_ m).bind fun r_ =>
      if ¬ r_ = 0 then
        grd (InR (calls_ - 2) ∧ 0 ≤ calls_ - 2 ∧ calls_ - 2 < 8 ∧ InR (sum_2 + (m (407 + index_2.toNat) (calls_ - 2).toNat))) <|
        ltv (sum_2 + (m (407 + index_2.toNat) (calls_ - 2).toNat) : Int) fun sum_3 =>
        grd (InR (index_2 + 1)) <|
        ltv (index_2 + 1) fun index_5 =>
        some (.inl (sum_3, index_5))
      else
        grd (InR (index_2 + 1)) <|
        ltv (index_2 + 1) fun index_4 =>
        some (.inl (sum_2, index_4))
    else
      grd (InR (index_2 + 1)) <|
      ltv (index_2 + 1) fun index_3 =>
      some (.inl (sum_2, index_3))
  else
    some (.inr (sum_2, index_2))
noncomputable def C_Wishes_cost_b2 (day_ : Int) (mask_ : Int) (m : Mem) (sum_5 : Int) (wish_2 : Int) : Option ((Int × Int) ⊕ (Int × Int)) :=
  if wish_2 < m 400 4 then
    ltv (fun (v_ : Int) =>
    ltv (v_ : Int) fun isLeft_ =>
    if ¬ isLeft_ = 0 then
      (C_Wishes_gap wish_2 m).bind fun r_3 =>
      if 0 < r_3 then
        grd (0 ≤ wish_2 ∧ wish_2 < 6 ∧ InR (60 * (m 405 wish_2.toNat)) ∧ InR (sum_5 + 60 * (m 405 wish_2.toNat))) <|
        ltv (sum_5 + 60 * (m 405 wish_2.toNat) : Int) fun sum_6 =>
        grd (InR (wish_2 + 1)) <|
        ltv (wish_2 + 1) fun wish_5 =>
        some (.inl (sum_6, wish_5))
      else
        grd (InR (wish_2 + 1)) <|
        ltv (wish_2 + 1) fun wish_4 =>
        some (.inl (sum_5, wish_4))
    else
      grd (InR (wish_2 + 1)) <|
      ltv (wish_2 + 1) fun wish_3 =>
      some (.inl (sum_5, wish_3))) fun kj_ =>
    if jiand (jishr mask_ wish_2) 1 = 0 then
      (C_Wishes_isCounted wish_2 day_ m).bind fun r_2 =>
      if ¬ r_2 = 0 then
        kj_ 1
      else
        kj_ 0
    else
      kj_ 0
  else
    some (.inr (sum_5, wish_2))
noncomputable def C_Wishes_cost (day_ : Int) (mask_ : Int) (m : Mem) : Option Int :=
  ltv (0 : Int) fun sum_ =>
  ltv (0 : Int) fun index_ =>
  bq2 (loop (fun s => C_Wishes_cost_b1 day_ m s.1 s.2) (sum_, index_)) fun sum_4 index_6 =>
  ltv (0 : Int) fun wish_ =>
  bq2 (loop (fun s => C_Wishes_cost_b2 day_ mask_ m s.1 s.2) (sum_4, wish_)) fun sum_7 wish_6 =>
  some sum_7
def rm_X10_cost : Room := { frames := 2, cells := 0, slots := 0, locals := 44 }
noncomputable def C_costOfWaits (day_ : Int) (mask_ : Int) (m : Mem) : Option (Int × Mem) :=
  bq2 (C_Wishes_spread day_ mask_ m) fun r_ m_ =>
  if ¬ r_ = 0 then
    (C_Wishes_cost day_ mask_ m_).bind fun r_2 =>
    some (r_2, m_)
  else
    some (1000000, m_)
def rm_X11_costOfWaits : Room := { frames := 4, cells := 0, slots := 0, locals := 132 }
noncomputable def C_waitCost (day_ : Int) (mask_ : Int) (m : Mem) : Option ((Int ⊕ Nat) × Mem) :=
  (C_needDay day_ m).bind fun q3 => tbd q3 fun u_ m_ =>
  grd (InR (jishl 1 (m_ 400 4) - 1)) <|
  (C_needNumber mask_ 0 (jishl 1 (m_ 400 4) - 1) m_).bind fun q7 => tbd q7 fun u_2 m_2 =>
  bq2 (C_costOfWaits day_ mask_ m_2) fun r_ m_3 =>
  ltv (r_ : Int) fun cost_ =>
  (C_needFound cost_ m_3).bind fun q16 => tbd q16 fun u_3 m_4 =>
  some (.inl cost_, m_4)
def rm_X11_waitCost : Room := { frames := 8, cells := 3, slots := 18, locals := 154 }
noncomputable def C_bestWaits_b1 (day_ : Int) (best_2 : Int) (least_2 : Int) (mask_2 : Int) (m_3 : Mem) : Option ((Int × Int × Int × Mem) ⊕ (Int × Int × Int × Mem)) :=
  if mask_2 < jishl 1 (m_3 400 4) then
    bq2 (C_costOfWaits day_ mask_2 m_3) fun r_2 m_4 =>
    ltv (r_2 : Int) fun cost_ =>
    if cost_ < least_2 then
      ltv (cost_ : Int) fun least_3 =>
      ltv (mask_2 : Int) fun best_3 =>
      grd (InR (mask_2 + 1)) <|
      ltv (mask_2 + 1) fun mask_4 =>
      some (.inl (best_3, least_3, mask_4, m_4))
    else
      grd (InR (mask_2 + 1)) <|
      ltv (mask_2 + 1) fun mask_3 =>
      some (.inl (best_2, least_2, mask_3, m_4))
  else
    some (.inr (best_2, least_2, mask_2, m_3))
noncomputable def C_bestWaits (day_ : Int) (m : Mem) : Option ((Int ⊕ Nat) × Mem) :=
  (C_needDay day_ m).bind fun q3 => tbd q3 fun u_ m_ =>
  ltv (0 : Int) fun best_ =>
  bq2 (C_costOfWaits day_ 0 m_) fun r_ m_2 =>
  ltv (r_ : Int) fun least_ =>
  ltv (1 : Int) fun mask_ =>
  bq4 (loop (fun s => C_bestWaits_b1 day_ s.1 s.2.1 s.2.2.1 s.2.2.2) (best_, least_, mask_, m_2)) fun best_4 least_4 mask_5 m_5 =>
  some (.inl best_4, m_5)
def rm_X11_bestWaits : Room := { frames := 8, cells := 1, slots := 6, locals := 154 }
noncomputable def C_fillArrivals_b2 (from_2 : Int) (to_2 : Int) (m_3 : Mem) : Option ((Int × Mem) ⊕ (Int × Mem)) :=
  if to_2 < m_3 1 0 then
    grd (0 ≤ from_2 ∧ from_2 < 12 ∧ 0 ≤ to_2 ∧ to_2 < 12) <|
    (C_Labels_at 352 to_2 m_3).bind fun r_ =>
    ltv (setM m_3 (443 + from_2.toNat) to_2.toNat r_) fun m_4 =>
    grd (InR (to_2 + 1)) <|
    ltv (to_2 + 1) fun to_3 =>
    some (.inl (to_3, m_4))
  else
    some (.inr (to_2, m_3))
noncomputable def C_fillArrivals_b1 (minute_ : Int) (from_2 : Int) (m_ : Mem) : Option ((Int × Mem) ⊕ (Int × Mem)) :=
  if from_2 < m_ 1 0 then
    (C_Search_scan from_2 minute_ m_).bind fun m_2 =>
    ltv (0 : Int) fun to_ =>
    bq2 (loop (fun s => C_fillArrivals_b2 from_2 s.1 s.2) (to_, m_2)) fun to_4 m_5 =>
    grd (InR (from_2 + 1)) <|
    ltv (from_2 + 1) fun from_3 =>
    some (.inl (from_3, m_5))
  else
    some (.inr (from_2, m_))
noncomputable def C_fillArrivals (minute_ : Int) (m : Mem) : Option Mem :=
  ltv (0 : Int) fun from_ =>
  bq2 (loop (fun s => C_fillArrivals_b1 minute_ s.1 s.2) (from_, m)) fun from_4 m_6 =>
  some m_6
def rm_X11_fillArrivals : Room := { frames := 4, cells := 0, slots := 0, locals := 94 }
noncomputable def C_countCutOffFrom_b1 (from_ : Int) (cut_ : Int) (m : Mem) (count_2 : Int) (to_2 : Int) : Option ((Int × Int) ⊕ (Int × Int)) :=
  if to_2 < m 1 0 then
    ltv ((if (¬ to_2 = cut_) ∧ (¬ to_2 = from_) then 1 else 0) : Int) fun isOther_ =>
    grd (((¬ isOther_ = 0) → 0 ≤ from_) ∧ ((¬ isOther_ = 0) → from_ < 12) ∧ ((¬ isOther_ = 0) → 0 ≤ to_2) ∧ ((¬ isOther_ = 0) → to_2 < 12)) <|
    if (¬ isOther_ = 0) ∧ (m (443 + from_.toNat) to_2.toNat < 1000000) then
      (C_Labels_at 352 to_2 m).bind fun r_ =>
      if 1000000 ≤ r_ then
        grd (InR (count_2 + 1)) <|
        ltv (count_2 + 1) fun count_3 =>
        grd (InR (to_2 + 1)) <|
        ltv (to_2 + 1) fun to_5 =>
        some (.inl (count_3, to_5))
      else
        grd (InR (to_2 + 1)) <|
        ltv (to_2 + 1) fun to_4 =>
        some (.inl (count_2, to_4))
    else
      grd (InR (to_2 + 1)) <|
      ltv (to_2 + 1) fun to_3 =>
      some (.inl (count_2, to_3))
  else
    some (.inr (count_2, to_2))
noncomputable def C_countCutOffFrom (from_ : Int) (cut_ : Int) (m : Mem) : Option Int :=
  ltv (0 : Int) fun count_ =>
  ltv (0 : Int) fun to_ =>
  bq2 (loop (fun s => C_countCutOffFrom_b1 from_ cut_ m s.1 s.2) (count_, to_)) fun count_4 to_6 =>
  some count_4
def rm_X11_countCutOffFrom : Room := { frames := 2, cells := 0, slots := 0, locals := 81 }
noncomputable def C_countCutOff_b1 (cut_ : Int) (count_2 : Int) (from_2 : Int) (m_2 : Mem) : Option ((Int × Int × Mem) ⊕ (Int × Int × Mem)) :=
  if from_2 < m_2 1 0 then
    if ¬ from_2 = cut_ then
      (C_Search_scan from_2 0 m_2).bind fun m_3 =>
      (C_countCutOffFrom from_2 cut_ m_3).bind fun r_ =>
      grd (InR (count_2 + r_)) <|
      ltv (count_2 + r_ : Int) fun count_3 =>
      grd (InR (from_2 + 1)) <|
      ltv (from_2 + 1) fun from_4 =>
      some (.inl (count_3, from_4, m_3))
    else
      grd (InR (from_2 + 1)) <|
      ltv (from_2 + 1) fun from_3 =>
      some (.inl (count_2, from_3, m_2))
  else
    some (.inr (count_2, from_2, m_2))
noncomputable def C_countCutOff (cut_ : Int) (m : Mem) : Option (Int × Mem) :=
  (C_Stops_link cut_ m).bind fun m_ =>
  ltv (0 : Int) fun count_ =>
  ltv (0 : Int) fun from_ =>
  bq3 (loop (fun s => C_countCutOff_b1 cut_ s.1 s.2.1 s.2.2) (count_, from_, m_)) fun count_4 from_5 m_4 =>
  (C_Stops_link (-1) m_4).bind fun m_5 =>
  some (count_4, m_5)
def rm_X11_countCutOff : Room := { frames := 4, cells := 0, slots := 0, locals := 106 }
noncomputable def C_lost (stop_ : Int) (day_ : Int) (m : Mem) : Option ((Int ⊕ Nat) × Mem) :=
  (C_needStop stop_ m).bind fun q3 => tbd q3 fun u_ m_ =>
  (C_needDay day_ m_).bind fun q7 => tbd q7 fun u_2 m_2 =>
  (C_Net_lay day_ (-1) 0 m_2).bind fun m_3 =>
  (C_fillArrivals 0 m_3).bind fun m_4 =>
  bq2 (C_countCutOff stop_ m_4) fun r_ m_5 =>
  some (.inl r_, m_5)
def rm_X11_lost : Room := { frames := 8, cells := 2, slots := 12, locals := 129 }
noncomputable def C_bridges_b1 (sum_2 : Int) (stop_2 : Int) (m_4 : Mem) : Option ((Int × Int × Mem) ⊕ (Int × Int × Mem)) :=
  if stop_2 < m_4 1 0 then
    bq2 (C_countCutOff stop_2 m_4) fun r_ m_5 =>
    if 0 < r_ then
      ltv (jior sum_2 (jishl 1 stop_2) : Int) fun sum_3 =>
      grd (InR (stop_2 + 1)) <|
      ltv (stop_2 + 1) fun stop_4 =>
      some (.inl (sum_3, stop_4, m_5))
    else
      grd (InR (stop_2 + 1)) <|
      ltv (stop_2 + 1) fun stop_3 =>
      some (.inl (sum_2, stop_3, m_5))
  else
    some (.inr (sum_2, stop_2, m_4))
noncomputable def C_bridges (day_ : Int) (m : Mem) : Option ((Int ⊕ Nat) × Mem) :=
  (C_needDay day_ m).bind fun q3 => tbd q3 fun u_ m_ =>
  (C_Net_lay day_ (-1) 0 m_).bind fun m_2 =>
  (C_fillArrivals 0 m_2).bind fun m_3 =>
  ltv (0 : Int) fun sum_ =>
  ltv (0 : Int) fun stop_ =>
  bq3 (loop (fun s => C_bridges_b1 s.1 s.2.1 s.2.2) (sum_, stop_, m_3)) fun sum_4 stop_5 m_6 =>
  some (.inl sum_4, m_6)
def rm_X11_bridges : Room := { frames := 8, cells := 1, slots := 6, locals := 129 }
noncomputable def C_Fleet_gather_b1 (day_ : Int) (trip_2 : Int) (m_2 : Mem) : Option ((Int × Mem) ⊕ (Int × Mem)) :=
  if trip_2 < m_2 31 0 then
    grd (0 ≤ trip_2 ∧ trip_2 < 24) <|
    (C_Services_isOn (m_2 32 trip_2.toNat) day_ m_2).bind fun r_ =>
    if ¬ r_ = 0 then
      grd (InR (m_2 33 trip_2.toNat - 1)) <|
      ltv (m_2 33 trip_2.toNat - 1 : Int) fun end_ =>
      grd (0 ≤ m_2 431 0 ∧ m_2 431 0 < 24) <|
      ltv (setM m_2 432 (m_2 431 0).toNat (m_2 (35 + trip_2.toNat) 0)) fun m_3 =>
      grd (0 ≤ m_3 431 0 ∧ m_3 431 0 < 24 ∧ 0 ≤ end_ ∧ end_ < 8) <|
      ltv (setM m_3 433 (m_3 431 0).toNat (m_3 (35 + trip_2.toNat) end_.toNat)) fun m_4 =>
      grd (0 ≤ m_4 431 0 ∧ m_4 431 0 < 24) <|
      ltv (setM m_4 434 (m_4 431 0).toNat (m_4 (85 + trip_2.toNat) 0)) fun m_5 =>
      grd (0 ≤ m_5 431 0 ∧ m_5 431 0 < 24 ∧ InR (m_5 (60 + trip_2.toNat) end_.toNat + 5)) <|
      ltv (setM m_5 435 (m_5 431 0).toNat (m_5 (60 + trip_2.toNat) end_.toNat + 5)) fun m_6 =>
      grd (InR (m_6 431 0 + 1)) <|
      ltv (setM m_6 431 0 (m_6 431 0 + 1)) fun m_7 =>
      grd (InR (trip_2 + 1)) <|
      ltv (trip_2 + 1) fun trip_4 =>
      some (.inl (trip_4, m_7))
    else
      grd (InR (trip_2 + 1)) <|
      ltv (trip_2 + 1) fun trip_3 =>
      some (.inl (trip_3, m_2))
  else
    some (.inr (trip_2, m_2))
noncomputable def C_Fleet_gather (day_ : Int) (m : Mem) : Option Mem :=
  ltv (setM m 431 0 0) fun m_ =>
  ltv (0 : Int) fun trip_ =>
  bq2 (loop (fun s => C_Fleet_gather_b1 day_ s.1 s.2) (trip_, m_)) fun trip_5 m_8 =>
  some m_8
def rm_X1_gather : Room := { frames := 1, cells := 0, slots := 0, locals := 22 }
noncomputable def C_Fleet_countAt_b1 (stop_ : Int) (found_2 : Int) (trip_2 : Int) (m_ : Mem) : Option ((Int × Int × Mem) ⊕ (Int × Int × Mem)) :=
  if trip_2 < m_ 431 0 then
    ltv (fun (found_3 : Int) (m_2 : Mem) =>
    grd (0 ≤ trip_2 ∧ trip_2 < 24) <|
    if m_2 432 trip_2.toNat = stop_ then
      grd (0 ≤ found_3 ∧ found_3 < 48 ∧ InR (2 * (m_2 434 trip_2.toNat)) ∧ InR (2 * (m_2 434 trip_2.toNat) + 1)) <|
      ltv (setM m_2 436 found_3.toNat (2 * (m_2 434 trip_2.toNat) + 1)) fun m_4 =>
      grd (InR (found_3 + 1)) <|
      ltv (found_3 + 1) fun found_5 =>
      grd (InR (trip_2 + 1)) <|
      ltv (trip_2 + 1) fun trip_4 =>
      some (.inl (found_5, trip_4, m_4))
    else
      grd (InR (trip_2 + 1)) <|
      ltv (trip_2 + 1) fun trip_3 =>
      some (.inl (found_3, trip_3, m_2))) fun kj_ =>
    grd (0 ≤ trip_2 ∧ trip_2 < 24) <|
    if m_ 433 trip_2.toNat = stop_ then
      grd (0 ≤ found_2 ∧ found_2 < 48 ∧ InR (2 * (m_ 435 trip_2.toNat))) <|
      ltv (setM m_ 436 found_2.toNat (2 * (m_ 435 trip_2.toNat))) fun m_3 =>
      grd (InR (found_2 + 1)) <|
      ltv (found_2 + 1) fun found_4 =>
      kj_ found_4 m_3
    else
      kj_ found_2 m_
  else
    some (.inr (found_2, trip_2, m_))
noncomputable def C_Fleet_countAt_b2 (found_6 : Int) (m_6 : Mem) (idle_2 : Int) (fresh_2 : Int) (index_2 : Int) : Option ((Int × Int × Int) ⊕ (Int × Int × Int)) :=
  if index_2 < found_6 then
    grd (0 ≤ index_2 ∧ index_2 < 48) <|
    if (m_6 436 index_2.toNat).tmod 2 = 0 then
      grd (InR (idle_2 + 1)) <|
      ltv (idle_2 + 1) fun idle_4 =>
      grd (InR (index_2 + 1)) <|
      ltv (index_2 + 1) fun index_5 =>
      some (.inl (idle_4, fresh_2, index_5))
    else
      if 0 < idle_2 then
        grd (InR (idle_2 - 1)) <|
        ltv (idle_2 - 1) fun idle_3 =>
        grd (InR (index_2 + 1)) <|
        ltv (index_2 + 1) fun index_4 =>
        some (.inl (idle_3, fresh_2, index_4))
      else
        grd (InR (fresh_2 + 1)) <|
        ltv (fresh_2 + 1) fun fresh_3 =>
        grd (InR (index_2 + 1)) <|
        ltv (index_2 + 1) fun index_3 =>
        some (.inl (idle_2, fresh_3, index_3))
  else
    some (.inr (idle_2, fresh_2, index_2))
noncomputable def C_Fleet_countAt (stop_ : Int) (m : Mem) : Option (Int × Mem) :=
  ltv (0 : Int) fun found_ =>
  ltv (0 : Int) fun trip_ =>
  bq3 (loop (fun s => C_Fleet_countAt_b1 stop_ s.1 s.2.1 s.2.2) (found_, trip_, m)) fun found_6 trip_5 m_5 =>
  (C_sortUp 436 437 found_6 m_5).bind fun m_6 =>
  ltv (0 : Int) fun idle_ =>
  ltv (0 : Int) fun fresh_ =>
  ltv (0 : Int) fun index_ =>
  bq3 (loop (fun s => C_Fleet_countAt_b2 found_6 m_6 s.1 s.2.1 s.2.2) (idle_, fresh_, index_)) fun idle_5 fresh_4 index_6 =>
  some (fresh_4, m_6)
def rm_X1_countAt : Room := { frames := 2, cells := 0, slots := 0, locals := 85 }
noncomputable def C_Fleet_countByTimes_b1 (stops_ : Int) (sum_2 : Int) (stop_2 : Int) (m_ : Mem) : Option ((Int × Int × Mem) ⊕ (Int × Int × Mem)) :=
  if stop_2 < stops_ then
    bq2 (C_Fleet_countAt stop_2 m_) fun r_ m_2 =>
    grd (InR (sum_2 + r_)) <|
    ltv (sum_2 + r_ : Int) fun sum_3 =>
    grd (InR (stop_2 + 1)) <|
    ltv (stop_2 + 1) fun stop_3 =>
    some (.inl (sum_3, stop_3, m_2))
  else
    some (.inr (sum_2, stop_2, m_))
noncomputable def C_Fleet_countByTimes (stops_ : Int) (m : Mem) : Option (Int × Mem) :=
  ltv (0 : Int) fun sum_ =>
  ltv (0 : Int) fun stop_ =>
  bq3 (loop (fun s => C_Fleet_countByTimes_b1 stops_ s.1 s.2.1 s.2.2) (sum_, stop_, m)) fun sum_4 stop_4 m_3 =>
  some (sum_4, m_3)
def rm_X1_countByTimes : Room := { frames := 3, cells := 0, slots := 0, locals := 110 }
noncomputable def C_vehicles (day_ : Int) (m : Mem) : Option ((Int ⊕ Nat) × Mem) :=
  (C_needDay day_ m).bind fun q3 => tbd q3 fun u_ m_ =>
  (C_Fleet_gather day_ m_).bind fun m_2 =>
  bq2 (C_Fleet_countByTimes (m_2 1 0) m_2) fun r_ m_3 =>
  some (.inl r_, m_3)
def rm_X11_vehicles : Room := { frames := 8, cells := 1, slots := 6, locals := 133 }
noncomputable def C_Fleet_canFollow (trip_ : Int) (next_ : Int) (m : Mem) : Option Int :=
  grd (0 ≤ trip_ ∧ trip_ < 24 ∧ 0 ≤ next_ ∧ next_ < 24) <|
  some (if (m 433 trip_.toNat = m 432 next_.toNat) ∧ (m 435 trip_.toNat ≤ m 434 next_.toNat) then 1 else 0)
def rm_X1_canFollow : Room := { frames := 0, cells := 0, slots := 0, locals := 0 }
noncomputable def C_Fleet_findFree_b1 (next_2 : Int) (m_ : Mem) : Option ((Int × Mem) ⊕ (Int × Mem)) :=
  if next_2 < m_ 431 0 then
    grd (0 ≤ next_2 ∧ next_2 < 24) <|
    ltv (setM m_ 441 next_2.toNat (-1)) fun m_2 =>
    grd (InR (next_2 + 1)) <|
    ltv (next_2 + 1) fun next_3 =>
    some (.inl (next_3, m_2))
  else
    some (.inr (next_2, m_))
noncomputable def C_Fleet_findFree_b3 (turn_2 : Int) (waiting_3 : Int) (next_6 : Int) (m_6 : Mem) : Option ((Int × Int × Mem) ⊕ ((Int × Int × Mem) ⊕ (Int × Mem))) :=
  if next_6 < m_6 431 0 then
    grd (0 ≤ next_6 ∧ next_6 < 24) <|
    if m_6 441 next_6.toNat = (-1) then
      grd (0 ≤ turn_2 ∧ turn_2 < 24) <|
      (C_Fleet_canFollow (m_6 440 turn_2.toNat) next_6 m_6).bind fun r_ =>
      if ¬ r_ = 0 then
        ltv (setM m_6 441 next_6.toNat (m_6 440 turn_2.toNat)) fun m_7 =>
        if m_7 439 next_6.toNat = (-1) then
          some (.inr (.inr (next_6, m_7)))
        else
          if waiting_3 < 24 then
            grd (0 ≤ waiting_3 ∧ waiting_3 < 24) <|
            ltv (setM m_7 440 waiting_3.toNat (m_7 439 next_6.toNat)) fun m_8 =>
            grd (InR (waiting_3 + 1)) <|
            ltv (waiting_3 + 1) fun waiting_4 =>
            grd (InR (next_6 + 1)) <|
            ltv (next_6 + 1) fun next_10 =>
            some (.inl (waiting_4, next_10, m_8))
          else
            grd (InR (next_6 + 1)) <|
            ltv (next_6 + 1) fun next_9 =>
            some (.inl (waiting_3, next_9, m_7))
      else
        grd (InR (next_6 + 1)) <|
        ltv (next_6 + 1) fun next_8 =>
        some (.inl (waiting_3, next_8, m_6))
    else
      grd (InR (next_6 + 1)) <|
      ltv (next_6 + 1) fun next_7 =>
      some (.inl (waiting_3, next_7, m_6))
  else
    some (.inr (.inl (waiting_3, next_6, m_6)))
noncomputable def C_Fleet_findFree_b2 (waiting_2 : Int) (turn_2 : Int) (m_5 : Mem) : Option ((Int × Int × Mem) ⊕ ((Int × Int × Mem) ⊕ (Int × Mem))) :=
  if turn_2 < waiting_2 then
    ltv (0 : Int) fun next_5 =>
    br3 (fun q9 => some (.inr (.inr q9))) (loop (fun s => C_Fleet_findFree_b3 turn_2 s.1 s.2.1 s.2.2) (waiting_2, next_5, m_5)) fun waiting_5 next_11 m_9 =>
    grd (InR (turn_2 + 1)) <|
    ltv (turn_2 + 1) fun turn_3 =>
    some (.inl (waiting_5, turn_3, m_9))
  else
    some (.inr (.inl (waiting_2, turn_2, m_5)))
noncomputable def C_Fleet_findFree (trip_ : Int) (m : Mem) : Option (Int × Mem) :=
  ltv (0 : Int) fun next_ =>
  bq2 (loop (fun s => C_Fleet_findFree_b1 s.1 s.2) (next_, m)) fun next_4 m_3 =>
  ltv (setM m_3 440 0 trip_) fun m_4 =>
  ltv (1 : Int) fun waiting_ =>
  ltv (0 : Int) fun turn_ =>
  br3 (fun q9 => some q9) (loop (fun s => C_Fleet_findFree_b2 s.1 s.2.1 s.2.2) (waiting_, turn_, m_4)) fun waiting_6 turn_4 m_10 =>
  some ((-1), m_10)
def rm_X1_findFree : Room := { frames := 1, cells := 0, slots := 0, locals := 22 }
noncomputable def C_Fleet_matchBack_b1 (next_2 : Int) (turn_2 : Int) (m_ : Mem) : Option ((Int × Int × Mem) ⊕ (Int × Int × Mem)) :=
  grd ((((turn_2 < m_ 431 0) ∧ (¬ next_2 = (-1))) → 0 ≤ next_2) ∧ (((turn_2 < m_ 431 0) ∧ (¬ next_2 = (-1))) → next_2 < 24)) <|
  if ((turn_2 < m_ 431 0) ∧ (¬ next_2 = (-1))) ∧ (¬ m_ 441 next_2.toNat = (-1)) then
    grd (0 ≤ next_2 ∧ next_2 < 24) <|
    ltv (m_ 441 next_2.toNat : Int) fun trip_ =>
    grd (0 ≤ trip_ ∧ trip_ < 24) <|
    ltv (m_ 438 trip_.toNat : Int) fun freed_ =>
    ltv (setM m_ 438 trip_.toNat next_2) fun m_2 =>
    ltv (setM m_2 439 next_2.toNat trip_) fun m_3 =>
    ltv (freed_ : Int) fun next_3 =>
    grd (InR (turn_2 + 1)) <|
    ltv (turn_2 + 1) fun turn_3 =>
    some (.inl (next_3, turn_3, m_3))
  else
    some (.inr (next_2, turn_2, m_))
noncomputable def C_Fleet_matchBack (end_ : Int) (m : Mem) : Option Mem :=
  ltv (end_ : Int) fun next_ =>
  ltv (0 : Int) fun turn_ =>
  bq3 (loop (fun s => C_Fleet_matchBack_b1 s.1 s.2.1 s.2.2) (next_, turn_, m)) fun next_4 turn_4 m_4 =>
  some m_4
def rm_X1_matchBack : Room := { frames := 0, cells := 0, slots := 0, locals := 0 }
noncomputable def C_Fleet_countByMatching_b1 (trip_2 : Int) (m_ : Mem) : Option ((Int × Mem) ⊕ (Int × Mem)) :=
  if trip_2 < m_ 431 0 then
    grd (0 ≤ trip_2 ∧ trip_2 < 24) <|
    ltv (setM m_ 438 trip_2.toNat (-1)) fun m_2 =>
    ltv (setM m_2 439 trip_2.toNat (-1)) fun m_3 =>
    grd (InR (trip_2 + 1)) <|
    ltv (trip_2 + 1) fun trip_3 =>
    some (.inl (trip_3, m_3))
  else
    some (.inr (trip_2, m_))
noncomputable def C_Fleet_countByMatching_b2 (matched_2 : Int) (trip_6 : Int) (m_5 : Mem) : Option ((Int × Int × Mem) ⊕ (Int × Int × Mem)) :=
  if trip_6 < m_5 431 0 then
    bq2 (C_Fleet_findFree trip_6 m_5) fun r_ m_6 =>
    ltv (r_ : Int) fun end_ =>
    if ¬ end_ = (-1) then
      (C_Fleet_matchBack end_ m_6).bind fun m_7 =>
      grd (InR (matched_2 + 1)) <|
      ltv (matched_2 + 1) fun matched_3 =>
      grd (InR (trip_6 + 1)) <|
      ltv (trip_6 + 1) fun trip_8 =>
      some (.inl (matched_3, trip_8, m_7))
    else
      grd (InR (trip_6 + 1)) <|
      ltv (trip_6 + 1) fun trip_7 =>
      some (.inl (matched_2, trip_7, m_6))
  else
    some (.inr (matched_2, trip_6, m_5))
noncomputable def C_Fleet_countByMatching  (m : Mem) : Option (Int × Mem) :=
  ltv (0 : Int) fun trip_ =>
  bq2 (loop (fun s => C_Fleet_countByMatching_b1 s.1 s.2) (trip_, m)) fun trip_4 m_4 =>
  ltv (0 : Int) fun matched_ =>
  ltv (0 : Int) fun trip_5 =>
  bq3 (loop (fun s => C_Fleet_countByMatching_b2 s.1 s.2.1 s.2.2) (matched_, trip_5, m_4)) fun matched_4 trip_9 m_8 =>
  grd (InR (m_8 431 0 - matched_4)) <|
  some (m_8 431 0 - matched_4, m_8)
def rm_X1_countByMatching : Room := { frames := 2, cells := 0, slots := 0, locals := 46 }
noncomputable def C_vehiclesByMatching (day_ : Int) (m : Mem) : Option ((Int ⊕ Nat) × Mem) :=
  (C_needDay day_ m).bind fun q3 => tbd q3 fun u_ m_ =>
  (C_Fleet_gather day_ m_).bind fun m_2 =>
  bq2 (C_Fleet_countByMatching m_2) fun r_ m_3 =>
  some (.inl r_, m_3)
def rm_X11_vehiclesByMatching : Room := { frames := 8, cells := 1, slots := 6, locals := 124 }
noncomputable def C_fillArrivalsAndShift (trip_ : Int) (minutes_ : Int) (day_ : Int) (minute_ : Int) (m : Mem) : Option Mem :=
  (C_Net_lay day_ (-1) 0 m).bind fun m_ =>
  (C_fillArrivals minute_ m_).bind fun m_2 =>
  (C_Net_lay day_ trip_ minutes_ m_2).bind fun m_3 =>
  some m_3
def rm_X11_fillArrivalsAndShift : Room := { frames := 5, cells := 0, slots := 0, locals := 117 }
noncomputable def C_countMoved_b2 (isEarlier_ : Int) (from_2 : Int) (m_2 : Mem) (count_3 : Int) (to_2 : Int) : Option ((Int × Int) ⊕ (Int × Int)) :=
  if to_2 < m_2 1 0 then
    (C_Labels_at 352 to_2 m_2).bind fun r_ =>
    ltv (r_ : Int) fun then_ =>
    grd ((¬ (¬ isEarlier_ = 0) → 0 ≤ from_2) ∧ (¬ (¬ isEarlier_ = 0) → from_2 < 12) ∧ (¬ (¬ isEarlier_ = 0) → 0 ≤ to_2) ∧ (¬ (¬ isEarlier_ = 0) → to_2 < 12) ∧ ((¬ isEarlier_ = 0) → 0 ≤ from_2) ∧ ((¬ isEarlier_ = 0) → from_2 < 12) ∧ ((¬ isEarlier_ = 0) → 0 ≤ to_2) ∧ ((¬ isEarlier_ = 0) → to_2 < 12)) <|
    if ((¬ isEarlier_ = 0) → (then_ < m_2 (443 + from_2.toNat) to_2.toNat)) ∧ (¬ (¬ isEarlier_ = 0) → (m_2 (443 + from_2.toNat) to_2.toNat < then_)) then
      grd (InR (count_3 + 1)) <|
      ltv (count_3 + 1) fun count_4 =>
      grd (InR (to_2 + 1)) <|
      ltv (to_2 + 1) fun to_4 =>
      some (.inl (count_4, to_4))
    else
      grd (InR (to_2 + 1)) <|
      ltv (to_2 + 1) fun to_3 =>
      some (.inl (count_3, to_3))
  else
    some (.inr (count_3, to_2))
noncomputable def C_countMoved_b1 (minute_ : Int) (isEarlier_ : Int) (count_2 : Int) (from_2 : Int) (m_ : Mem) : Option ((Int × Int × Mem) ⊕ (Int × Int × Mem)) :=
  if from_2 < m_ 1 0 then
    (C_Search_scan from_2 minute_ m_).bind fun m_2 =>
    ltv (0 : Int) fun to_ =>
    bq2 (loop (fun s => C_countMoved_b2 isEarlier_ from_2 m_2 s.1 s.2) (count_2, to_)) fun count_5 to_5 =>
    grd (InR (from_2 + 1)) <|
    ltv (from_2 + 1) fun from_3 =>
    some (.inl (count_5, from_3, m_2))
  else
    some (.inr (count_2, from_2, m_))
noncomputable def C_countMoved (minute_ : Int) (isEarlier_ : Int) (m : Mem) : Option (Int × Mem) :=
  ltv (0 : Int) fun count_ =>
  ltv (0 : Int) fun from_ =>
  bq3 (loop (fun s => C_countMoved_b1 minute_ isEarlier_ s.1 s.2.1 s.2.2) (count_, from_, m)) fun count_6 from_4 m_3 =>
  some (count_6, m_3)
def rm_X11_countMoved : Room := { frames := 4, cells := 0, slots := 0, locals := 94 }
noncomputable def C_gains (trip_ : Int) (minutes_ : Int) (day_ : Int) (minute_ : Int) (m : Mem) : Option ((Int ⊕ Nat) × Mem) :=
  (C_needTrip trip_ m).bind fun q3 => tbd q3 fun u_ m_ =>
  (C_needShift trip_ minutes_ m_).bind fun q7 => tbd q7 fun u_2 m_2 =>
  (C_needDay day_ m_2).bind fun q11 => tbd q11 fun u_3 m_3 =>
  (C_needNumber minute_ 0 1439 m_3).bind fun q15 => tbd q15 fun u_4 m_4 =>
  (C_fillArrivalsAndShift trip_ minutes_ day_ minute_ m_4).bind fun m_5 =>
  bq2 (C_countMoved minute_ 1 m_5) fun r_ m_6 =>
  some (.inl r_, m_6)
def rm_X11_gains : Room := { frames := 8, cells := 6, slots := 36, locals := 141 }
noncomputable def C_loses (trip_ : Int) (minutes_ : Int) (day_ : Int) (minute_ : Int) (m : Mem) : Option ((Int ⊕ Nat) × Mem) :=
  (C_needTrip trip_ m).bind fun q3 => tbd q3 fun u_ m_ =>
  (C_needShift trip_ minutes_ m_).bind fun q7 => tbd q7 fun u_2 m_2 =>
  (C_needDay day_ m_2).bind fun q11 => tbd q11 fun u_3 m_3 =>
  (C_needNumber minute_ 0 1439 m_3).bind fun q15 => tbd q15 fun u_4 m_4 =>
  (C_fillArrivalsAndShift trip_ minutes_ day_ minute_ m_4).bind fun m_5 =>
  bq2 (C_countMoved minute_ 0 m_5) fun r_ m_6 =>
  some (.inl r_, m_6)
def rm_X11_loses : Room := { frames := 8, cells := 6, slots := 36, locals := 141 }
noncomputable def C_reachShare_b2 (m_3 : Mem) (from_2 : Int) (reached_3 : Int) (to_2 : Int) : Option ((Int × Int) ⊕ (Int × Int)) :=
  if to_2 < m_3 1 0 then
    grd (((¬ from_2 = to_2) → 0 ≤ from_2) ∧ ((¬ from_2 = to_2) → from_2 < 12) ∧ ((¬ from_2 = to_2) → 0 ≤ to_2) ∧ ((¬ from_2 = to_2) → to_2 < 12)) <|
    if (¬ from_2 = to_2) ∧ (m_3 (443 + from_2.toNat) to_2.toNat < 1000000) then
      grd (InR (reached_3 + 1)) <|
      ltv (reached_3 + 1) fun reached_4 =>
      grd (InR (to_2 + 1)) <|
      ltv (to_2 + 1) fun to_4 =>
      some (.inl (reached_4, to_4))
    else
      grd (InR (to_2 + 1)) <|
      ltv (to_2 + 1) fun to_3 =>
      some (.inl (reached_3, to_3))
  else
    some (.inr (reached_3, to_2))
noncomputable def C_reachShare_b1 (m_3 : Mem) (reached_2 : Int) (from_2 : Int) : Option ((Int × Int) ⊕ (Int × Int)) :=
  if from_2 < m_3 1 0 then
    ltv (0 : Int) fun to_ =>
    bq2 (loop (fun s => C_reachShare_b2 m_3 from_2 s.1 s.2) (reached_2, to_)) fun reached_5 to_5 =>
    grd (InR (from_2 + 1)) <|
    ltv (from_2 + 1) fun from_3 =>
    some (.inl (reached_5, from_3))
  else
    some (.inr (reached_2, from_2))
noncomputable def C_reachShare (day_ : Int) (m : Mem) : Option ((UInt32 ⊕ Nat) × Mem) :=
  (C_needDay day_ m).bind fun q3 => tbd q3 fun u_ m_ =>
  grd (InR (m_ 1 0 - 1) ∧ InR ((m_ 1 0) * (m_ 1 0 - 1))) <|
  ltv ((m_ 1 0) * (m_ 1 0 - 1) : Int) fun all_ =>
  if all_ = 0 then
    some (.inr 3, m_)
  else
    (C_Net_lay day_ (-1) 0 m_).bind fun m_2 =>
    (C_fillArrivals 0 m_2).bind fun m_3 =>
    ltv (0 : Int) fun reached_ =>
    ltv (0 : Int) fun from_ =>
    bq2 (loop (fun s => C_reachShare_b1 m_3 s.1 s.2) (reached_, from_)) fun reached_6 from_4 =>
    grd (vf_n32 (FP.fdiv (FP.i2f (i32 reached_6)) (FP.i2f (i32 all_)))) <|
    some (.inl (FP.fdiv (FP.i2f (i32 reached_6)) (FP.i2f (i32 all_))), m_3)
def rm_X11_reachShare : Room := { frames := 8, cells := 2, slots := 12, locals := 124 }
noncomputable def C_meanBetween_b2 (m : Mem) (trip_2 : Int) (minutes_3 : Int) (count_3 : Int) (call_2 : Int) : Option ((Int × Int × Int) ⊕ (Int × Int × Int)) :=
  grd (0 ≤ trip_2 ∧ trip_2 < 24) <|
  if call_2 < m 33 trip_2.toNat then
    grd (0 ≤ call_2 ∧ call_2 < 8 ∧ InR (call_2 - 1) ∧ 0 ≤ call_2 - 1 ∧ call_2 - 1 < 8 ∧ InR (m (60 + trip_2.toNat) call_2.toNat - (m (85 + trip_2.toNat) (call_2 - 1).toNat)) ∧ InR (minutes_3 + (m (60 + trip_2.toNat) call_2.toNat - (m (85 + trip_2.toNat) (call_2 - 1).toNat)))) <|
    ltv (minutes_3 + (m (60 + trip_2.toNat) call_2.toNat - (m (85 + trip_2.toNat) (call_2 - 1).toNat)) : Int) fun minutes_4 =>
    grd (InR (count_3 + 1)) <|
    ltv (count_3 + 1) fun count_4 =>
    grd (InR (call_2 + 1)) <|
    ltv (call_2 + 1) fun call_3 =>
    some (.inl (minutes_4, count_4, call_3))
  else
    some (.inr (minutes_3, count_3, call_2))
noncomputable def C_meanBetween_b1 (m : Mem) (minutes_2 : Int) (count_2 : Int) (trip_2 : Int) : Option ((Int × Int × Int) ⊕ (Int × Int × Int)) :=
  if trip_2 < m 31 0 then
    ltv (1 : Int) fun call_ =>
    bq3 (loop (fun s => C_meanBetween_b2 m trip_2 s.1 s.2.1 s.2.2) (minutes_2, count_2, call_)) fun minutes_5 count_5 call_4 =>
    grd (InR (trip_2 + 1)) <|
    ltv (trip_2 + 1) fun trip_3 =>
    some (.inl (minutes_5, count_5, trip_3))
  else
    some (.inr (minutes_2, count_2, trip_2))
noncomputable def C_meanBetween  (m : Mem) : Option ((UInt64 ⊕ Nat) × Mem) :=
  ltv (0 : Int) fun minutes_ =>
  ltv (0 : Int) fun count_ =>
  ltv (0 : Int) fun trip_ =>
  bq3 (loop (fun s => C_meanBetween_b1 m s.1 s.2.1 s.2.2) (minutes_, count_, trip_)) fun minutes_6 count_6 trip_4 =>
  if count_6 = 0 then
    some (.inr 3, m)
  else
    grd (vf_n64 (FP.ddiv (FP.i2d (i32 minutes_6)) (FP.i2d (i32 count_6)))) <|
    some (.inl (FP.ddiv (FP.i2d (i32 minutes_6)) (FP.i2d (i32 count_6))), m)
def rm_X11_meanBetween : Room := { frames := 6, cells := 1, slots := 6, locals := 82 }
noncomputable def C_Stops_addTo_b1 (m : Mem) (then_2 : Int64) (stop_2 : Int) : Option ((Int64 × Int) ⊕ (Int64 × Int)) :=
  if stop_2 < m 1 0 then
    grd (0 ≤ stop_2 ∧ stop_2 < 12) <|
    ltv ((31 * then_2) + (Int64.ofInt (m 2 stop_2.toNat)) : Int64) fun then_3 =>
    grd (InR (stop_2 + 1)) <|
    ltv (stop_2 + 1) fun stop_3 =>
    some (.inl (then_3, stop_3))
  else
    some (.inr (then_2, stop_2))
noncomputable def C_Stops_addTo (sum_ : Int64) (m : Mem) : Option Int64 :=
  ltv (sum_ : Int64) fun then_ =>
  ltv (0 : Int) fun stop_ =>
  bq2 (loop (fun s => C_Stops_addTo_b1 m s.1 s.2) (then_, stop_)) fun then_4 stop_4 =>
  some then_4
def rm_X8_addTo : Room := { frames := 0, cells := 0, slots := 0, locals := 0 }
noncomputable def C_Trips_addTo_b2 (m : Mem) (trip_2 : Int) (then_4 : Int64) (call_2 : Int) : Option ((Int64 × Int) ⊕ (Int64 × Int)) :=
  grd (0 ≤ trip_2 ∧ trip_2 < 24) <|
  if call_2 < m 33 trip_2.toNat then
    grd (0 ≤ call_2 ∧ call_2 < 8) <|
    ltv ((31 * then_4) + (Int64.ofInt (m (35 + trip_2.toNat) call_2.toNat)) : Int64) fun then_5 =>
    ltv ((31 * then_5) + (Int64.ofInt (m (60 + trip_2.toNat) call_2.toNat)) : Int64) fun then_6 =>
    ltv ((31 * then_6) + (Int64.ofInt (m (85 + trip_2.toNat) call_2.toNat)) : Int64) fun then_7 =>
    grd (InR (call_2 + 1)) <|
    ltv (call_2 + 1) fun call_3 =>
    some (.inl (then_7, call_3))
  else
    some (.inr (then_4, call_2))
noncomputable def C_Trips_addTo_b1 (m : Mem) (then_2 : Int64) (trip_2 : Int) : Option ((Int64 × Int) ⊕ (Int64 × Int)) :=
  if trip_2 < m 31 0 then
    grd (0 ≤ trip_2 ∧ trip_2 < 24) <|
    ltv ((31 * then_2) + (Int64.ofInt (m 32 trip_2.toNat)) : Int64) fun then_3 =>
    ltv (0 : Int) fun call_ =>
    bq2 (loop (fun s => C_Trips_addTo_b2 m trip_2 s.1 s.2) (then_3, call_)) fun then_8 call_4 =>
    grd (InR (trip_2 + 1)) <|
    ltv (trip_2 + 1) fun trip_3 =>
    some (.inl (then_8, trip_3))
  else
    some (.inr (then_2, trip_2))
noncomputable def C_Trips_addTo (sum_ : Int64) (m : Mem) : Option Int64 :=
  ltv (sum_ : Int64) fun then_ =>
  ltv (0 : Int) fun trip_ =>
  bq2 (loop (fun s => C_Trips_addTo_b1 m s.1 s.2) (then_, trip_)) fun then_9 trip_4 =>
  some then_9
def rm_X9_addTo : Room := { frames := 0, cells := 0, slots := 0, locals := 0 }
noncomputable def C_Services_addTo_b2 (m : Mem) (service_2 : Int) (then_3 : Int64) (day_2 : Int) : Option ((Int64 × Int) ⊕ (Int64 × Int)) :=
  if day_2 < 28 then
    ltv (fun (v_ : Int) =>
    ltv ((31 * then_3) + (Int64.ofInt v_) : Int64) fun then_4 =>
    grd (InR (day_2 + 1)) <|
    ltv (day_2 + 1) fun day_3 =>
    some (.inl (then_4, day_3))) fun kj_ =>
    (C_Services_isOn service_2 day_2 m).bind fun r_ =>
    if ¬ r_ = 0 then
      kj_ 1
    else
      kj_ 0
  else
    some (.inr (then_3, day_2))
noncomputable def C_Services_addTo_b1 (m : Mem) (then_2 : Int64) (service_2 : Int) : Option ((Int64 × Int) ⊕ (Int64 × Int)) :=
  if service_2 < m 29 0 then
    ltv (0 : Int) fun day_ =>
    bq2 (loop (fun s => C_Services_addTo_b2 m service_2 s.1 s.2) (then_2, day_)) fun then_5 day_4 =>
    grd (InR (service_2 + 1)) <|
    ltv (service_2 + 1) fun service_3 =>
    some (.inl (then_5, service_3))
  else
    some (.inr (then_2, service_2))
noncomputable def C_Services_addTo (sum_ : Int64) (m : Mem) : Option Int64 :=
  ltv (sum_ : Int64) fun then_ =>
  ltv (0 : Int) fun service_ =>
  bq2 (loop (fun s => C_Services_addTo_b1 m s.1 s.2) (then_, service_)) fun then_6 service_4 =>
  some then_6
def rm_X7_addTo : Room := { frames := 1, cells := 0, slots := 0, locals := 22 }
noncomputable def C_checksum  (m : Mem) : Option Int64 :=
  (C_Stops_addTo 7 m).bind fun r_ =>
  ltv (r_ : Int64) fun sum_ =>
  (C_Trips_addTo sum_ m).bind fun r_2 =>
  ltv (r_2 : Int64) fun sum_2 =>
  (C_Services_addTo sum_2 m).bind fun r_3 =>
  ltv (r_3 : Int64) fun sum_3 =>
  some ((31 * sum_3) + (Int64.ofInt (m 114 1)))
def rm_X11_checksum : Room := { frames := 2, cells := 0, slots := 0, locals := 48 }
noncomputable def C_lastIsSound (stop_ : Int) (by_ : Int) (m : Mem) : Option (Int × Mem) :=
  bq2 (C_Search_lastLeave 0 stop_ by_ m) fun r_ m_ =>
  ltv (r_ : Int) fun leave_ =>
  if leave_ < 0 then
    some (0, m_)
  else
    (C_Search_scan 0 leave_ m_).bind fun m_2 =>
    ltv (fun (v_ : Int) =>
    ltv (v_ : Int) fun isInTime_ =>
    grd (InR (leave_ + 1)) <|
    (C_Search_scan 0 (leave_ + 1) m_2).bind fun m_3 =>
    if ¬ isInTime_ = 0 then
      (C_Labels_at 352 stop_ m_3).bind fun r_3 =>
      if by_ < r_3 then
        some (1, m_3)
      else
        some (0, m_3)
    else
      some (0, m_3)) fun kj_ =>
    (C_Labels_at 352 stop_ m_2).bind fun r_2 =>
    if r_2 ≤ by_ then
      kj_ 1
    else
      kj_ 0
def rm_X11_lastIsSound : Room := { frames := 5, cells := 0, slots := 0, locals := 159 }
noncomputable def C_waysAreSound_b1 (stop_2 : Int) (m_2 : Mem) : Option ((Int × Mem) ⊕ (Int × Mem)) :=
  if stop_2 < m_2 1 0 then
    grd (0 ≤ stop_2 ∧ stop_2 < 12) <|
    (C_Labels_at 352 stop_2 m_2).bind fun r_ =>
    ltv (setM m_2 443 stop_2.toNat r_) fun m_3 =>
    grd (InR (stop_2 + 1)) <|
    ltv (stop_2 + 1) fun stop_3 =>
    some (.inl (stop_3, m_3))
  else
    some (.inr (stop_2, m_2))
noncomputable def C_waysAreSound_b2 (m_6 : Mem) (stop_6 : Int) : Option ((Int) ⊕ ((Int) ⊕ (Int × Mem))) :=
  if stop_6 < m_6 1 0 then
    (C_Labels_at 352 stop_6 m_6).bind fun r_2 =>
    grd (0 ≤ stop_6 ∧ stop_6 < 12) <|
    if ¬ r_2 = m_6 443 stop_6.toNat then
      some (.inr (.inr (0, m_6)))
    else
      (C_Rounds_least stop_6 m_6).bind fun r_3 =>
      if ¬ r_3 = m_6 443 stop_6.toNat then
        some (.inr (.inr (0, m_6)))
      else
        grd (InR (stop_6 + 1)) <|
        ltv (stop_6 + 1) fun stop_7 =>
        some (.inl stop_7)
  else
    some (.inr (.inl stop_6))
noncomputable def C_waysAreSound_b3 (stop_10 : Int) (m_7 : Mem) : Option ((Int × Mem) ⊕ ((Int × Mem) ⊕ (Int × Mem))) :=
  if stop_10 < m_7 1 0 then
    grd (0 ≤ stop_10 ∧ stop_10 < 12) <|
    if m_7 443 stop_10.toNat < 1000000 then
      bq2 (C_lastIsSound stop_10 (m_7 443 stop_10.toNat) m_7) fun r_4 m_8 =>
      if ¬ r_4 = 0 then
        grd (InR (stop_10 + 1)) <|
        ltv (stop_10 + 1) fun stop_12 =>
        some (.inl (stop_12, m_8))
      else
        some (.inr (.inr (0, m_8)))
    else
      grd (InR (stop_10 + 1)) <|
      ltv (stop_10 + 1) fun stop_11 =>
      some (.inl (stop_11, m_7))
  else
    some (.inr (.inl (stop_10, m_7)))
noncomputable def C_waysAreSound  (m : Mem) : Option (Int × Mem) :=
  (C_Search_scan 0 480 m).bind fun m_ =>
  ltv (0 : Int) fun stop_ =>
  bq2 (loop (fun s => C_waysAreSound_b1 s.1 s.2) (stop_, m_)) fun stop_4 m_4 =>
  (C_Search_goOnFromNearest 0 480 m_4).bind fun m_5 =>
  (C_Rounds_fill 0 480 m_5).bind fun m_6 =>
  ltv (0 : Int) fun stop_5 =>
  br1 (fun q9 => some q9) (loop (fun s => C_waysAreSound_b2 m_6 s) stop_5) fun stop_8 =>
  ltv (0 : Int) fun stop_9 =>
  br2 (fun q9 => some q9) (loop (fun s => C_waysAreSound_b3 s.1 s.2) (stop_9, m_6)) fun stop_13 m_9 =>
  some (1, m_9)
def rm_X11_waysAreSound : Room := { frames := 6, cells := 0, slots := 0, locals := 183 }
noncomputable def C_pairsAreSound_b1 (m_ : Mem) (index_2 : Int) : Option ((Int) ⊕ ((Int) ⊕ (Int × Mem))) :=
  if index_2 < m_ 345 7 then
    grd (0 ≤ index_2 ∧ index_2 < 576 ∧ InR (index_2 - 1) ∧ 0 ≤ index_2 - 1 ∧ index_2 - 1 < 576) <|
    ltv ((if m_ 350 (index_2 - 1).toNat < m_ 350 index_2.toNat then 1 else 0) : Int) fun leavesLater_ =>
    grd ((¬ (leavesLater_ = 0) → 0 ≤ index_2) ∧ (¬ (leavesLater_ = 0) → index_2 < 576) ∧ (¬ (leavesLater_ = 0) → InR (index_2 - 1)) ∧ (¬ (leavesLater_ = 0) → 0 ≤ index_2 - 1) ∧ (¬ (leavesLater_ = 0) → index_2 - 1 < 576)) <|
    if (leavesLater_ = 0) ∨ (m_ 351 index_2.toNat ≤ m_ 351 (index_2 - 1).toNat) then
      some (.inr (.inr (0, m_)))
    else
      grd (InR (index_2 + 1)) <|
      ltv (index_2 + 1) fun index_3 =>
      some (.inl index_3)
  else
    some (.inr (.inl index_2))
noncomputable def C_pairsAreSound (to_ : Int) (m : Mem) : Option (Int × Mem) :=
  (C_Search_collectPairs 0 to_ m).bind fun m_ =>
  ltv (1 : Int) fun index_ =>
  br1 (fun q9 => some q9) (loop (fun s => C_pairsAreSound_b1 m_ s) index_) fun index_4 =>
  (C_Search_pairArrivalFrom 480 m_).bind fun r_ =>
  ltv (r_ : Int) fun byPair_ =>
  (C_Search_scan 0 480 m_).bind fun m_2 =>
  grd (0 ≤ to_ ∧ to_ < 12 ∧ InR (480 + m_2 17 to_.toNat)) <|
  (C_Labels_at 352 to_ m_2).bind fun r_2 =>
  if (if 480 + m_2 17 to_.toNat < byPair_ then 480 + m_2 17 to_.toNat else byPair_) = r_2 then
    some (1, m_2)
  else
    if 1000000 ≤ byPair_ then
      (C_Labels_at 352 to_ m_2).bind fun r_3 =>
      if 1000000 ≤ r_3 then
        some (1, m_2)
      else
        some (0, m_2)
    else
      some (0, m_2)
def rm_X11_pairsAreSound : Room := { frames := 5, cells := 0, slots := 0, locals := 159 }
noncomputable def C_isSound (day_ : Int) (m : Mem) : Option ((Int ⊕ Nat) × Mem) :=
  (C_needDay day_ m).bind fun q3 => tbd q3 fun u_ m_ =>
  (C_Net_lay day_ (-1) 0 m_).bind fun m_2 =>
  if 0 < m_2 1 0 then
    bq2 (C_waysAreSound m_2) fun r_6 m_10 =>
    if ¬ r_6 = 0 then
      if 1 < m_10 1 0 then
        grd (InR (m_10 1 0 - 1)) <|
        bq2 (C_pairsAreSound (m_10 1 0 - 1) m_10) fun r_9 m_14 =>
        if ¬ r_9 = 0 then
          (C_Fleet_gather day_ m_14).bind fun m_15 =>
          bq2 (C_Fleet_countByTimes (m_15 1 0) m_15) fun r_10 m_16 =>
          bq2 (C_Fleet_countByMatching m_16) fun r_11 m_17 =>
          if r_10 = r_11 then
            some (.inl 1, m_17)
          else
            some (.inl 0, m_17)
        else
          some (.inl 0, m_14)
      else
        (C_Fleet_gather day_ m_10).bind fun m_11 =>
        bq2 (C_Fleet_countByTimes (m_11 1 0) m_11) fun r_7 m_12 =>
        bq2 (C_Fleet_countByMatching m_12) fun r_8 m_13 =>
        if r_7 = r_8 then
          some (.inl 1, m_13)
        else
          some (.inl 0, m_13)
    else
      some (.inl 0, m_10)
  else
    if 1 < m_2 1 0 then
      grd (InR (m_2 1 0 - 1)) <|
      bq2 (C_pairsAreSound (m_2 1 0 - 1) m_2) fun r_3 m_6 =>
      if ¬ r_3 = 0 then
        (C_Fleet_gather day_ m_6).bind fun m_7 =>
        bq2 (C_Fleet_countByTimes (m_7 1 0) m_7) fun r_4 m_8 =>
        bq2 (C_Fleet_countByMatching m_8) fun r_5 m_9 =>
        if r_4 = r_5 then
          some (.inl 1, m_9)
        else
          some (.inl 0, m_9)
      else
        some (.inl 0, m_6)
    else
      (C_Fleet_gather day_ m_2).bind fun m_3 =>
      bq2 (C_Fleet_countByTimes (m_3 1 0) m_3) fun r_ m_4 =>
      bq2 (C_Fleet_countByMatching m_4) fun r_2 m_5 =>
      if r_ = r_2 then
        some (.inl 1, m_5)
      else
        some (.inl 0, m_5)
def rm_X11_isSound : Room := { frames := 8, cells := 1, slots := 6, locals := 205 }
