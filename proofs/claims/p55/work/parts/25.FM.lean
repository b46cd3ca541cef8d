/-! ===== printed by a program out of the Java source and the decode rows: 25.FM ===== -/
noncomputable def M_thrown  (m : Mem) : Option Int :=
  some (m 0 0)
def rm_X12_thrown : Room := { frames := 0, cells := 0, slots := 0, locals := 0 }
noncomputable def M_isThrown (is_ : Int) (as_ : Int) (m : Mem) : Option (Int × Mem) :=
  ltv (setM m 0 0 (if ¬ is_ = 0 then as_ else 0)) fun m_ =>
  grd ((is_ = 0 ∨ is_ = 1)) <|
  some (is_, m_)
def rm_X12_isThrown : Room := { frames := 0, cells := 0, slots := 0, locals := 0 }
def M_isIn (v_ : Int) (low_ : Int) (high_ : Int) : Int :=
  (if (low_ ≤ v_) ∧ (v_ ≤ high_) then 1 else 0)
def rm_X12_isIn : Room := { frames := 0, cells := 0, slots := 0, locals := 0 }
noncomputable def M_isNoStop (stop_ : Int) (m : Mem) : Option (Int × Mem) :=
  grd (InR (m 0 1 - 1)) <|
  bq2 (M_isThrown (if M_isIn stop_ 0 (m 0 1 - 1) = 0 then 1 else 0) 1 m) fun r_ m_ =>
  grd ((r_ = 0 ∨ r_ = 1)) <|
  some (r_, m_)
def rm_X12_isNoStop : Room := { frames := 1, cells := 0, slots := 0, locals := 22 }
noncomputable def M_isNoDay (day_ : Int) (as_ : Int) (m : Mem) : Option (Int × Mem) :=
  bq2 (M_isThrown (if M_isIn day_ 0 27 = 0 then 1 else 0) as_ m) fun r_ m_ =>
  grd ((r_ = 0 ∨ r_ = 1)) <|
  some (r_, m_)
def rm_X12_isNoDay : Room := { frames := 1, cells := 0, slots := 0, locals := 22 }
noncomputable def M_isNoService (service_ : Int) (m : Mem) : Option (Int × Mem) :=
  grd (InR (m 0 6 - 1)) <|
  bq2 (M_isThrown (if M_isIn service_ 0 (m 0 6 - 1) = 0 then 1 else 0) 1 m) fun r_ m_ =>
  grd ((r_ = 0 ∨ r_ = 1)) <|
  some (r_, m_)
def rm_X12_isNoService : Room := { frames := 1, cells := 0, slots := 0, locals := 22 }
noncomputable def M_isNoTrip (trip_ : Int) (m : Mem) : Option (Int × Mem) :=
  grd (InR (m 0 8 - 1)) <|
  bq2 (M_isThrown (if M_isIn trip_ 0 (m 0 8 - 1) = 0 then 1 else 0) 1 m) fun r_ m_ =>
  grd ((r_ = 0 ∨ r_ = 1)) <|
  some (r_, m_)
def rm_X12_isNoTrip : Room := { frames := 1, cells := 0, slots := 0, locals := 22 }
noncomputable def M_isNoCall (trip_ : Int) (call_ : Int) (m : Mem) : Option (Int × Mem) :=
  bq2 (M_isNoTrip trip_ m) fun r_ m_ =>
  if ¬ r_ = 0 then
    some (1, m_)
  else
    grd (0 ≤ trip_ ∧ trip_ < 24 ∧ InR (m_ 6 trip_.toNat - 1)) <|
    bq2 (M_isThrown (if M_isIn call_ 0 (m_ 6 trip_.toNat - 1) = 0 then 1 else 0) 1 m_) fun r_2 m_2 =>
    if ¬ r_2 = 0 then
      some (1, m_2)
    else
      some (0, m_2)
def rm_X12_isNoCall : Room := { frames := 2, cells := 0, slots := 0, locals := 43 }
noncomputable def M_walks_b2 (a_2 : Int) (b_2 : Int) (m_2 : Mem) : Option ((Int × Mem) ⊕ (Int × Mem)) :=
  if b_2 < m_2 0 1 then
    grd (InR (12 * a_2) ∧ InR (12 * a_2 + b_2) ∧ 0 ≤ 12 * a_2 + b_2 ∧ 12 * a_2 + b_2 < 144) <|
    ltv (m_2 2 (12 * a_2 + b_2).toNat : Int) fun minutes_ =>
    ltv (setM m_2 3 (12 * a_2 + b_2).toNat (if a_2 = b_2 then 0 else (if ((minutes_ = 0) ∨ (a_2 = m_2 0 5)) ∨ (b_2 = m_2 0 5) then 1000000 else minutes_))) fun m_3 =>
    grd (InR (b_2 + 1)) <|
    ltv (b_2 + 1) fun b_3 =>
    some (.inl (b_3, m_3))
  else
    some (.inr (b_2, m_2))
noncomputable def M_walks_b1 (a_2 : Int) (m_ : Mem) : Option ((Int × Mem) ⊕ (Int × Mem)) :=
  if a_2 < m_ 0 1 then
    ltv (0 : Int) fun b_ =>
    bq2 (loop (fun s => M_walks_b2 a_2 s.1 s.2) (b_, m_)) fun b_4 m_4 =>
    grd (InR (a_2 + 1)) <|
    ltv (a_2 + 1) fun a_3 =>
    some (.inl (a_3, m_4))
  else
    some (.inr (a_2, m_))
noncomputable def M_walks_b5 (k_2 : Int) (a_6 : Int) (b_6 : Int) (m_8 : Mem) : Option ((Int × Mem) ⊕ (Int × Mem)) :=
  if b_6 < m_8 0 1 then
    grd (InR (12 * a_6) ∧ InR (12 * a_6 + k_2) ∧ 0 ≤ 12 * a_6 + k_2 ∧ 12 * a_6 + k_2 < 144 ∧ InR (12 * k_2) ∧ InR (12 * k_2 + b_6) ∧ 0 ≤ 12 * k_2 + b_6 ∧ 12 * k_2 + b_6 < 144 ∧ InR (m_8 3 (12 * a_6 + k_2).toNat + (m_8 3 (12 * k_2 + b_6).toNat))) <|
    ltv (m_8 3 (12 * a_6 + k_2).toNat + (m_8 3 (12 * k_2 + b_6).toNat) : Int) fun sum_ =>
    grd (InR (12 * a_6 + b_6) ∧ 0 ≤ 12 * a_6 + b_6 ∧ 12 * a_6 + b_6 < 144) <|
    if sum_ < m_8 3 (12 * a_6 + b_6).toNat then
      ltv (setM m_8 3 (12 * a_6 + b_6).toNat sum_) fun m_9 =>
      grd (InR (b_6 + 1)) <|
      ltv (b_6 + 1) fun b_8 =>
      some (.inl (b_8, m_9))
    else
      grd (InR (b_6 + 1)) <|
      ltv (b_6 + 1) fun b_7 =>
      some (.inl (b_7, m_8))
  else
    some (.inr (b_6, m_8))
noncomputable def M_walks_b4 (k_2 : Int) (a_6 : Int) (m_7 : Mem) : Option ((Int × Mem) ⊕ (Int × Mem)) :=
  if a_6 < m_7 0 1 then
    ltv (0 : Int) fun b_5 =>
    bq2 (loop (fun s => M_walks_b5 k_2 a_6 s.1 s.2) (b_5, m_7)) fun b_9 m_10 =>
    grd (InR (a_6 + 1)) <|
    ltv (a_6 + 1) fun a_7 =>
    some (.inl (a_7, m_10))
  else
    some (.inr (a_6, m_7))
noncomputable def M_walks_b3 (k_2 : Int) (m_6 : Mem) : Option ((Int × Mem) ⊕ (Int × Mem)) :=
  if k_2 < m_6 0 1 then
    ltv (0 : Int) fun a_5 =>
    bq2 (loop (fun s => M_walks_b4 k_2 s.1 s.2) (a_5, m_6)) fun a_8 m_11 =>
    grd (InR (k_2 + 1)) <|
    ltv (k_2 + 1) fun k_3 =>
    some (.inl (k_3, m_11))
  else
    some (.inr (k_2, m_6))
noncomputable def M_walks  (m : Mem) : Option Mem :=
  ltv (0 : Int) fun a_ =>
  bq2 (loop (fun s => M_walks_b1 s.1 s.2) (a_, m)) fun a_4 m_5 =>
  ltv (0 : Int) fun k_ =>
  bq2 (loop (fun s => M_walks_b3 s.1 s.2) (k_, m_5)) fun k_4 m_12 =>
  some m_12
def rm_X12_walks : Room := { frames := 0, cells := 0, slots := 0, locals := 0 }
noncomputable def M_stop (minutes_ : Int) (m : Mem) : Option (Int × Mem) :=
  bq2 (M_isThrown (if M_isIn minutes_ 0 30 = 0 then 1 else 0) 1 m) fun r_ m_ =>
  if ¬ r_ = 0 then
    some (0, m_)
  else
    bq2 (M_isThrown (if m_ 0 1 = 12 then 1 else 0) 2 m_) fun r_2 m_2 =>
    if ¬ r_2 = 0 then
      some (0, m_2)
    else
      grd (0 ≤ m_2 0 1 ∧ m_2 0 1 < 12) <|
      ltv (setM m_2 1 (m_2 0 1).toNat minutes_) fun m_3 =>
      grd (InR (m_3 0 1 + 1)) <|
      ltv (setM m_3 0 1 (m_3 0 1 + 1)) fun m_4 =>
      (M_walks m_4).bind fun m_5 =>
      grd (InR (m_5 0 1 - 1)) <|
      some (m_5 0 1 - 1, m_5)
def rm_X12_stop : Room := { frames := 1, cells := 0, slots := 0, locals := 24 }
noncomputable def M_setChange (stop_ : Int) (minutes_ : Int) (m : Mem) : Option (Int × Mem) :=
  bq2 (M_isNoStop stop_ m) fun r_ m_ =>
  if ¬ r_ = 0 then
    some (0, m_)
  else
    bq2 (M_isThrown (if M_isIn minutes_ 0 30 = 0 then 1 else 0) 2 m_) fun r_2 m_2 =>
    if ¬ r_2 = 0 then
      some (0, m_2)
    else
      grd (0 ≤ stop_ ∧ stop_ < 12) <|
      ltv (m_2 1 stop_.toNat : Int) fun had_ =>
      ltv (setM m_2 1 stop_.toNat minutes_) fun m_3 =>
      some (had_, m_3)
def rm_X12_setChange : Room := { frames := 2, cells := 0, slots := 0, locals := 43 }
noncomputable def M_walk (stop_ : Int) (other_ : Int) (minutes_ : Int) (m : Mem) : Option (Int × Mem) :=
  bq2 (M_isNoStop stop_ m) fun r_ m_ =>
  if ¬ r_ = 0 then
    some (0, m_)
  else
    bq2 (M_isNoStop other_ m_) fun r_2 m_2 =>
    if ¬ r_2 = 0 then
      some (0, m_2)
    else
      bq2 (M_isThrown (if (stop_ = other_) ∨ (M_isIn minutes_ 0 60 = 0) then 1 else 0) 2 m_2) fun r_3 m_3 =>
      if ¬ r_3 = 0 then
        some (0, m_3)
      else
        grd (InR (12 * stop_) ∧ InR (12 * stop_ + other_) ∧ 0 ≤ 12 * stop_ + other_ ∧ 12 * stop_ + other_ < 144) <|
        ltv (m_3 2 (12 * stop_ + other_).toNat : Int) fun had_ =>
        ltv (setM m_3 2 (12 * stop_ + other_).toNat minutes_) fun m_4 =>
        grd (InR (12 * other_) ∧ InR (12 * other_ + stop_) ∧ 0 ≤ 12 * other_ + stop_ ∧ 12 * other_ + stop_ < 144) <|
        ltv (setM m_4 2 (12 * other_ + stop_).toNat minutes_) fun m_5 =>
        (M_walks m_5).bind fun m_6 =>
        some (had_, m_6)
def rm_X12_walk : Room := { frames := 2, cells := 0, slots := 0, locals := 43 }
noncomputable def M_walkTime (stop_ : Int) (other_ : Int) (m : Mem) : Option (Int × Mem) :=
  bq2 (M_isNoStop stop_ m) fun r_ m_ =>
  if ¬ r_ = 0 then
    some (0, m_)
  else
    bq2 (M_isNoStop other_ m_) fun r_2 m_2 =>
    if ¬ r_2 = 0 then
      some (0, m_2)
    else
      grd (InR (12 * stop_) ∧ InR (12 * stop_ + other_) ∧ 0 ≤ 12 * stop_ + other_ ∧ 12 * stop_ + other_ < 144) <|
      bq2 (M_isThrown (if 1000000 ≤ m_2 3 (12 * stop_ + other_).toNat then 1 else 0) 2 m_2) fun r_3 m_3 =>
      if ¬ r_3 = 0 then
        some (0, m_3)
      else
        grd (InR (12 * stop_) ∧ InR (12 * stop_ + other_) ∧ 0 ≤ 12 * stop_ + other_ ∧ 12 * stop_ + other_ < 144) <|
        some (m_3 3 (12 * stop_ + other_).toNat, m_3)
def rm_X12_walkTime : Room := { frames := 2, cells := 0, slots := 0, locals := 43 }
noncomputable def M_service  (m : Mem) : Option (Int × Mem) :=
  bq2 (M_isThrown (if m 0 6 = 6 then 1 else 0) 1 m) fun r_ m_ =>
  if ¬ r_ = 0 then
    some (0, m_)
  else
    grd (InR (m_ 0 6 + 1)) <|
    ltv (setM m_ 0 6 (m_ 0 6 + 1)) fun m_2 =>
    grd (InR (m_2 0 6 - 1)) <|
    some (m_2 0 6 - 1, m_2)
def rm_X12_service : Room := { frames := 1, cells := 0, slots := 0, locals := 22 }
noncomputable def M_week_b1 (service_ : Int) (days_ : Int) (to_ : Int) (d_2 : Int) (m_3 : Mem) : Option ((Int × Mem) ⊕ (Int × Mem)) :=
  if d_2 ≤ to_ then
    if jiand (jishr days_ (d_2.tmod 7)) 1 = 1 then
      grd (InR (28 * service_) ∧ InR (28 * service_ + d_2) ∧ 0 ≤ 28 * service_ + d_2 ∧ 28 * service_ + d_2 < 168) <|
      ltv (setM m_3 4 (28 * service_ + d_2).toNat 1) fun m_4 =>
      grd (InR (d_2 + 1)) <|
      ltv (d_2 + 1) fun d_4 =>
      some (.inl (d_4, m_4))
    else
      grd (InR (d_2 + 1)) <|
      ltv (d_2 + 1) fun d_3 =>
      some (.inl (d_3, m_3))
  else
    some (.inr (d_2, m_3))
noncomputable def M_week_b2 (service_ : Int) (m_5 : Mem) (many_2 : Int) (d_7 : Int) : Option ((Int × Int) ⊕ (Int × Int)) :=
  if d_7 < 28 then
    grd (InR (28 * service_) ∧ InR (28 * service_ + d_7) ∧ 0 ≤ 28 * service_ + d_7 ∧ 28 * service_ + d_7 < 168 ∧ InR (many_2 + (if ¬ m_5 4 (28 * service_ + d_7).toNat = 0 then 1 else 0))) <|
    ltv (many_2 + (if ¬ m_5 4 (28 * service_ + d_7).toNat = 0 then 1 else 0) : Int) fun many_3 =>
    grd (InR (d_7 + 1)) <|
    ltv (d_7 + 1) fun d_8 =>
    some (.inl (many_3, d_8))
  else
    some (.inr (many_2, d_7))
noncomputable def M_week (service_ : Int) (days_ : Int) (from_ : Int) (to_ : Int) (m : Mem) : Option (Int × Mem) :=
  bq2 (M_isNoService service_ m) fun r_ m_ =>
  if ¬ r_ = 0 then
    some (0, m_)
  else
    bq2 (M_isThrown (if (((M_isIn days_ 0 127 = 0) ∨ (M_isIn from_ 0 27 = 0)) ∨ (M_isIn to_ 0 27 = 0)) ∨ (to_ < from_) then 1 else 0) 2 m_) fun r_2 m_2 =>
    if ¬ r_2 = 0 then
      some (0, m_2)
    else
      ltv (from_ : Int) fun d_ =>
      bq2 (loop (fun s => M_week_b1 service_ days_ to_ s.1 s.2) (d_, m_2)) fun d_5 m_5 =>
      ltv (0 : Int) fun many_ =>
      ltv (0 : Int) fun d_6 =>
      bq2 (loop (fun s => M_week_b2 service_ m_5 s.1 s.2) (many_, d_6)) fun many_4 d_9 =>
      some (many_4, m_5)
def rm_X12_week : Room := { frames := 2, cells := 0, slots := 0, locals := 43 }
noncomputable def M_putDay (service_ : Int) (day_ : Int) (isOn_ : Int) (m : Mem) : Option (Int × Mem) :=
  bq2 (M_isNoService service_ m) fun r_ m_ =>
  if ¬ r_ = 0 then
    some (0, m_)
  else
    bq2 (M_isNoDay day_ 2 m_) fun r_2 m_2 =>
    if ¬ r_2 = 0 then
      some (0, m_2)
    else
      grd (InR (28 * service_) ∧ InR (28 * service_ + day_) ∧ 0 ≤ 28 * service_ + day_ ∧ 28 * service_ + day_ < 168) <|
      ltv (m_2 4 (28 * service_ + day_).toNat : Int) fun had_ =>
      grd ((isOn_ = 0 ∨ isOn_ = 1)) <|
      ltv (setM m_2 4 (28 * service_ + day_).toNat isOn_) fun m_3 =>
      grd ((had_ = 0 ∨ had_ = 1)) <|
      some (had_, m_3)
def rm_X12_putDay : Room := { frames := 2, cells := 0, slots := 0, locals := 44 }
noncomputable def M_runsOn (service_ : Int) (day_ : Int) (m : Mem) : Option (Int × Mem) :=
  bq2 (M_isNoService service_ m) fun r_ m_ =>
  if ¬ r_ = 0 then
    some (0, m_)
  else
    bq2 (M_isNoDay day_ 2 m_) fun r_2 m_2 =>
    if ¬ r_2 = 0 then
      some (0, m_2)
    else
      grd (InR (28 * service_) ∧ InR (28 * service_ + day_) ∧ 0 ≤ 28 * service_ + day_ ∧ 28 * service_ + day_ < 168) <|
      if ¬ m_2 4 (28 * service_ + day_).toNat = 0 then
        some (1, m_2)
      else
        some (0, m_2)
def rm_X12_runsOn : Room := { frames := 2, cells := 0, slots := 0, locals := 44 }
noncomputable def M_nextDay_b1 (service_ : Int) (m_2 : Mem) (d_2 : Int) : Option ((Int) ⊕ (Int)) :=
  grd (((d_2 < 28) → InR (28 * service_)) ∧ ((d_2 < 28) → InR (28 * service_ + d_2)) ∧ ((d_2 < 28) → 0 ≤ 28 * service_ + d_2) ∧ ((d_2 < 28) → 28 * service_ + d_2 < 168)) <|
  if (d_2 < 28) ∧ (m_2 4 (28 * service_ + d_2).toNat = 0) then
    grd (InR (d_2 + 1)) <|
    ltv (d_2 + 1) fun d_3 =>
    some (.inl d_3)
  else
    some (.inr d_2)
noncomputable def M_nextDay (service_ : Int) (day_ : Int) (m : Mem) : Option (Int × Mem) :=
  bq2 (M_isNoService service_ m) fun r_ m_ =>
  if ¬ r_ = 0 then
    some (0, m_)
  else
    bq2 (M_isNoDay day_ 2 m_) fun r_2 m_2 =>
    if ¬ r_2 = 0 then
      some (0, m_2)
    else
      ltv (day_ : Int) fun d_ =>
      bq1 (loop (fun s => M_nextDay_b1 service_ m_2 s) d_) fun d_4 =>
      bq2 (M_isThrown (if d_4 = 28 then 1 else 0) 3 m_2) fun r_3 m_3 =>
      if ¬ r_3 = 0 then
        some (0, m_3)
      else
        some (d_4, m_3)
def rm_X12_nextDay : Room := { frames := 2, cells := 0, slots := 0, locals := 44 }
noncomputable def M_added (service_ : Int) (stop_ : Int) (time_ : Int) (m : Mem) : Option (Int × Mem) :=
  grd (0 ≤ m 0 8 ∧ m 0 8 < 24) <|
  ltv (setM m 5 (m 0 8).toNat service_) fun m_ =>
  grd (0 ≤ m_ 0 8 ∧ m_ 0 8 < 24) <|
  ltv (setM m_ 6 (m_ 0 8).toNat 1) fun m_2 =>
  grd (InR (8 * (m_2 0 8)) ∧ 0 ≤ 8 * (m_2 0 8) ∧ 8 * (m_2 0 8) < 192) <|
  ltv (setM m_2 7 (8 * (m_2 0 8)).toNat stop_) fun m_3 =>
  grd (InR (8 * (m_3 0 8)) ∧ 0 ≤ 8 * (m_3 0 8) ∧ 8 * (m_3 0 8) < 192) <|
  ltv (setM m_3 8 (8 * (m_3 0 8)).toNat time_) fun m_4 =>
  grd (InR (8 * (m_4 0 8)) ∧ 0 ≤ 8 * (m_4 0 8) ∧ 8 * (m_4 0 8) < 192) <|
  ltv (setM m_4 9 (8 * (m_4 0 8)).toNat time_) fun m_5 =>
  grd (InR (m_5 0 8 + 1)) <|
  ltv (setM m_5 0 8 (m_5 0 8 + 1)) fun m_6 =>
  grd (InR (m_6 0 8 - 1)) <|
  some (m_6 0 8 - 1, m_6)
def rm_X12_added : Room := { frames := 0, cells := 0, slots := 0, locals := 0 }
noncomputable def M_trip (service_ : Int) (stop_ : Int) (time_ : Int) (m : Mem) : Option (Int × Mem) :=
  bq2 (M_isNoService service_ m) fun r_ m_ =>
  if ¬ r_ = 0 then
    some (0, m_)
  else
    bq2 (M_isNoStop stop_ m_) fun r_2 m_2 =>
    if ¬ r_2 = 0 then
      some (0, m_2)
    else
      bq2 (M_isThrown (if M_isIn time_ 0 2879 = 0 then 1 else 0) 2 m_2) fun r_3 m_3 =>
      if ¬ r_3 = 0 then
        some (0, m_3)
      else
        bq2 (M_isThrown (if m_3 0 8 = 24 then 1 else 0) 3 m_3) fun r_4 m_4 =>
        if ¬ r_4 = 0 then
          some (0, m_4)
        else
          bq2 (M_added service_ stop_ time_ m_4) fun r_5 m_5 =>
          some (r_5, m_5)
def rm_X12_trip : Room := { frames := 2, cells := 0, slots := 0, locals := 43 }
noncomputable def M_call (trip_ : Int) (stop_ : Int) (comes_ : Int) (goes_ : Int) (m : Mem) : Option (Int × Mem) :=
  bq2 (M_isNoTrip trip_ m) fun r_ m_ =>
  if ¬ r_ = 0 then
    some (0, m_)
  else
    bq2 (M_isNoStop stop_ m_) fun r_2 m_2 =>
    if ¬ r_2 = 0 then
      some (0, m_2)
    else
      grd (InR (8 * trip_) ∧ 0 ≤ trip_ ∧ trip_ < 24 ∧ InR (8 * trip_ + m_2 6 trip_.toNat)) <|
      ltv (8 * trip_ + m_2 6 trip_.toNat : Int) fun at_ =>
      grd ((¬ ((M_isIn comes_ 0 2879 = 0) ∨ (M_isIn goes_ 0 2879 = 0)) → InR (at_ - 1)) ∧ (¬ ((M_isIn comes_ 0 2879 = 0) ∨ (M_isIn goes_ 0 2879 = 0)) → 0 ≤ at_ - 1) ∧ (¬ ((M_isIn comes_ 0 2879 = 0) ∨ (M_isIn goes_ 0 2879 = 0)) → at_ - 1 < 192) ∧ (¬ ((((M_isIn comes_ 0 2879 = 0) ∨ (M_isIn goes_ 0 2879 = 0)) ∨ (comes_ ≤ m_2 9 (at_ - 1).toNat)) ∨ (goes_ < comes_)) → InR (at_ - 1)) ∧ (¬ ((((M_isIn comes_ 0 2879 = 0) ∨ (M_isIn goes_ 0 2879 = 0)) ∨ (comes_ ≤ m_2 9 (at_ - 1).toNat)) ∨ (goes_ < comes_)) → 0 ≤ at_ - 1) ∧ (¬ ((((M_isIn comes_ 0 2879 = 0) ∨ (M_isIn goes_ 0 2879 = 0)) ∨ (comes_ ≤ m_2 9 (at_ - 1).toNat)) ∨ (goes_ < comes_)) → at_ - 1 < 192)) <|
      ltv ((if ((((M_isIn comes_ 0 2879 = 0) ∨ (M_isIn goes_ 0 2879 = 0)) ∨ (comes_ ≤ m_2 9 (at_ - 1).toNat)) ∨ (goes_ < comes_)) ∨ (stop_ = m_2 7 (at_ - 1).toNat) then 1 else 0) : Int) fun isWrong_ =>
      bq2 (M_isThrown isWrong_ 2 m_2) fun r_3 m_3 =>
      if ¬ r_3 = 0 then
        some (0, m_3)
      else
        bq2 (M_isThrown (if m_3 6 trip_.toNat = 8 then 1 else 0) 3 m_3) fun r_4 m_4 =>
        if ¬ r_4 = 0 then
          some (0, m_4)
        else
          grd (0 ≤ at_ ∧ at_ < 192) <|
          ltv (setM m_4 7 at_.toNat stop_) fun m_5 =>
          ltv (setM m_5 8 at_.toNat comes_) fun m_6 =>
          ltv (setM m_6 9 at_.toNat goes_) fun m_7 =>
          grd (InR (m_7 6 trip_.toNat + 1)) <|
          ltv (setM m_7 6 trip_.toNat (m_7 6 trip_.toNat + 1)) fun m_8 =>
          some (m_8 6 trip_.toNat, m_8)
def rm_X12_call : Room := { frames := 2, cells := 0, slots := 0, locals := 43 }
noncomputable def M_trips  (m : Mem) : Option (Int × Mem) :=
  ltv (setM m 0 0 0) fun m_ =>
  some (m_ 0 8, m_)
def rm_X12_trips : Room := { frames := 0, cells := 0, slots := 0, locals := 0 }
noncomputable def M_calls (trip_ : Int) (m : Mem) : Option (Int × Mem) :=
  bq2 (M_isNoTrip trip_ m) fun r_ m_ =>
  if ¬ r_ = 0 then
    some (0, m_)
  else
    grd (0 ≤ trip_ ∧ trip_ < 24) <|
    some (m_ 6 trip_.toNat, m_)
def rm_X12_calls : Room := { frames := 2, cells := 0, slots := 0, locals := 43 }
noncomputable def M_stopAt (trip_ : Int) (call_ : Int) (m : Mem) : Option (Int × Mem) :=
  bq2 (M_isNoCall trip_ call_ m) fun r_ m_ =>
  if ¬ r_ = 0 then
    some (0, m_)
  else
    grd (InR (8 * trip_) ∧ InR (8 * trip_ + call_) ∧ 0 ≤ 8 * trip_ + call_ ∧ 8 * trip_ + call_ < 192) <|
    some (m_ 7 (8 * trip_ + call_).toNat, m_)
def rm_X12_stopAt : Room := { frames := 3, cells := 0, slots := 0, locals := 65 }
noncomputable def M_timeAt (trip_ : Int) (call_ : Int) (isArrival_ : Int) (m : Mem) : Option (Int × Mem) :=
  bq2 (M_isNoCall trip_ call_ m) fun r_ m_ =>
  if ¬ r_ = 0 then
    some (0, m_)
  else
    grd ((¬ (¬ isArrival_ = 0) → InR (8 * trip_)) ∧ (¬ (¬ isArrival_ = 0) → InR (8 * trip_ + call_)) ∧ (¬ (¬ isArrival_ = 0) → 0 ≤ 8 * trip_ + call_) ∧ (¬ (¬ isArrival_ = 0) → 8 * trip_ + call_ < 192) ∧ ((¬ isArrival_ = 0) → InR (8 * trip_)) ∧ ((¬ isArrival_ = 0) → InR (8 * trip_ + call_)) ∧ ((¬ isArrival_ = 0) → 0 ≤ 8 * trip_ + call_) ∧ ((¬ isArrival_ = 0) → 8 * trip_ + call_ < 192)) <|
    some ((if ¬ isArrival_ = 0 then m_ 8 (8 * trip_ + call_).toNat else m_ 9 (8 * trip_ + call_).toNat), m_)
def rm_X12_timeAt : Room := { frames := 3, cells := 0, slots := 0, locals := 65 }
noncomputable def M_isShiftWrong_b1 (trip_ : Int) (minutes_ : Int) (m : Mem) (is_2 : Int) (c_2 : Int) : Option ((Int × Int) ⊕ (Int × Int)) :=
  grd (0 ≤ trip_ ∧ trip_ < 24) <|
  if c_2 < m 6 trip_.toNat then
    grd (InR (8 * trip_) ∧ InR (8 * trip_ + c_2) ∧ 0 ≤ 8 * trip_ + c_2 ∧ 8 * trip_ + c_2 < 192 ∧ InR (m 8 (8 * trip_ + c_2).toNat + minutes_) ∧ (¬ (M_isIn (m 8 (8 * trip_ + c_2).toNat + minutes_) 0 2879 = 0) → InR (m 9 (8 * trip_ + c_2).toNat + minutes_))) <|
    ltv (jior is_2 (if (M_isIn (m 8 (8 * trip_ + c_2).toNat + minutes_) 0 2879 = 0) ∨ (M_isIn (m 9 (8 * trip_ + c_2).toNat + minutes_) 0 2879 = 0) then 1 else 0) : Int) fun is_3 =>
    grd (InR (c_2 + 1)) <|
    ltv (c_2 + 1) fun c_3 =>
    some (.inl (is_3, c_3))
  else
    some (.inr (is_2, c_2))
noncomputable def M_isShiftWrong (trip_ : Int) (minutes_ : Int) (m : Mem) : Option Int :=
  ltv ((if M_isIn minutes_ (-60) 60 = 0 then 1 else 0) : Int) fun is_ =>
  ltv (0 : Int) fun c_ =>
  bq2 (loop (fun s => M_isShiftWrong_b1 trip_ minutes_ m s.1 s.2) (is_, c_)) fun is_4 c_4 =>
  grd ((is_4 = 0 ∨ is_4 = 1)) <|
  some is_4
def rm_X12_isShiftWrong : Room := { frames := 1, cells := 0, slots := 0, locals := 22 }
noncomputable def M_move_b1 (trip_ : Int) (minutes_ : Int) (c_2 : Int) (m_ : Mem) : Option ((Int × Mem) ⊕ (Int × Mem)) :=
  grd (0 ≤ trip_ ∧ trip_ < 24) <|
  if c_2 < m_ 6 trip_.toNat then
    grd (InR (8 * trip_) ∧ InR (8 * trip_ + c_2) ∧ 0 ≤ 8 * trip_ + c_2 ∧ 8 * trip_ + c_2 < 192 ∧ InR (m_ 8 (8 * trip_ + c_2).toNat + minutes_)) <|
    ltv (setM m_ 8 (8 * trip_ + c_2).toNat (m_ 8 (8 * trip_ + c_2).toNat + minutes_)) fun m_2 =>
    grd (InR (m_2 9 (8 * trip_ + c_2).toNat + minutes_)) <|
    ltv (setM m_2 9 (8 * trip_ + c_2).toNat (m_2 9 (8 * trip_ + c_2).toNat + minutes_)) fun m_3 =>
    grd (InR (c_2 + 1)) <|
    ltv (c_2 + 1) fun c_3 =>
    some (.inl (c_3, m_3))
  else
    some (.inr (c_2, m_))
noncomputable def M_move (trip_ : Int) (minutes_ : Int) (m : Mem) : Option Mem :=
  ltv (0 : Int) fun c_ =>
  bq2 (loop (fun s => M_move_b1 trip_ minutes_ s.1 s.2) (c_, m)) fun c_4 m_4 =>
  some m_4
def rm_X12_move : Room := { frames := 0, cells := 0, slots := 0, locals := 0 }
noncomputable def M_shift (trip_ : Int) (minutes_ : Int) (m : Mem) : Option (Int × Mem) :=
  bq2 (M_isNoTrip trip_ m) fun r_ m_ =>
  if ¬ r_ = 0 then
    some (0, m_)
  else
    ltv (fun (v_ : Int) =>
    bq2 (M_isThrown v_ 2 m_) fun r_3 m_2 =>
    if ¬ r_3 = 0 then
      some (0, m_2)
    else
      (M_move trip_ minutes_ m_2).bind fun m_3 =>
      grd (InR (8 * trip_) ∧ 0 ≤ 8 * trip_ ∧ 8 * trip_ < 192) <|
      some (m_3 9 (8 * trip_).toNat, m_3)) fun kj_ =>
    if M_isIn minutes_ (-60) 60 = 0 then
      kj_ 1
    else
      (M_isShiftWrong trip_ minutes_ m_).bind fun r_2 =>
      if ¬ r_2 = 0 then
        kj_ 1
      else
        kj_ 0
def rm_X12_shift : Room := { frames := 2, cells := 0, slots := 0, locals := 46 }
noncomputable def M_type (sign_ : Int) (m : Mem) : Option (Int × Mem) :=
  bq2 (M_isThrown (if m 0 19 = 80 then 1 else 0) 1 m) fun r_ m_ =>
  if ¬ r_ = 0 then
    some (0, m_)
  else
    grd (0 ≤ m_ 0 19 ∧ m_ 0 19 < 80) <|
    ltv (setM m_ 14 (m_ 0 19).toNat sign_) fun m_2 =>
    grd (InR (m_2 0 19 + 1)) <|
    ltv (setM m_2 0 19 (m_2 0 19 + 1)) fun m_3 =>
    some (m_3 0 19, m_3)
def rm_X12_type : Room := { frames := 1, cells := 0, slots := 0, locals := 22 }
noncomputable def M_typeNumber_b1 (left_2 : Int) (k_2 : Int) (m_3 : Mem) : Option ((Int × Int × Mem) ⊕ (Int × Int × Mem)) :=
  if 0 ≤ k_2 then
    grd (InR (m_3 0 19 + k_2) ∧ 0 ≤ m_3 0 19 + k_2 ∧ m_3 0 19 + k_2 < 80 ∧ InR (48 + left_2.tmod 10)) <|
    ltv (setM m_3 14 (m_3 0 19 + k_2).toNat (48 + left_2.tmod 10)) fun m_4 =>
    ltv (left_2.tdiv 10 : Int) fun left_3 =>
    grd (InR (k_2 - 1)) <|
    ltv (k_2 - 1) fun k_3 =>
    some (.inl (left_3, k_3, m_4))
  else
    some (.inr (left_2, k_2, m_3))
noncomputable def M_typeNumber (number_ : Int) (m : Mem) : Option (Int × Mem) :=
  ltv ((if 999 < number_ then 4 else (if 99 < number_ then 3 else (if 9 < number_ then 2 else 1))) : Int) fun many_ =>
  bq2 (M_isThrown (if M_isIn number_ 0 9999 = 0 then 1 else 0) 1 m) fun r_ m_ =>
  if ¬ r_ = 0 then
    some (0, m_)
  else
    grd (InR (m_ 0 19 + many_)) <|
    bq2 (M_isThrown (if 80 < m_ 0 19 + many_ then 1 else 0) 2 m_) fun r_2 m_2 =>
    if ¬ r_2 = 0 then
      some (0, m_2)
    else
      ltv (number_ : Int) fun left_ =>
      grd (InR (many_ - 1)) <|
      ltv (many_ - 1 : Int) fun k_ =>
      bq3 (loop (fun s => M_typeNumber_b1 s.1 s.2.1 s.2.2) (left_, k_, m_2)) fun left_4 k_4 m_5 =>
      grd (InR (m_5 0 19 + many_)) <|
      ltv (setM m_5 0 19 (m_5 0 19 + many_)) fun m_6 =>
      some (m_6 0 19, m_6)
def rm_X12_typeNumber : Room := { frames := 1, cells := 0, slots := 0, locals := 22 }
noncomputable def M_erase  (m : Mem) : Option (Int × Mem) :=
  ltv (setM m 0 0 0) fun m_ =>
  ltv (m_ 0 19 : Int) fun had_ =>
  ltv (setM m_ 0 19 0) fun m_2 =>
  some (had_, m_2)
def rm_X12_erase : Room := { frames := 0, cells := 0, slots := 0, locals := 0 }
noncomputable def M_told (state_ : Int) (number_ : Int) (m : Mem) : Option Mem :=
  if 26 < m 0 45 then
    some m
  else
    if state_ = 4 then
      grd (InR (m 0 45 - 1) ∧ 0 ≤ m 0 45 - 1 ∧ m 0 45 - 1 < 32) <|
      ltv (setM m 31 (m 0 45 - 1).toNat number_) fun m_5 =>
      some m_5
    else
      grd (0 ≤ m 0 45 ∧ m 0 45 < 32) <|
      ltv (setM m 31 (m 0 45).toNat number_) fun m_ =>
      grd (InR (m_ 0 45 + 1)) <|
      ltv (setM m_ 0 45 (m_ 0 45 + 1)) fun m_2 =>
      if (state_ = 2) ∨ (state_ = 3) then
        grd (0 ≤ m_2 0 45 ∧ m_2 0 45 < 32) <|
        ltv (setM m_2 31 (m_2 0 45).toNat number_) fun m_3 =>
        grd (InR (m_3 0 45 + 1)) <|
        ltv (setM m_3 0 45 (m_3 0 45 + 1)) fun m_4 =>
        some m_4
      else
        some m_2
def rm_X12_told : Room := { frames := 0, cells := 0, slots := 0, locals := 0 }
noncomputable def M_read_b1 (state_2 : Int) (digits_2 : Int) (number_2 : Int) (k_2 : Int) (m_2 : Mem) : Option ((Int × Int × Int × Int × Mem) ⊕ ((Int × Int × Int × Int × Mem) ⊕ (Int × Mem))) :=
  if k_2 < m_2 0 19 then
    grd (0 ≤ k_2 ∧ k_2 < 80) <|
    ltv (m_2 14 k_2.toNat : Int) fun sign_ =>
    if (¬ M_isIn sign_ 48 57 = 0) ∧ (digits_2 < 4) then
      grd (InR (10 * number_2) ∧ InR (10 * number_2 + sign_) ∧ InR (10 * number_2 + sign_ - 48)) <|
      ltv (10 * number_2 + sign_ - 48 : Int) fun number_4 =>
      grd (InR (digits_2 + 1)) <|
      ltv (digits_2 + 1) fun digits_4 =>
      grd (InR (k_2 + 1)) <|
      ltv (k_2 + 1) fun k_4 =>
      some (.inl (state_2, digits_4, number_4, k_4, m_2))
    else
      ltv ((if (0 < digits_2) ∧ (((((sign_ = 58) ∧ (state_2 = 0)) ∨ ((sign_ = 64) ∧ (state_2 = 1))) ∨ ((sign_ = 44) ∧ (2 ≤ state_2))) ∨ ((sign_ = 45) ∧ (state_2 = 3))) then 1 else 0) : Int) fun goes_ =>
      if goes_ = 0 then
        some (.inr (.inr (k_2, m_2)))
      else
        (M_told state_2 number_2 m_2).bind fun m_3 =>
        ltv ((if sign_ = 58 then 1 else (if sign_ = 64 then (if m_3 0 45 = 2 then 2 else 3) else (if sign_ = 44 then 1 else 4))) : Int) fun state_3 =>
        ltv (0 : Int) fun number_3 =>
        ltv (0 : Int) fun digits_3 =>
        grd (InR (k_2 + 1)) <|
        ltv (k_2 + 1) fun k_3 =>
        some (.inl (state_3, digits_3, number_3, k_3, m_3))
  else
    some (.inr (.inl (state_2, digits_2, number_2, k_2, m_2)))
noncomputable def M_read  (m : Mem) : Option (Int × Mem) :=
  ltv (0 : Int) fun state_ =>
  ltv (0 : Int) fun digits_ =>
  ltv (0 : Int) fun number_ =>
  ltv (setM m 0 45 0) fun m_ =>
  ltv (0 : Int) fun k_ =>
  br5 (fun q9 => some q9) (loop (fun s => M_read_b1 s.1 s.2.1 s.2.2.1 s.2.2.2.1 s.2.2.2.2) (state_, digits_, number_, k_, m_)) fun state_4 digits_5 number_5 k_5 m_4 =>
  if (digits_5 = 0) ∨ (state_4 < 2) then
    some (m_4 0 19, m_4)
  else
    (M_told state_4 number_5 m_4).bind fun m_5 =>
    some ((-1), m_5)
def rm_X12_read : Room := { frames := 1, cells := 0, slots := 0, locals := 22 }
noncomputable def M_isRowWrong_b1 (m : Mem) (many_ : Int) (is_2 : Int) (c_2 : Int) : Option ((Int × Int) ⊕ (Int × Int)) :=
  if (c_2 < many_) ∧ (c_2 < 8) then
    grd (InR (3 * c_2) ∧ InR (1 + 3 * c_2)) <|
    ltv (1 + 3 * c_2 : Int) fun at_ =>
    grd (0 ≤ at_ ∧ at_ < 32 ∧ (¬ (m 0 1 ≤ m 31 at_.toNat) → InR (at_ + 1)) ∧ (¬ (m 0 1 ≤ m 31 at_.toNat) → 0 ≤ at_ + 1) ∧ (¬ (m 0 1 ≤ m 31 at_.toNat) → at_ + 1 < 32) ∧ (¬ ((m 0 1 ≤ m 31 at_.toNat) ∨ (2879 < m 31 (at_ + 1).toNat)) → InR (at_ + 2)) ∧ (¬ ((m 0 1 ≤ m 31 at_.toNat) ∨ (2879 < m 31 (at_ + 1).toNat)) → 0 ≤ at_ + 2) ∧ (¬ ((m 0 1 ≤ m 31 at_.toNat) ∨ (2879 < m 31 (at_ + 1).toNat)) → at_ + 2 < 32) ∧ (¬ (((m 0 1 ≤ m 31 at_.toNat) ∨ (2879 < m 31 (at_ + 1).toNat)) ∨ (2879 < m 31 (at_ + 2).toNat)) → InR (at_ + 2)) ∧ (¬ (((m 0 1 ≤ m 31 at_.toNat) ∨ (2879 < m 31 (at_ + 1).toNat)) ∨ (2879 < m 31 (at_ + 2).toNat)) → 0 ≤ at_ + 2) ∧ (¬ (((m 0 1 ≤ m 31 at_.toNat) ∨ (2879 < m 31 (at_ + 1).toNat)) ∨ (2879 < m 31 (at_ + 2).toNat)) → at_ + 2 < 32) ∧ (¬ (((m 0 1 ≤ m 31 at_.toNat) ∨ (2879 < m 31 (at_ + 1).toNat)) ∨ (2879 < m 31 (at_ + 2).toNat)) → InR (at_ + 1)) ∧ (¬ (((m 0 1 ≤ m 31 at_.toNat) ∨ (2879 < m 31 (at_ + 1).toNat)) ∨ (2879 < m 31 (at_ + 2).toNat)) → 0 ≤ at_ + 1) ∧ (¬ (((m 0 1 ≤ m 31 at_.toNat) ∨ (2879 < m 31 (at_ + 1).toNat)) ∨ (2879 < m 31 (at_ + 2).toNat)) → at_ + 1 < 32)) <|
    ltv (jior is_2 (if (((m 0 1 ≤ m 31 at_.toNat) ∨ (2879 < m 31 (at_ + 1).toNat)) ∨ (2879 < m 31 (at_ + 2).toNat)) ∨ (m 31 (at_ + 2).toNat < m 31 (at_ + 1).toNat) then 1 else 0) : Int) fun is_3 =>
    grd (((0 < c_2) → InR (at_ + 1)) ∧ ((0 < c_2) → 0 ≤ at_ + 1) ∧ ((0 < c_2) → at_ + 1 < 32) ∧ ((0 < c_2) → InR (at_ - 1)) ∧ ((0 < c_2) → 0 ≤ at_ - 1) ∧ ((0 < c_2) → at_ - 1 < 32) ∧ ((0 < c_2) → ¬ (m 31 (at_ + 1).toNat ≤ m 31 (at_ - 1).toNat) → 0 ≤ at_) ∧ ((0 < c_2) → ¬ (m 31 (at_ + 1).toNat ≤ m 31 (at_ - 1).toNat) → at_ < 32) ∧ ((0 < c_2) → ¬ (m 31 (at_ + 1).toNat ≤ m 31 (at_ - 1).toNat) → InR (at_ - 3)) ∧ ((0 < c_2) → ¬ (m 31 (at_ + 1).toNat ≤ m 31 (at_ - 1).toNat) → 0 ≤ at_ - 3) ∧ ((0 < c_2) → ¬ (m 31 (at_ + 1).toNat ≤ m 31 (at_ - 1).toNat) → at_ - 3 < 32)) <|
    ltv (jior is_3 (if (0 < c_2) ∧ ((m 31 (at_ + 1).toNat ≤ m 31 (at_ - 1).toNat) ∨ (m 31 at_.toNat = m 31 (at_ - 3).toNat)) then 1 else 0) : Int) fun is_4 =>
    grd (InR (c_2 + 1)) <|
    ltv (c_2 + 1) fun c_3 =>
    some (.inl (is_4, c_3))
  else
    some (.inr (is_2, c_2))
noncomputable def M_isRowWrong  (m : Mem) : Option Int :=
  grd (InR (m 0 45 - 1)) <|
  ltv ((m 0 45 - 1).tdiv 3 : Int) fun many_ =>
  ltv ((if (m 0 6 ≤ m 31 0) ∨ (8 < many_) then 1 else 0) : Int) fun is_ =>
  ltv (0 : Int) fun c_ =>
  bq2 (loop (fun s => M_isRowWrong_b1 m many_ s.1 s.2) (is_, c_)) fun is_5 c_4 =>
  grd ((is_5 = 0 ∨ is_5 = 1)) <|
  some is_5
def rm_X12_isRowWrong : Room := { frames := 0, cells := 0, slots := 0, locals := 0 }
noncomputable def M_readRow_b1 (trip_ : Int) (at_2 : Int) (m_8 : Mem) : Option ((Int × Mem) ⊕ (Int × Mem)) :=
  if at_2 < m_8 0 45 then
    grd (InR (8 * trip_) ∧ 0 ≤ trip_ ∧ trip_ < 24 ∧ InR (8 * trip_ + m_8 6 trip_.toNat)) <|
    ltv (8 * trip_ + m_8 6 trip_.toNat : Int) fun call_ =>
    grd (0 ≤ call_ ∧ call_ < 192 ∧ 0 ≤ at_2 ∧ at_2 < 32) <|
    ltv (setM m_8 7 call_.toNat (m_8 31 at_2.toNat)) fun m_9 =>
    grd (InR (at_2 + 1) ∧ 0 ≤ at_2 + 1 ∧ at_2 + 1 < 32) <|
    ltv (setM m_9 8 call_.toNat (m_9 31 (at_2 + 1).toNat)) fun m_10 =>
    grd (InR (at_2 + 2) ∧ 0 ≤ at_2 + 2 ∧ at_2 + 2 < 32) <|
    ltv (setM m_10 9 call_.toNat (m_10 31 (at_2 + 2).toNat)) fun m_11 =>
    grd (InR (m_11 6 trip_.toNat + 1)) <|
    ltv (setM m_11 6 trip_.toNat (m_11 6 trip_.toNat + 1)) fun m_12 =>
    grd (InR (at_2 + 3)) <|
    ltv (at_2 + 3) fun at_3 =>
    some (.inl (at_3, m_12))
  else
    some (.inr (at_2, m_8))
noncomputable def M_readRow  (m : Mem) : Option (Int × Mem) :=
  bq2 (M_read m) fun r_ m_ =>
  ltv (r_ : Int) fun place_ =>
  ltv (fun (m_2 : Mem) =>
  bq2 (M_isThrown (if ¬ place_ = (-1) then 1 else 0) 1 m_2) fun r_2 m_4 =>
  if ¬ r_2 = 0 then
    some (0, m_4)
  else
    (M_isRowWrong m_4).bind fun r_3 =>
    bq2 (M_isThrown r_3 2 m_4) fun r_4 m_5 =>
    if ¬ r_4 = 0 then
      some (0, m_5)
    else
      bq2 (M_isThrown (if m_5 0 8 = 24 then 1 else 0) 3 m_5) fun r_5 m_6 =>
      if ¬ r_5 = 0 then
        some (0, m_6)
      else
        bq2 (M_added (m_6 31 0) (m_6 31 1) (m_6 31 2) m_6) fun r_6 m_7 =>
        ltv (r_6 : Int) fun trip_ =>
        ltv (4 : Int) fun at_ =>
        bq2 (loop (fun s => M_readRow_b1 trip_ s.1 s.2) (at_, m_7)) fun at_4 m_13 =>
        ltv (setM m_13 0 19 0) fun m_14 =>
        some (trip_, m_14)) fun kj_ =>
  if ¬ place_ = (-1) then
    ltv (setM m_ 0 21 place_) fun m_3 =>
    kj_ m_3
  else
    kj_ m_
def rm_X12_readRow : Room := { frames := 2, cells := 0, slots := 0, locals := 48 }
noncomputable def M_faultAt  (m : Mem) : Option (Int × Mem) :=
  bq2 (M_isThrown (if m 0 21 = (-1) then 1 else 0) 1 m) fun r_ m_ =>
  if ¬ r_ = 0 then
    some (0, m_)
  else
    some (m_ 0 21, m_)
def rm_X12_faultAt : Room := { frames := 1, cells := 0, slots := 0, locals := 22 }
noncomputable def M_lateAt_b1 (day_ : Int) (trip_ : Int) (m : Mem) (at_2 : Int) (k_2 : Int) : Option ((Int × Int) ⊕ (Int × Int)) :=
  if k_2 < m 0 14 then
    grd (0 ≤ k_2 ∧ k_2 < 12) <|
    ltv ((if (m 10 k_2.toNat = day_) ∧ (m 11 k_2.toNat = trip_) then k_2 else at_2) : Int) fun at_3 =>
    grd (InR (k_2 + 1)) <|
    ltv (k_2 + 1) fun k_3 =>
    some (.inl (at_3, k_3))
  else
    some (.inr (at_2, k_2))
noncomputable def M_lateAt (day_ : Int) (trip_ : Int) (m : Mem) : Option Int :=
  ltv ((-1) : Int) fun at_ =>
  ltv (0 : Int) fun k_ =>
  bq2 (loop (fun s => M_lateAt_b1 day_ trip_ m s.1 s.2) (at_, k_)) fun at_4 k_4 =>
  some at_4
def rm_X12_lateAt : Room := { frames := 0, cells := 0, slots := 0, locals := 0 }
noncomputable def M_late (day_ : Int) (trip_ : Int) (call_ : Int) (minutes_ : Int) (m : Mem) : Option (Int × Mem) :=
  bq2 (M_isNoCall trip_ call_ m) fun r_ m_ =>
  if ¬ r_ = 0 then
    some (0, m_)
  else
    bq2 (M_isThrown (if (M_isIn day_ 0 27 = 0) ∨ (M_isIn minutes_ 0 120 = 0) then 1 else 0) 2 m_) fun r_2 m_2 =>
    if ¬ r_2 = 0 then
      some (0, m_2)
    else
      (M_lateAt day_ trip_ m_2).bind fun r_3 =>
      ltv (r_3 : Int) fun at_ =>
      bq2 (M_isThrown (if ((at_ = (-1)) ∧ (m_2 0 14 = 12)) ∧ (¬ minutes_ = 0) then 1 else 0) 3 m_2) fun r_4 m_3 =>
      if ¬ r_4 = 0 then
        some (0, m_3)
      else
        grd ((¬ (at_ = (-1)) → 0 ≤ at_) ∧ (¬ (at_ = (-1)) → at_ < 12)) <|
        ltv ((if at_ = (-1) then 0 else m_3 13 at_.toNat) : Int) fun had_ =>
        if minutes_ = 0 then
          ltv (fun (m_10 : Mem) =>
          some (had_, m_10)) fun kj_2 =>
          if ¬ at_ = (-1) then
            grd (InR (m_3 0 14 - 1)) <|
            ltv (setM m_3 0 14 (m_3 0 14 - 1)) fun m_11 =>
            grd (0 ≤ at_ ∧ at_ < 12 ∧ 0 ≤ m_11 0 14 ∧ m_11 0 14 < 12) <|
            ltv (setM m_11 10 at_.toNat (m_11 10 (m_11 0 14).toNat)) fun m_12 =>
            grd (0 ≤ m_12 0 14 ∧ m_12 0 14 < 12) <|
            ltv (setM m_12 11 at_.toNat (m_12 11 (m_12 0 14).toNat)) fun m_13 =>
            grd (0 ≤ m_13 0 14 ∧ m_13 0 14 < 12) <|
            ltv (setM m_13 12 at_.toNat (m_13 12 (m_13 0 14).toNat)) fun m_14 =>
            grd (0 ≤ m_14 0 14 ∧ m_14 0 14 < 12) <|
            ltv (setM m_14 13 at_.toNat (m_14 13 (m_14 0 14).toNat)) fun m_15 =>
            kj_2 m_15
          else
            kj_2 m_3
        else
          ltv (fun (at_2 : Int) (m_4 : Mem) =>
          grd (0 ≤ at_2 ∧ at_2 < 12) <|
          ltv (setM m_4 10 at_2.toNat day_) fun m_6 =>
          ltv (setM m_6 11 at_2.toNat trip_) fun m_7 =>
          ltv (setM m_7 12 at_2.toNat call_) fun m_8 =>
          ltv (setM m_8 13 at_2.toNat minutes_) fun m_9 =>
          some (had_, m_9)) fun kj_ =>
          if at_ = (-1) then
            ltv (m_3 0 14 : Int) fun at_3 =>
            grd (InR (m_3 0 14 + 1)) <|
            ltv (setM m_3 0 14 (m_3 0 14 + 1)) fun m_5 =>
            kj_ at_3 m_5
          else
            kj_ at_ m_3
def rm_X12_late : Room := { frames := 3, cells := 0, slots := 0, locals := 65 }
noncomputable def M_lateOf (day_ : Int) (trip_ : Int) (call_ : Int) (m : Mem) : Option Int :=
  (M_lateAt day_ trip_ m).bind fun r_ =>
  ltv (r_ : Int) fun at_ =>
  grd ((¬ (at_ = (-1)) → 0 ≤ at_) ∧ (¬ (at_ = (-1)) → at_ < 12) ∧ (¬ ((at_ = (-1)) ∨ (call_ < m 12 at_.toNat)) → 0 ≤ at_) ∧ (¬ ((at_ = (-1)) ∨ (call_ < m 12 at_.toNat)) → at_ < 12)) <|
  some (if (at_ = (-1)) ∨ (call_ < m 12 at_.toNat) then 0 else m 13 at_.toNat)
def rm_X12_lateOf : Room := { frames := 1, cells := 0, slots := 0, locals := 24 }
noncomputable def M_lateness (day_ : Int) (trip_ : Int) (call_ : Int) (m : Mem) : Option (Int × Mem) :=
  bq2 (M_isNoCall trip_ call_ m) fun r_ m_ =>
  if ¬ r_ = 0 then
    some (0, m_)
  else
    bq2 (M_isNoDay day_ 2 m_) fun r_2 m_2 =>
    if ¬ r_2 = 0 then
      some (0, m_2)
    else
      (M_lateOf day_ trip_ call_ m_2).bind fun r_3 =>
      some (r_3, m_2)
def rm_X12_lateness : Room := { frames := 3, cells := 0, slots := 0, locals := 65 }
noncomputable def M_onTime  (m : Mem) : Option (Int × Mem) :=
  ltv (setM m 0 0 0) fun m_ =>
  ltv (m_ 0 14 : Int) fun had_ =>
  ltv (setM m_ 0 14 0) fun m_2 =>
  some (had_, m_2)
def rm_X12_onTime : Room := { frames := 0, cells := 0, slots := 0, locals := 0 }
noncomputable def M_isRun (run_ : Int) (m : Mem) : Option Int :=
  grd (InR (m 0 22 + run_.tdiv 24) ∧ InR (m 0 22 + run_.tdiv 24 - 1)) <|
  ltv (m 0 22 + run_.tdiv 24 - 1 : Int) fun day_ =>
  ltv (run_.tmod 24 : Int) fun trip_ =>
  grd ((((trip_ < m 0 8) ∧ (¬ M_isIn day_ 0 27 = 0)) → 0 ≤ trip_) ∧ (((trip_ < m 0 8) ∧ (¬ M_isIn day_ 0 27 = 0)) → trip_ < 24) ∧ (((trip_ < m 0 8) ∧ (¬ M_isIn day_ 0 27 = 0)) → InR (28 * (m 5 trip_.toNat))) ∧ (((trip_ < m 0 8) ∧ (¬ M_isIn day_ 0 27 = 0)) → InR (28 * (m 5 trip_.toNat) + day_)) ∧ (((trip_ < m 0 8) ∧ (¬ M_isIn day_ 0 27 = 0)) → 0 ≤ 28 * (m 5 trip_.toNat) + day_) ∧ (((trip_ < m 0 8) ∧ (¬ M_isIn day_ 0 27 = 0)) → 28 * (m 5 trip_.toNat) + day_ < 168)) <|
  some (if ((trip_ < m 0 8) ∧ (¬ M_isIn day_ 0 27 = 0)) ∧ (¬ m 4 (28 * (m 5 trip_.toNat) + day_).toNat = 0) then 1 else 0)
def rm_X12_isRun : Room := { frames := 1, cells := 0, slots := 0, locals := 22 }
noncomputable def M_leavesAt (run_ : Int) (call_ : Int) (m : Mem) : Option Int :=
  ltv (run_.tmod 24 : Int) fun trip_ =>
  grd (InR (run_.tdiv 24 - 1)) <|
  ltv (run_.tdiv 24 - 1 : Int) fun behind_ =>
  grd (InR (8 * trip_) ∧ InR (8 * trip_ + call_) ∧ 0 ≤ 8 * trip_ + call_ ∧ 8 * trip_ + call_ < 192 ∧ InR (1440 * behind_) ∧ InR (m 9 (8 * trip_ + call_).toNat + 1440 * behind_) ∧ InR (m 0 22 + behind_)) <|
  (M_lateOf (m 0 22 + behind_) trip_ call_ m).bind fun r_ =>
  grd (InR (m 9 (8 * trip_ + call_).toNat + 1440 * behind_ + r_)) <|
  some (m 9 (8 * trip_ + call_).toNat + 1440 * behind_ + r_)
def rm_X12_leavesAt : Room := { frames := 2, cells := 0, slots := 0, locals := 48 }
noncomputable def M_comesAt (run_ : Int) (call_ : Int) (m : Mem) : Option Int :=
  ltv (run_.tmod 24 : Int) fun trip_ =>
  grd (InR (run_.tdiv 24 - 1)) <|
  ltv (run_.tdiv 24 - 1 : Int) fun behind_ =>
  grd (InR (8 * trip_) ∧ InR (8 * trip_ + call_) ∧ 0 ≤ 8 * trip_ + call_ ∧ 8 * trip_ + call_ < 192 ∧ InR (1440 * behind_) ∧ InR (m 8 (8 * trip_ + call_).toNat + 1440 * behind_)) <|
  ltv (fun (v_ : Int) =>
  grd (InR (m 8 (8 * trip_ + call_).toNat + 1440 * behind_ + v_)) <|
  some (m 8 (8 * trip_ + call_).toNat + 1440 * behind_ + v_)) fun kj_ =>
  if call_ = 0 then
    kj_ 0
  else
    grd (InR (m 0 22 + behind_) ∧ InR (call_ - 1)) <|
    (M_lateOf (m 0 22 + behind_) trip_ (call_ - 1) m).bind fun r_ =>
    kj_ r_
def rm_X12_comesAt : Room := { frames := 2, cells := 0, slots := 0, locals := 48 }
noncomputable def M_stopIn (run_ : Int) (call_ : Int) (m : Mem) : Option Int :=
  grd (InR (8 * (run_.tmod 24)) ∧ InR (8 * (run_.tmod 24) + call_) ∧ 0 ≤ 8 * (run_.tmod 24) + call_ ∧ 8 * (run_.tmod 24) + call_ < 192) <|
  some (m 7 (8 * (run_.tmod 24) + call_).toNat)
def rm_X12_stopIn : Room := { frames := 0, cells := 0, slots := 0, locals := 0 }
noncomputable def M_nowhere_b1 (v_2 : Int) (m_ : Mem) : Option ((Int × Mem) ⊕ (Int × Mem)) :=
  if v_2 < 12 then
    grd (0 ≤ v_2 ∧ v_2 < 12) <|
    ltv (setM m_ 15 v_2.toNat 1000000) fun m_2 =>
    ltv (setM m_2 16 v_2.toNat 1000000) fun m_3 =>
    grd (InR (v_2 + 1)) <|
    ltv (v_2 + 1) fun v_3 =>
    some (.inl (v_3, m_3))
  else
    some (.inr (v_2, m_))
noncomputable def M_nowhere  (m : Mem) : Option Mem :=
  ltv (0 : Int) fun v_ =>
  bq2 (loop (fun s => M_nowhere_b1 s.1 s.2) (v_, m)) fun v_4 m_4 =>
  some m_4
def rm_X12_nowhere : Room := { frames := 0, cells := 0, slots := 0, locals := 0 }
noncomputable def M_begin_b1 (from_ : Int) (minute_ : Int) (v_2 : Int) (m_2 : Mem) : Option ((Int × Mem) ⊕ (Int × Mem)) :=
  if v_2 < m_2 0 1 then
    grd (InR (12 * from_) ∧ InR (12 * from_ + v_2) ∧ 0 ≤ 12 * from_ + v_2 ∧ 12 * from_ + v_2 < 144 ∧ InR (minute_ + (m_2 3 (12 * from_ + v_2).toNat))) <|
    ltv (minute_ + (m_2 3 (12 * from_ + v_2).toNat) : Int) fun time_ =>
    grd (0 ≤ v_2 ∧ v_2 < 12) <|
    ltv (setM m_2 15 v_2.toNat (if time_ < 1000000 then time_ else 1000000)) fun m_3 =>
    grd (InR (v_2 + 1)) <|
    ltv (v_2 + 1) fun v_3 =>
    some (.inl (v_3, m_3))
  else
    some (.inr (v_2, m_2))
noncomputable def M_begin (from_ : Int) (minute_ : Int) (m : Mem) : Option Mem :=
  (M_nowhere m).bind fun m_ =>
  ltv (0 : Int) fun v_ =>
  bq2 (loop (fun s => M_begin_b1 from_ minute_ s.1 s.2) (v_, m_)) fun v_4 m_4 =>
  some m_4
def rm_X12_begin : Room := { frames := 1, cells := 0, slots := 0, locals := 21 }
noncomputable def M_getsOn (stop_ : Int) (time_ : Int) (m : Mem) : Option Int :=
  grd ((((0 ≤ time_) ∧ (¬ stop_ = m 0 5)) → 0 ≤ stop_) ∧ (((0 ≤ time_) ∧ (¬ stop_ = m 0 5)) → stop_ < 12) ∧ (((0 ≤ time_) ∧ (¬ stop_ = m 0 5)) → ¬ (m 15 stop_.toNat ≤ time_) → 0 ≤ stop_) ∧ (((0 ≤ time_) ∧ (¬ stop_ = m 0 5)) → ¬ (m 15 stop_.toNat ≤ time_) → stop_ < 12) ∧ (((0 ≤ time_) ∧ (¬ stop_ = m 0 5)) → ¬ (m 15 stop_.toNat ≤ time_) → InR (m 16 stop_.toNat + m 1 stop_.toNat))) <|
  some (if ((0 ≤ time_) ∧ (¬ stop_ = m 0 5)) ∧ ((m 15 stop_.toNat ≤ time_) ∨ (m 16 stop_.toNat + m 1 stop_.toNat ≤ time_)) then 1 else 0)
def rm_X12_getsOn : Room := { frames := 0, cells := 0, slots := 0, locals := 0 }
noncomputable def M_getsOff_b1 (stop_ : Int) (time_ : Int) (v_2 : Int) (m_3 : Mem) : Option ((Int × Mem) ⊕ (Int × Mem)) :=
  if v_2 < m_3 0 1 then
    grd (InR (12 * stop_) ∧ InR (12 * stop_ + v_2) ∧ 0 ≤ 12 * stop_ + v_2 ∧ 12 * stop_ + v_2 < 144 ∧ InR (time_ + (m_3 3 (12 * stop_ + v_2).toNat))) <|
    ltv (time_ + (m_3 3 (12 * stop_ + v_2).toNat) : Int) fun walked_ =>
    grd (((¬ v_2 = stop_) → 0 ≤ v_2) ∧ ((¬ v_2 = stop_) → v_2 < 12)) <|
    if (¬ v_2 = stop_) ∧ (walked_ < m_3 15 v_2.toNat) then
      grd (0 ≤ v_2 ∧ v_2 < 12) <|
      ltv (setM m_3 15 v_2.toNat walked_) fun m_4 =>
      grd (InR (v_2 + 1)) <|
      ltv (v_2 + 1) fun v_4 =>
      some (.inl (v_4, m_4))
    else
      grd (InR (v_2 + 1)) <|
      ltv (v_2 + 1) fun v_3 =>
      some (.inl (v_3, m_3))
  else
    some (.inr (v_2, m_3))
noncomputable def M_getsOff (stop_ : Int) (time_ : Int) (m : Mem) : Option Mem :=
  grd ((¬ (stop_ = m 0 5) → 0 ≤ stop_) ∧ (¬ (stop_ = m 0 5) → stop_ < 12)) <|
  if (stop_ = m 0 5) ∨ (m 16 stop_.toNat ≤ time_) then
    some m
  else
    grd (0 ≤ stop_ ∧ stop_ < 12) <|
    ltv (setM m 16 stop_.toNat time_) fun m_ =>
    ltv (setM m_ 0 25 1) fun m_2 =>
    ltv (0 : Int) fun v_ =>
    bq2 (loop (fun s => M_getsOff_b1 stop_ time_ s.1 s.2) (v_, m_2)) fun v_5 m_5 =>
    some m_5
def rm_X12_getsOff : Room := { frames := 0, cells := 0, slots := 0, locals := 0 }
noncomputable def M_rideOn_b1 (run_ : Int) (isOn_2 : Int) (c_2 : Int) (m_ : Mem) : Option ((Int × Int × Mem) ⊕ (Int × Int × Mem)) :=
  grd (0 ≤ run_.tmod 24 ∧ run_.tmod 24 < 24) <|
  if c_2 < m_ 6 (run_.tmod 24).toNat then
    ltv (fun (m_2 : Mem) =>
    ltv (fun (v_ : Int) =>
    ltv (v_ : Int) fun isOn_3 =>
    grd (InR (c_2 + 1)) <|
    ltv (c_2 + 1) fun c_3 =>
    some (.inl (isOn_3, c_3, m_2))) fun kj_2 =>
    if ¬ isOn_2 = 0 then
      kj_2 1
    else
      (M_stopIn run_ c_2 m_2).bind fun r_3 =>
      (M_leavesAt run_ c_2 m_2).bind fun r_4 =>
      (M_getsOn r_3 r_4 m_2).bind fun r_5 =>
      if ¬ r_5 = 0 then
        kj_2 1
      else
        kj_2 0) fun kj_ =>
    if ¬ isOn_2 = 0 then
      (M_stopIn run_ c_2 m_).bind fun r_ =>
      (M_comesAt run_ c_2 m_).bind fun r_2 =>
      (M_getsOff r_ r_2 m_).bind fun m_3 =>
      kj_ m_3
    else
      kj_ m_
  else
    some (.inr (isOn_2, c_2, m_))
noncomputable def M_rideOn (run_ : Int) (m : Mem) : Option Mem :=
  ltv (0 : Int) fun isOn_ =>
  ltv (0 : Int) fun c_ =>
  bq3 (loop (fun s => M_rideOn_b1 run_ s.1 s.2.1 s.2.2) (isOn_, c_, m)) fun isOn_4 c_4 m_4 =>
  some m_4
def rm_X12_rideOn : Room := { frames := 3, cells := 0, slots := 0, locals := 72 }
noncomputable def M_settle_b2 (run_2 : Int) (m_4 : Mem) : Option ((Int × Mem) ⊕ (Int × Mem)) :=
  if run_2 < 72 then
    (M_isRun run_2 m_4).bind fun r_ =>
    if ¬ r_ = 0 then
      (M_rideOn run_2 m_4).bind fun m_5 =>
      grd (InR (run_2 + 1)) <|
      ltv (run_2 + 1) fun run_4 =>
      some (.inl (run_4, m_5))
    else
      grd (InR (run_2 + 1)) <|
      ltv (run_2 + 1) fun run_3 =>
      some (.inl (run_3, m_4))
  else
    some (.inr (run_2, m_4))
noncomputable def M_settle_b1 (m_2 : Mem) : Option ((Mem) ⊕ (Mem)) :=
  if ¬ m_2 0 25 = 0 then
    ltv (setM m_2 0 25 0) fun m_3 =>
    ltv (0 : Int) fun run_ =>
    bq2 (loop (fun s => M_settle_b2 s.1 s.2) (run_, m_3)) fun run_5 m_6 =>
    some (.inl m_6)
  else
    some (.inr m_2)
noncomputable def M_settle  (m : Mem) : Option Mem :=
  ltv (setM m 0 25 1) fun m_ =>
  bq1 (loop (fun s => M_settle_b1 s) m_) fun m_7 =>
  some m_7
def rm_X12_settle : Room := { frames := 4, cells := 0, slots := 0, locals := 95 }
noncomputable def M_at (stop_ : Int) (m : Mem) : Option Int :=
  grd (0 ≤ stop_ ∧ stop_ < 12) <|
  some (if m 15 stop_.toNat < m 16 stop_.toNat then m 15 stop_.toNat else m 16 stop_.toNat)
def rm_X12_at : Room := { frames := 0, cells := 0, slots := 0, locals := 0 }
noncomputable def M_byRide_b1 (stop_ : Int) (m : Mem) (least_2 : Int) (v_2 : Int) : Option ((Int × Int) ⊕ (Int × Int)) :=
  if v_2 < m 0 1 then
    grd (0 ≤ v_2 ∧ v_2 < 12 ∧ InR (12 * v_2) ∧ InR (12 * v_2 + stop_) ∧ 0 ≤ 12 * v_2 + stop_ ∧ 12 * v_2 + stop_ < 144 ∧ InR (m 16 v_2.toNat + (m 3 (12 * v_2 + stop_).toNat))) <|
    ltv (m 16 v_2.toNat + (m 3 (12 * v_2 + stop_).toNat) : Int) fun walked_ =>
    ltv ((if walked_ < least_2 then walked_ else least_2) : Int) fun least_3 =>
    grd (InR (v_2 + 1)) <|
    ltv (v_2 + 1) fun v_3 =>
    some (.inl (least_3, v_3))
  else
    some (.inr (least_2, v_2))
noncomputable def M_byRide (stop_ : Int) (m : Mem) : Option Int :=
  grd (0 ≤ stop_ ∧ stop_ < 12) <|
  ltv (m 16 stop_.toNat : Int) fun least_ =>
  ltv (0 : Int) fun v_ =>
  bq2 (loop (fun s => M_byRide_b1 stop_ m s.1 s.2) (least_, v_)) fun least_4 v_4 =>
  some least_4
def rm_X12_byRide : Room := { frames := 0, cells := 0, slots := 0, locals := 0 }
noncomputable def M_earliestOf (from_ : Int) (to_ : Int) (day_ : Int) (minute_ : Int) (m : Mem) : Option (Int × Mem) :=
  ltv (setM m 0 22 day_) fun m_ =>
  (M_begin from_ minute_ m_).bind fun m_2 =>
  (M_settle m_2).bind fun m_3 =>
  (M_at to_ m_3).bind fun r_ =>
  some (r_, m_3)
def rm_X12_earliestOf : Room := { frames := 5, cells := 0, slots := 0, locals := 116 }
noncomputable def M_isAskedWrong (from_ : Int) (to_ : Int) (day_ : Int) (minute_ : Int) (m : Mem) : Option (Int × Mem) :=
  bq2 (M_isNoStop from_ m) fun r_ m_ =>
  if ¬ r_ = 0 then
    some (1, m_)
  else
    bq2 (M_isNoStop to_ m_) fun r_2 m_2 =>
    if ¬ r_2 = 0 then
      some (1, m_2)
    else
      bq2 (M_isThrown (if (M_isIn day_ 0 27 = 0) ∨ (M_isIn minute_ 0 1439 = 0) then 1 else 0) 2 m_2) fun r_3 m_3 =>
      if ¬ r_3 = 0 then
        some (1, m_3)
      else
        some (0, m_3)
def rm_X12_isAskedWrong : Room := { frames := 2, cells := 0, slots := 0, locals := 43 }
noncomputable def M_earliest (from_ : Int) (to_ : Int) (day_ : Int) (minute_ : Int) (m : Mem) : Option (Int × Mem) :=
  bq2 (M_isAskedWrong from_ to_ day_ minute_ m) fun r_ m_ =>
  if ¬ r_ = 0 then
    some (0, m_)
  else
    bq2 (M_earliestOf from_ to_ day_ minute_ m_) fun r_2 m_2 =>
    ltv (r_2 : Int) fun time_ =>
    bq2 (M_isThrown (if 1000000 ≤ time_ then 1 else 0) 3 m_2) fun r_3 m_3 =>
    if ¬ r_3 = 0 then
      some (0, m_3)
    else
      some (time_, m_3)
def rm_X12_earliest : Room := { frames := 6, cells := 0, slots := 0, locals := 140 }
noncomputable def M_earliestByQueue (from_ : Int) (to_ : Int) (day_ : Int) (minute_ : Int) (m : Mem) : Option (Int × Mem) :=
  bq2 (M_earliest from_ to_ day_ minute_ m) fun r_ m_ =>
  some (r_, m_)
def rm_X12_earliestByQueue : Room := { frames := 7, cells := 0, slots := 0, locals := 165 }
noncomputable def M_earliestByRounds (from_ : Int) (to_ : Int) (day_ : Int) (minute_ : Int) (m : Mem) : Option (Int × Mem) :=
  bq2 (M_earliest from_ to_ day_ minute_ m) fun r_ m_ =>
  some (r_, m_)
def rm_X12_earliestByRounds : Room := { frames := 7, cells := 0, slots := 0, locals := 165 }
noncomputable def M_byPairs (from_ : Int) (to_ : Int) (day_ : Int) (minute_ : Int) (m : Mem) : Option (Int × Mem) :=
  bq2 (M_earliest from_ to_ day_ minute_ m) fun r_ m_ =>
  some (r_, m_)
def rm_X12_byPairs : Room := { frames := 7, cells := 0, slots := 0, locals := 165 }
noncomputable def M_wall_b1 (ahead_ : Int) (m_3 : Mem) (set_2 : Int) (v_2 : Int) : Option ((Int × Int) ⊕ (Int × Int)) :=
  if v_2 < m_3 0 1 then
    ltv (fun (v_3 : Int) =>
    ltv (jior set_2 v_3 : Int) fun set_3 =>
    grd (InR (v_2 + 1)) <|
    ltv (v_2 + 1) fun v_4 =>
    some (.inl (set_3, v_4))) fun kj_ =>
    (M_at v_2 m_3).bind fun r_4 =>
    if r_4 < ahead_ then
      kj_ (jishl 1 v_2)
    else
      kj_ 0
  else
    some (.inr (set_2, v_2))
noncomputable def M_wall (from_ : Int) (day_ : Int) (minute_ : Int) (ahead_ : Int) (m : Mem) : Option (Int × Mem) :=
  bq2 (M_isNoStop from_ m) fun r_ m_ =>
  if ¬ r_ = 0 then
    some (0, m_)
  else
    bq2 (M_isThrown (if ((M_isIn day_ 0 27 = 0) ∨ (M_isIn minute_ 0 1439 = 0)) ∨ (M_isIn ahead_ 0 4319 = 0) then 1 else 0) 2 m_) fun r_2 m_2 =>
    if ¬ r_2 = 0 then
      some (0, m_2)
    else
      bq2 (M_earliestOf from_ from_ day_ minute_ m_2) fun r_3 m_3 =>
      ltv (r_3 : Int) fun time_ =>
      ltv (0 : Int) fun set_ =>
      ltv (0 : Int) fun v_ =>
      bq2 (loop (fun s => M_wall_b1 ahead_ m_3 s.1 s.2) (set_, v_)) fun set_4 v_5 =>
      some (set_4, m_3)
def rm_X12_wall : Room := { frames := 6, cells := 0, slots := 0, locals := 140 }
noncomputable def M_last_b1 (from_ : Int) (to_ : Int) (day_ : Int) (minute_ : Int) (low_2 : Int) (high_2 : Int) (m_7 : Mem) : Option ((Int × Int × Mem) ⊕ (Int × Int × Mem)) :=
  if low_2 < high_2 then
    grd (InR (low_2 + high_2) ∧ InR (low_2 + high_2 + 1)) <|
    ltv ((low_2 + high_2 + 1).tdiv 2 : Int) fun middle_ =>
    bq2 (M_earliestOf from_ to_ day_ middle_ m_7) fun r_6 m_8 =>
    if r_6 ≤ minute_ then
      ltv (middle_ : Int) fun low_3 =>
      some (.inl (low_3, high_2, m_8))
    else
      grd (InR (middle_ - 1)) <|
      ltv (middle_ - 1 : Int) fun high_3 =>
      some (.inl (low_2, high_3, m_8))
  else
    some (.inr (low_2, high_2, m_7))
noncomputable def M_last (from_ : Int) (to_ : Int) (day_ : Int) (minute_ : Int) (m : Mem) : Option (Int × Mem) :=
  bq2 (M_isNoStop from_ m) fun r_ m_ =>
  if ¬ r_ = 0 then
    some (0, m_)
  else
    bq2 (M_isNoStop to_ m_) fun r_2 m_2 =>
    if ¬ r_2 = 0 then
      some (0, m_2)
    else
      bq2 (M_isThrown (if (M_isIn day_ 0 27 = 0) ∨ (M_isIn minute_ 0 2879 = 0) then 1 else 0) 2 m_2) fun r_3 m_3 =>
      if ¬ r_3 = 0 then
        some (0, m_3)
      else
        ltv (fun (v_ : Int) (m_4 : Mem) =>
        bq2 (M_isThrown v_ 3 m_4) fun r_5 m_6 =>
        if ¬ r_5 = 0 then
          some (0, m_6)
        else
          ltv (0 : Int) fun low_ =>
          ltv (minute_ : Int) fun high_ =>
          bq3 (loop (fun s => M_last_b1 from_ to_ day_ minute_ s.1 s.2.1 s.2.2) (low_, high_, m_6)) fun low_4 high_4 m_9 =>
          some (low_4, m_9)) fun kj_ =>
        bq2 (M_earliestOf from_ to_ day_ 0 m_3) fun r_4 m_5 =>
        if minute_ < r_4 then
          kj_ 1 m_5
        else
          kj_ 0 m_5
def rm_X12_last : Room := { frames := 6, cells := 0, slots := 0, locals := 140 }
noncomputable def M_onBoard_b1 (trip_ : Int) (c_2 : Int) (m_7 : Mem) : Option ((Int × Mem) ⊕ (Int × Mem)) :=
  grd (0 ≤ trip_ ∧ trip_ < 24) <|
  if c_2 < m_7 6 trip_.toNat then
    grd (InR (24 + trip_)) <|
    (M_stopIn (24 + trip_) c_2 m_7).bind fun r_5 =>
    (M_comesAt (24 + trip_) c_2 m_7).bind fun r_6 =>
    (M_getsOff r_5 r_6 m_7).bind fun m_8 =>
    grd (InR (c_2 + 1)) <|
    ltv (c_2 + 1) fun c_3 =>
    some (.inl (c_3, m_8))
  else
    some (.inr (c_2, m_7))
noncomputable def M_onBoard (day_ : Int) (trip_ : Int) (call_ : Int) (to_ : Int) (m : Mem) : Option (Int × Mem) :=
  bq2 (M_isNoCall trip_ call_ m) fun r_ m_ =>
  if ¬ r_ = 0 then
    some (0, m_)
  else
    bq2 (M_isNoStop to_ m_) fun r_2 m_2 =>
    if ¬ r_2 = 0 then
      some (0, m_2)
    else
      bq2 (M_isNoDay day_ 2 m_2) fun r_3 m_3 =>
      if ¬ r_3 = 0 then
        some (0, m_3)
      else
        grd (0 ≤ trip_ ∧ trip_ < 24 ∧ InR (28 * (m_3 5 trip_.toNat)) ∧ InR (28 * (m_3 5 trip_.toNat) + day_) ∧ 0 ≤ 28 * (m_3 5 trip_.toNat) + day_ ∧ 28 * (m_3 5 trip_.toNat) + day_ < 168 ∧ (¬ (m_3 4 (28 * (m_3 5 trip_.toNat) + day_).toNat = 0) → InR (m_3 6 trip_.toNat - 1))) <|
        bq2 (M_isThrown (if (m_3 4 (28 * (m_3 5 trip_.toNat) + day_).toNat = 0) ∨ (call_ = m_3 6 trip_.toNat - 1) then 1 else 0) 3 m_3) fun r_4 m_4 =>
        if ¬ r_4 = 0 then
          some (0, m_4)
        else
          ltv (setM m_4 0 22 day_) fun m_5 =>
          (M_nowhere m_5).bind fun m_6 =>
          grd (InR (call_ + 1)) <|
          ltv (call_ + 1 : Int) fun c_ =>
          bq2 (loop (fun s => M_onBoard_b1 trip_ s.1 s.2) (c_, m_6)) fun c_4 m_9 =>
          (M_settle m_9).bind fun m_10 =>
          ltv (fun (v_ : Int) =>
          bq2 (M_isThrown v_ 4 m_10) fun r_8 m_11 =>
          if ¬ r_8 = 0 then
            some (0, m_11)
          else
            (M_at to_ m_11).bind fun r_9 =>
            some (r_9, m_11)) fun kj_ =>
          (M_at to_ m_10).bind fun r_7 =>
          if 1000000 ≤ r_7 then
            kj_ 1
          else
            kj_ 0
def rm_X12_onBoard : Room := { frames := 5, cells := 0, slots := 0, locals := 116 }
noncomputable def M_keepRound_b1 (v_2 : Int) (m_ : Mem) : Option ((Int × Mem) ⊕ (Int × Mem)) :=
  if v_2 < 12 then
    grd (InR (12 * (m_ 0 28)) ∧ InR (12 * (m_ 0 28) + v_2) ∧ 0 ≤ 12 * (m_ 0 28) + v_2 ∧ 12 * (m_ 0 28) + v_2 < 888 ∧ 0 ≤ v_2 ∧ v_2 < 12) <|
    ltv (setM m_ 17 (12 * (m_ 0 28) + v_2).toNat (m_ 15 v_2.toNat)) fun m_2 =>
    grd (InR (12 * (m_2 0 28)) ∧ InR (12 * (m_2 0 28) + v_2) ∧ 0 ≤ 12 * (m_2 0 28) + v_2 ∧ 12 * (m_2 0 28) + v_2 < 888) <|
    ltv (setM m_2 18 (12 * (m_2 0 28) + v_2).toNat (m_2 16 v_2.toNat)) fun m_3 =>
    grd (InR (v_2 + 1)) <|
    ltv (v_2 + 1) fun v_3 =>
    some (.inl (v_3, m_3))
  else
    some (.inr (v_2, m_))
noncomputable def M_keepRound  (m : Mem) : Option Mem :=
  ltv (0 : Int) fun v_ =>
  bq2 (loop (fun s => M_keepRound_b1 s.1 s.2) (v_, m)) fun v_4 m_4 =>
  grd (InR (m_4 0 28 + 1)) <|
  ltv (setM m_4 0 28 (m_4 0 28 + 1)) fun m_5 =>
  some m_5
def rm_X12_keepRound : Room := { frames := 0, cells := 0, slots := 0, locals := 0 }
noncomputable def M_getsOnBy (round_ : Int) (stop_ : Int) (time_ : Int) (m : Mem) : Option Int :=
  grd (((0 ≤ time_) → InR (12 * round_)) ∧ ((0 ≤ time_) → InR (12 * round_ + stop_)) ∧ ((0 ≤ time_) → 0 ≤ 12 * round_ + stop_) ∧ ((0 ≤ time_) → 12 * round_ + stop_ < 888) ∧ ((0 ≤ time_) → ¬ (m 17 (12 * round_ + stop_).toNat ≤ time_) → InR (12 * round_)) ∧ ((0 ≤ time_) → ¬ (m 17 (12 * round_ + stop_).toNat ≤ time_) → InR (12 * round_ + stop_)) ∧ ((0 ≤ time_) → ¬ (m 17 (12 * round_ + stop_).toNat ≤ time_) → 0 ≤ 12 * round_ + stop_) ∧ ((0 ≤ time_) → ¬ (m 17 (12 * round_ + stop_).toNat ≤ time_) → 12 * round_ + stop_ < 888) ∧ ((0 ≤ time_) → ¬ (m 17 (12 * round_ + stop_).toNat ≤ time_) → 0 ≤ stop_) ∧ ((0 ≤ time_) → ¬ (m 17 (12 * round_ + stop_).toNat ≤ time_) → stop_ < 12) ∧ ((0 ≤ time_) → ¬ (m 17 (12 * round_ + stop_).toNat ≤ time_) → InR (m 18 (12 * round_ + stop_).toNat + m 1 stop_.toNat))) <|
  some (if (0 ≤ time_) ∧ ((m 17 (12 * round_ + stop_).toNat ≤ time_) ∨ (m 18 (12 * round_ + stop_).toNat + m 1 stop_.toNat ≤ time_)) then 1 else 0)
def rm_X12_getsOnBy : Room := { frames := 0, cells := 0, slots := 0, locals := 0 }
noncomputable def M_tellRounds_b3 (run_2 : Int) (isOn_2 : Int) (c_2 : Int) (m_9 : Mem) : Option ((Int × Int × Mem) ⊕ (Int × Int × Mem)) :=
  (M_isRun run_2 m_9).bind fun r_ =>
  if ¬ r_ = 0 then
    grd (0 ≤ run_2.tmod 24 ∧ run_2.tmod 24 < 24) <|
    if c_2 < m_9 6 (run_2.tmod 24).toNat then
      ltv (fun (m_10 : Mem) =>
      ltv (fun (v_ : Int) =>
      ltv (v_ : Int) fun isOn_3 =>
      grd (InR (c_2 + 1)) <|
      ltv (c_2 + 1) fun c_3 =>
      some (.inl (isOn_3, c_3, m_10))) fun kj_2 =>
      if ¬ isOn_2 = 0 then
        kj_2 1
      else
        grd (InR (m_10 0 28 - 1)) <|
        (M_stopIn run_2 c_2 m_10).bind fun r_4 =>
        (M_leavesAt run_2 c_2 m_10).bind fun r_5 =>
        (M_getsOnBy (m_10 0 28 - 1) r_4 r_5 m_10).bind fun r_6 =>
        if ¬ r_6 = 0 then
          kj_2 1
        else
          kj_2 0) fun kj_ =>
      if ¬ isOn_2 = 0 then
        (M_stopIn run_2 c_2 m_9).bind fun r_2 =>
        (M_comesAt run_2 c_2 m_9).bind fun r_3 =>
        (M_getsOff r_2 r_3 m_9).bind fun m_11 =>
        kj_ m_11
      else
        kj_ m_9
    else
      some (.inr (isOn_2, c_2, m_9))
  else
    some (.inr (isOn_2, c_2, m_9))
noncomputable def M_tellRounds_b2 (run_2 : Int) (m_8 : Mem) : Option ((Int × Mem) ⊕ (Int × Mem)) :=
  if run_2 < 72 then
    ltv (0 : Int) fun isOn_ =>
    ltv (0 : Int) fun c_ =>
    bq3 (loop (fun s => M_tellRounds_b3 run_2 s.1 s.2.1 s.2.2) (isOn_, c_, m_8)) fun isOn_4 c_4 m_12 =>
    grd (InR (run_2 + 1)) <|
    ltv (run_2 + 1) fun run_3 =>
    some (.inl (run_3, m_12))
  else
    some (.inr (run_2, m_8))
noncomputable def M_tellRounds_b1 (m_6 : Mem) : Option ((Mem) ⊕ (Mem)) :=
  if (¬ m_6 0 25 = 0) ∧ (m_6 0 28 < 74) then
    ltv (setM m_6 0 25 0) fun m_7 =>
    ltv (0 : Int) fun run_ =>
    bq2 (loop (fun s => M_tellRounds_b2 s.1 s.2) (run_, m_7)) fun run_4 m_13 =>
    (M_keepRound m_13).bind fun m_14 =>
    some (.inl m_14)
  else
    some (.inr m_6)
noncomputable def M_tellRounds (from_ : Int) (day_ : Int) (minute_ : Int) (m : Mem) : Option Mem :=
  ltv (setM m 0 22 day_) fun m_ =>
  (M_begin from_ minute_ m_).bind fun m_2 =>
  ltv (setM m_2 0 28 0) fun m_3 =>
  (M_keepRound m_3).bind fun m_4 =>
  ltv (setM m_4 0 25 1) fun m_5 =>
  bq1 (loop (fun s => M_tellRounds_b1 s) m_5) fun m_15 =>
  some m_15
def rm_X12_tellRounds : Room := { frames := 3, cells := 0, slots := 0, locals := 72 }
noncomputable def M_atBy (round_ : Int) (stop_ : Int) (m : Mem) : Option Int :=
  grd (InR (12 * round_) ∧ InR (12 * round_ + stop_) ∧ 0 ≤ 12 * round_ + stop_ ∧ 12 * round_ + stop_ < 888) <|
  ltv (m 17 (12 * round_ + stop_).toNat : Int) fun one_ =>
  ltv (m 18 (12 * round_ + stop_).toNat : Int) fun other_ =>
  some (if one_ < other_ then one_ else other_)
def rm_X12_atBy : Room := { frames := 0, cells := 0, slots := 0, locals := 0 }
noncomputable def M_choicesOf_b1 (to_ : Int) (index_ : Int) (many_2 : Int) (best_2 : Int) (k_2 : Int) (m_ : Mem) : Option ((Int × Int × Int × Mem) ⊕ (Int × Int × Int × Mem)) :=
  if k_2 < m_ 0 28 then
    (M_atBy k_2 to_ m_).bind fun r_ =>
    ltv (r_ : Int) fun time_ =>
    if time_ < best_2 then
      ltv (fun (m_2 : Mem) =>
      ltv (time_ : Int) fun best_3 =>
      grd (InR (many_2 + 1)) <|
      ltv (many_2 + 1) fun many_3 =>
      grd (InR (k_2 + 1)) <|
      ltv (k_2 + 1) fun k_4 =>
      some (.inl (many_3, best_3, k_4, m_2))) fun kj_ =>
      if many_2 = index_ then
        ltv (setM m_ 0 48 k_2) fun m_3 =>
        ltv (setM m_3 0 49 time_) fun m_4 =>
        kj_ m_4
      else
        kj_ m_
    else
      grd (InR (k_2 + 1)) <|
      ltv (k_2 + 1) fun k_3 =>
      some (.inl (many_2, best_2, k_3, m_))
  else
    some (.inr (many_2, best_2, k_2, m_))
noncomputable def M_choicesOf (to_ : Int) (index_ : Int) (m : Mem) : Option (Int × Mem) :=
  ltv (0 : Int) fun many_ =>
  ltv (1000000 : Int) fun best_ =>
  ltv (0 : Int) fun k_ =>
  bq4 (loop (fun s => M_choicesOf_b1 to_ index_ s.1 s.2.1 s.2.2.1 s.2.2.2) (many_, best_, k_, m)) fun many_4 best_4 k_5 m_5 =>
  some (many_4, m_5)
def rm_X12_choicesOf : Room := { frames := 1, cells := 0, slots := 0, locals := 24 }
noncomputable def M_choices (from_ : Int) (to_ : Int) (day_ : Int) (minute_ : Int) (m : Mem) : Option (Int × Mem) :=
  bq2 (M_isAskedWrong from_ to_ day_ minute_ m) fun r_ m_ =>
  if ¬ r_ = 0 then
    some (0, m_)
  else
    (M_tellRounds from_ day_ minute_ m_).bind fun m_2 =>
    bq2 (M_choicesOf to_ (-1) m_2) fun r_2 m_3 =>
    some (r_2, m_3)
def rm_X12_choices : Room := { frames := 4, cells := 0, slots := 0, locals := 98 }
noncomputable def M_choice (from_ : Int) (to_ : Int) (day_ : Int) (minute_ : Int) (index_ : Int) (m : Mem) : Option (Int × Mem) :=
  bq2 (M_isAskedWrong from_ to_ day_ minute_ m) fun r_ m_ =>
  if ¬ r_ = 0 then
    some (0, m_)
  else
    (M_tellRounds from_ day_ minute_ m_).bind fun m_2 =>
    ltv (fun (v_ : Int) (m_3 : Mem) =>
    bq2 (M_isThrown v_ 3 m_3) fun r_3 m_5 =>
    if ¬ r_3 = 0 then
      some (0, m_5)
    else
      grd (InR (5000 * (m_5 0 48)) ∧ InR (5000 * (m_5 0 48) + m_5 0 49)) <|
      some (5000 * (m_5 0 48) + m_5 0 49, m_5)) fun kj_ =>
    bq2 (M_choicesOf to_ index_ m_2) fun r_2 m_4 =>
    grd (InR (r_2 - 1)) <|
    if ¬ M_isIn index_ 0 (r_2 - 1) = 0 then
      kj_ 0 m_4
    else
      kj_ 1 m_4
def rm_X12_choice : Room := { frames := 4, cells := 0, slots := 0, locals := 98 }
noncomputable def M_findRide_b3 (number_ : Int) (run_2 : Int) (off_2 : Int) (c_2 : Int) (m_4 : Mem) : Option ((Int × Mem) ⊕ (Int × Mem)) :=
  grd (((0 ≤ c_2) → 0 ≤ number_) ∧ ((0 ≤ c_2) → number_ < 74)) <|
  if (0 ≤ c_2) ∧ (m_4 19 number_.toNat = (-1)) then
    (M_stopIn run_2 c_2 m_4).bind fun r_4 =>
    (M_leavesAt run_2 c_2 m_4).bind fun r_5 =>
    (M_getsOnBy number_ r_4 r_5 m_4).bind fun r_6 =>
    if ¬ r_6 = 0 then
      grd (0 ≤ number_ ∧ number_ < 74) <|
      ltv (setM m_4 19 number_.toNat run_2) fun m_5 =>
      ltv (setM m_5 20 number_.toNat c_2) fun m_6 =>
      ltv (setM m_6 21 number_.toNat off_2) fun m_7 =>
      grd (InR (c_2 - 1)) <|
      ltv (c_2 - 1) fun c_4 =>
      some (.inl (c_4, m_7))
    else
      grd (InR (c_2 - 1)) <|
      ltv (c_2 - 1) fun c_3 =>
      some (.inl (c_3, m_4))
  else
    some (.inr (c_2, m_4))
noncomputable def M_findRide_b2 (number_ : Int) (stop_ : Int) (time_ : Int) (isEnd_ : Int) (run_2 : Int) (off_2 : Int) (m_3 : Mem) : Option ((Int × Mem) ⊕ (Int × Mem)) :=
  (M_isRun run_2 m_3).bind fun r_ =>
  if ¬ r_ = 0 then
    grd (0 ≤ run_2.tmod 24 ∧ run_2.tmod 24 < 24) <|
    if off_2 < m_3 6 (run_2.tmod 24).toNat then
      grd (0 ≤ number_ ∧ number_ < 74) <|
      if m_3 19 number_.toNat = (-1) then
        (M_stopIn run_2 off_2 m_3).bind fun r_2 =>
        ltv (r_2 : Int) fun by_ =>
        grd ((¬ (¬ by_ = stop_) → ¬ (¬ isEnd_ = 0) → 0 ≤ stop_) ∧ (¬ (¬ by_ = stop_) → ¬ (¬ isEnd_ = 0) → stop_ < 12) ∧ ((¬ by_ = stop_) → InR (12 * by_)) ∧ ((¬ by_ = stop_) → InR (12 * by_ + stop_)) ∧ ((¬ by_ = stop_) → 0 ≤ 12 * by_ + stop_) ∧ ((¬ by_ = stop_) → 12 * by_ + stop_ < 144)) <|
        ltv ((if ¬ by_ = stop_ then m_3 3 (12 * by_ + stop_).toNat else (if ¬ isEnd_ = 0 then 0 else m_3 1 stop_.toNat)) : Int) fun more_ =>
        (M_comesAt run_2 off_2 m_3).bind fun r_3 =>
        grd (InR (r_3 + more_)) <|
        if time_ < r_3 + more_ then
          grd (InR (off_2 + 1)) <|
          ltv (off_2 + 1) fun off_4 =>
          some (.inl (off_4, m_3))
        else
          grd (InR (off_2 - 1)) <|
          ltv (off_2 - 1 : Int) fun c_ =>
          bq2 (loop (fun s => M_findRide_b3 number_ run_2 off_2 s.1 s.2) (c_, m_3)) fun c_5 m_8 =>
          grd (InR (off_2 + 1)) <|
          ltv (off_2 + 1) fun off_3 =>
          some (.inl (off_3, m_8))
      else
        some (.inr (off_2, m_3))
    else
      some (.inr (off_2, m_3))
  else
    some (.inr (off_2, m_3))
noncomputable def M_findRide_b1 (number_ : Int) (stop_ : Int) (time_ : Int) (isEnd_ : Int) (run_2 : Int) (m_2 : Mem) : Option ((Int × Mem) ⊕ (Int × Mem)) :=
  grd (((run_2 < 72) → 0 ≤ number_) ∧ ((run_2 < 72) → number_ < 74)) <|
  if (run_2 < 72) ∧ (m_2 19 number_.toNat = (-1)) then
    ltv (1 : Int) fun off_ =>
    bq2 (loop (fun s => M_findRide_b2 number_ stop_ time_ isEnd_ run_2 s.1 s.2) (off_, m_2)) fun off_5 m_9 =>
    grd (InR (run_2 + 1)) <|
    ltv (run_2 + 1) fun run_3 =>
    some (.inl (run_3, m_9))
  else
    some (.inr (run_2, m_2))
noncomputable def M_findRide (number_ : Int) (stop_ : Int) (time_ : Int) (isEnd_ : Int) (m : Mem) : Option Mem :=
  grd (0 ≤ number_ ∧ number_ < 74) <|
  ltv (setM m 19 number_.toNat (-1)) fun m_ =>
  ltv (0 : Int) fun run_ =>
  bq2 (loop (fun s => M_findRide_b1 number_ stop_ time_ isEnd_ s.1 s.2) (run_, m_)) fun run_4 m_10 =>
  some m_10
def rm_X12_findRide : Room := { frames := 3, cells := 0, slots := 0, locals := 72 }
noncomputable def M_chain_b1 (to_ : Int) (time_ : Int) (m_3 : Mem) (many_2 : Int) : Option ((Int) ⊕ (Int)) :=
  (M_atBy many_2 to_ m_3).bind fun r_4 =>
  if time_ < r_4 then
    grd (InR (many_2 + 1)) <|
    ltv (many_2 + 1) fun many_3 =>
    some (.inl many_3)
  else
    some (.inr many_2)
noncomputable def M_chain_b2 (time_2 : Int) (stop_2 : Int) (isEnd_2 : Int) (k_2 : Int) (m_5 : Mem) : Option ((Int × Int × Int × Int × Mem) ⊕ (Int × Int × Int × Int × Mem)) :=
  if 0 ≤ k_2 then
    (M_findRide k_2 stop_2 time_2 isEnd_2 m_5).bind fun m_6 =>
    grd (0 ≤ k_2 ∧ k_2 < 74) <|
    (M_stopIn (m_6 19 k_2.toNat) (m_6 20 k_2.toNat) m_6).bind fun r_5 =>
    ltv (r_5 : Int) fun stop_3 =>
    (M_leavesAt (m_6 19 k_2.toNat) (m_6 20 k_2.toNat) m_6).bind fun r_6 =>
    ltv (r_6 : Int) fun time_3 =>
    ltv (0 : Int) fun isEnd_3 =>
    grd (InR (k_2 - 1)) <|
    ltv (k_2 - 1) fun k_3 =>
    some (.inl (time_3, stop_3, isEnd_3, k_3, m_6))
  else
    some (.inr (time_2, stop_2, isEnd_2, k_2, m_5))
noncomputable def M_chain (from_ : Int) (to_ : Int) (day_ : Int) (minute_ : Int) (m : Mem) : Option (Int × Mem) :=
  bq2 (M_isAskedWrong from_ to_ day_ minute_ m) fun r_ m_ =>
  if ¬ r_ = 0 then
    some (0, m_)
  else
    (M_tellRounds from_ day_ minute_ m_).bind fun m_2 =>
    grd (InR (m_2 0 28 - 1)) <|
    (M_atBy (m_2 0 28 - 1) to_ m_2).bind fun r_2 =>
    ltv (r_2 : Int) fun time_ =>
    bq2 (M_isThrown (if 1000000 ≤ time_ then 1 else 0) 3 m_2) fun r_3 m_3 =>
    if ¬ r_3 = 0 then
      some (0, m_3)
    else
      ltv (0 : Int) fun many_ =>
      bq1 (loop (fun s => M_chain_b1 to_ time_ m_3 s) many_) fun many_4 =>
      ltv (setM m_3 0 29 many_4) fun m_4 =>
      ltv (to_ : Int) fun stop_ =>
      ltv (1 : Int) fun isEnd_ =>
      grd (InR (many_4 - 1)) <|
      ltv (many_4 - 1 : Int) fun k_ =>
      bq5 (loop (fun s => M_chain_b2 s.1 s.2.1 s.2.2.1 s.2.2.2.1 s.2.2.2.2) (time_, stop_, isEnd_, k_, m_4)) fun time_4 stop_4 isEnd_4 k_4 m_7 =>
      some (m_7 0 29, m_7)
def rm_X12_chain : Room := { frames := 4, cells := 0, slots := 0, locals := 101 }
noncomputable def M_ride (index_ : Int) (what_ : Int) (m : Mem) : Option (Int × Mem) :=
  bq2 (M_isThrown (if (((¬ what_ = 116) ∧ (¬ what_ = 100)) ∧ (¬ what_ = 111)) ∧ (¬ what_ = 102) then 1 else 0) 1 m) fun r_ m_ =>
  if ¬ r_ = 0 then
    some (0, m_)
  else
    grd (InR (m_ 0 29 - 1)) <|
    bq2 (M_isThrown (if M_isIn index_ 0 (m_ 0 29 - 1) = 0 then 1 else 0) 2 m_) fun r_2 m_2 =>
    if ¬ r_2 = 0 then
      some (0, m_2)
    else
      grd ((¬ (what_ = 116) → ¬ (what_ = 100) → ¬ (what_ = 111) → 0 ≤ index_) ∧ (¬ (what_ = 116) → ¬ (what_ = 100) → ¬ (what_ = 111) → index_ < 74) ∧ (¬ (what_ = 116) → ¬ (what_ = 100) → (what_ = 111) → 0 ≤ index_) ∧ (¬ (what_ = 116) → ¬ (what_ = 100) → (what_ = 111) → index_ < 74) ∧ (¬ (what_ = 116) → (what_ = 100) → 0 ≤ index_) ∧ (¬ (what_ = 116) → (what_ = 100) → index_ < 74) ∧ (¬ (what_ = 116) → (what_ = 100) → InR ((m_2 19 index_.toNat).tdiv 24 - 1)) ∧ ((what_ = 116) → 0 ≤ index_) ∧ ((what_ = 116) → index_ < 74)) <|
      some ((if what_ = 116 then (m_2 19 index_.toNat).tmod 24 else (if what_ = 100 then (m_2 19 index_.toNat).tdiv 24 - 1 else (if what_ = 111 then m_2 20 index_.toNat else m_2 21 index_.toNat))), m_2)
def rm_X12_ride : Room := { frames := 1, cells := 0, slots := 0, locals := 22 }
noncomputable def M_leaveBefore_b2 (from_ : Int) (ahead_ : Int) (m : Mem) (run_2 : Int) (greatest_3 : Int) (c_2 : Int) : Option ((Int × Int) ⊕ (Int × Int)) :=
  (M_isRun run_2 m).bind fun r_ =>
  if ¬ r_ = 0 then
    grd (InR (c_2 + 1) ∧ 0 ≤ run_2.tmod 24 ∧ run_2.tmod 24 < 24) <|
    if c_2 + 1 < m 6 (run_2.tmod 24).toNat then
      (M_leavesAt run_2 c_2 m).bind fun r_2 =>
      ltv (r_2 : Int) fun time_ =>
      grd (InR (12 * from_)) <|
      (M_stopIn run_2 c_2 m).bind fun r_3 =>
      grd (InR (12 * from_ + r_3) ∧ 0 ≤ 12 * from_ + r_3 ∧ 12 * from_ + r_3 < 144 ∧ InR (time_ - (m 3 (12 * from_ + r_3).toNat))) <|
      ltv (time_ - (m 3 (12 * from_ + r_3).toNat) : Int) fun leave_ =>
      ltv ((if (((0 ≤ time_) ∧ (0 ≤ leave_)) ∧ (leave_ < ahead_)) ∧ (greatest_3 < leave_) then leave_ else greatest_3) : Int) fun greatest_4 =>
      ltv (c_2 + 1) fun c_3 =>
      some (.inl (greatest_4, c_3))
    else
      some (.inr (greatest_3, c_2))
  else
    some (.inr (greatest_3, c_2))
noncomputable def M_leaveBefore_b1 (from_ : Int) (ahead_ : Int) (m : Mem) (greatest_2 : Int) (run_2 : Int) : Option ((Int × Int) ⊕ (Int × Int)) :=
  if run_2 < 72 then
    ltv (0 : Int) fun c_ =>
    bq2 (loop (fun s => M_leaveBefore_b2 from_ ahead_ m run_2 s.1 s.2) (greatest_2, c_)) fun greatest_5 c_4 =>
    grd (InR (run_2 + 1)) <|
    ltv (run_2 + 1) fun run_3 =>
    some (.inl (greatest_5, run_3))
  else
    some (.inr (greatest_2, run_2))
noncomputable def M_leaveBefore (from_ : Int) (ahead_ : Int) (m : Mem) : Option Int :=
  ltv ((-1) : Int) fun greatest_ =>
  ltv (0 : Int) fun run_ =>
  bq2 (loop (fun s => M_leaveBefore_b1 from_ ahead_ m s.1 s.2) (greatest_, run_)) fun greatest_6 run_4 =>
  some greatest_6
def rm_X12_leaveBefore : Room := { frames := 3, cells := 0, slots := 0, locals := 72 }
noncomputable def M_tellPairs_b1 (from_ : Int) (to_ : Int) (ahead_2 : Int) (best_2 : Int) (m_3 : Mem) : Option ((Int × Int × Mem) ⊕ (Int × Int × Mem)) :=
  (M_leaveBefore from_ ahead_2 m_3).bind fun r_ =>
  ltv (r_ : Int) fun leave_ =>
  if leave_ < 0 then
    some (.inr (ahead_2, best_2, m_3))
  else
    (M_begin from_ leave_ m_3).bind fun m_4 =>
    (M_settle m_4).bind fun m_5 =>
    (M_byRide to_ m_5).bind fun r_2 =>
    ltv (r_2 : Int) fun comesBy_ =>
    ltv (fun (best_3 : Int) (m_6 : Mem) =>
    ltv (leave_ : Int) fun ahead_3 =>
    some (.inl (ahead_3, best_3, m_6))) fun kj_ =>
    if comesBy_ < best_2 then
      ltv (comesBy_ : Int) fun best_4 =>
      grd (0 ≤ m_5 0 33 ∧ m_5 0 33 < 600) <|
      ltv (setM m_5 22 (m_5 0 33).toNat leave_) fun m_7 =>
      grd (0 ≤ m_7 0 33 ∧ m_7 0 33 < 600) <|
      ltv (setM m_7 23 (m_7 0 33).toNat comesBy_) fun m_8 =>
      grd (InR (m_8 0 33 + 1)) <|
      ltv (setM m_8 0 33 (m_8 0 33 + 1)) fun m_9 =>
      kj_ best_4 m_9
    else
      kj_ best_2 m_5
noncomputable def M_tellPairs (from_ : Int) (to_ : Int) (day_ : Int) (m : Mem) : Option Mem :=
  ltv (setM m 0 22 day_) fun m_ =>
  ltv (setM m_ 0 33 0) fun m_2 =>
  ltv (1000000 : Int) fun ahead_ =>
  ltv (1000000 : Int) fun best_ =>
  bq3 (loop (fun s => M_tellPairs_b1 from_ to_ s.1 s.2.1 s.2.2) (ahead_, best_, m_2)) fun ahead_4 best_5 m_10 =>
  some m_10
def rm_X12_tellPairs : Room := { frames := 5, cells := 0, slots := 0, locals := 116 }
noncomputable def M_pairs (from_ : Int) (to_ : Int) (day_ : Int) (m : Mem) : Option (Int × Mem) :=
  bq2 (M_isNoStop from_ m) fun r_ m_ =>
  if ¬ r_ = 0 then
    some (0, m_)
  else
    bq2 (M_isNoStop to_ m_) fun r_2 m_2 =>
    if ¬ r_2 = 0 then
      some (0, m_2)
    else
      bq2 (M_isThrown (if (from_ = to_) ∨ (M_isIn day_ 0 27 = 0) then 1 else 0) 2 m_2) fun r_3 m_3 =>
      if ¬ r_3 = 0 then
        some (0, m_3)
      else
        (M_tellPairs from_ to_ day_ m_3).bind fun m_4 =>
        some (m_4 0 33, m_4)
def rm_X12_pairs : Room := { frames := 6, cells := 0, slots := 0, locals := 143 }
noncomputable def M_pair (from_ : Int) (to_ : Int) (day_ : Int) (index_ : Int) (isArrival_ : Int) (m : Mem) : Option (Int × Mem) :=
  bq2 (M_isNoStop from_ m) fun r_ m_ =>
  if ¬ r_ = 0 then
    some (0, m_)
  else
    bq2 (M_isNoStop to_ m_) fun r_2 m_2 =>
    if ¬ r_2 = 0 then
      some (0, m_2)
    else
      bq2 (M_isThrown (if (from_ = to_) ∨ (M_isIn day_ 0 27 = 0) then 1 else 0) 2 m_2) fun r_3 m_3 =>
      if ¬ r_3 = 0 then
        some (0, m_3)
      else
        (M_tellPairs from_ to_ day_ m_3).bind fun m_4 =>
        grd (InR (m_4 0 33 - 1)) <|
        bq2 (M_isThrown (if M_isIn index_ 0 (m_4 0 33 - 1) = 0 then 1 else 0) 3 m_4) fun r_4 m_5 =>
        if ¬ r_4 = 0 then
          some (0, m_5)
        else
          grd ((¬ (¬ isArrival_ = 0) → InR (m_5 0 33 - 1)) ∧ (¬ (¬ isArrival_ = 0) → InR (m_5 0 33 - 1 - index_)) ∧ (¬ (¬ isArrival_ = 0) → 0 ≤ m_5 0 33 - 1 - index_) ∧ (¬ (¬ isArrival_ = 0) → m_5 0 33 - 1 - index_ < 600) ∧ ((¬ isArrival_ = 0) → InR (m_5 0 33 - 1)) ∧ ((¬ isArrival_ = 0) → InR (m_5 0 33 - 1 - index_)) ∧ ((¬ isArrival_ = 0) → 0 ≤ m_5 0 33 - 1 - index_) ∧ ((¬ isArrival_ = 0) → m_5 0 33 - 1 - index_ < 600)) <|
          some ((if ¬ isArrival_ = 0 then m_5 23 (m_5 0 33 - 1 - index_).toNat else m_5 22 (m_5 0 33 - 1 - index_).toNat), m_5)
def rm_X12_pair : Room := { frames := 6, cells := 0, slots := 0, locals := 143 }
noncomputable def M_runs (trip_ : Int) (day_ : Int) (m : Mem) : Option Int :=
  grd (0 ≤ trip_ ∧ trip_ < 24 ∧ InR (28 * (m 5 trip_.toNat)) ∧ InR (28 * (m 5 trip_.toNat) + day_) ∧ 0 ≤ 28 * (m 5 trip_.toNat) + day_ ∧ 28 * (m 5 trip_.toNat) + day_ < 168 ∧ (m 4 (28 * (m 5 trip_.toNat) + day_).toNat = 0 ∨ m 4 (28 * (m 5 trip_.toNat) + day_).toNat = 1)) <|
  some (m 4 (28 * (m 5 trip_.toNat) + day_).toNat)
def rm_X12_runs : Room := { frames := 0, cells := 0, slots := 0, locals := 0 }
noncomputable def M_isChangeWrong (trip_ : Int) (call_ : Int) (other_ : Int) (otherCall_ : Int) (m : Mem) : Option Int :=
  grd ((¬ ((trip_ = other_) ∨ (call_ = 0)) → 0 ≤ other_) ∧ (¬ ((trip_ = other_) ∨ (call_ = 0)) → other_ < 24) ∧ (¬ ((trip_ = other_) ∨ (call_ = 0)) → InR (m 6 other_.toNat - 1))) <|
  some (if ((trip_ = other_) ∨ (call_ = 0)) ∨ (otherCall_ = m 6 other_.toNat - 1) then 1 else 0)
def rm_X12_isChangeWrong : Room := { frames := 0, cells := 0, slots := 0, locals := 0 }
noncomputable def M_holds (day_ : Int) (trip_ : Int) (call_ : Int) (other_ : Int) (otherCall_ : Int) (m : Mem) : Option (Int × Mem) :=
  bq2 (M_isNoCall trip_ call_ m) fun r_ m_ =>
  if ¬ r_ = 0 then
    some (0, m_)
  else
    bq2 (M_isNoCall other_ otherCall_ m_) fun r_2 m_2 =>
    if ¬ r_2 = 0 then
      some (0, m_2)
    else
      ltv (fun (v_ : Int) =>
      bq2 (M_isThrown v_ 2 m_2) fun r_4 m_3 =>
      if ¬ r_4 = 0 then
        some (0, m_3)
      else
        ltv (fun (v_2 : Int) =>
        bq2 (M_isThrown v_2 3 m_3) fun r_7 m_4 =>
        if ¬ r_7 = 0 then
          some (0, m_4)
        else
          ltv (setM m_4 0 22 day_) fun m_5 =>
          grd (InR (8 * trip_) ∧ InR (8 * trip_ + call_) ∧ 0 ≤ 8 * trip_ + call_ ∧ 8 * trip_ + call_ < 192) <|
          ltv (m_5 7 (8 * trip_ + call_).toNat : Int) fun from_ =>
          grd (InR (8 * other_) ∧ InR (8 * other_ + otherCall_) ∧ 0 ≤ 8 * other_ + otherCall_ ∧ 8 * other_ + otherCall_ < 192) <|
          ltv (m_5 7 (8 * other_ + otherCall_).toNat : Int) fun to_ =>
          grd (InR (12 * from_) ∧ InR (12 * from_ + to_) ∧ 0 ≤ 12 * from_ + to_ ∧ 12 * from_ + to_ < 144) <|
          bq2 (M_isThrown (if 1000000 ≤ m_5 3 (12 * from_ + to_).toNat then 1 else 0) 4 m_5) fun r_8 m_6 =>
          if ¬ r_8 = 0 then
            some (0, m_6)
          else
            grd ((¬ (from_ = to_) → InR (12 * from_)) ∧ (¬ (from_ = to_) → InR (12 * from_ + to_)) ∧ (¬ (from_ = to_) → 0 ≤ 12 * from_ + to_) ∧ (¬ (from_ = to_) → 12 * from_ + to_ < 144) ∧ ((from_ = to_) → 0 ≤ from_) ∧ ((from_ = to_) → from_ < 12)) <|
            ltv ((if from_ = to_ then m_6 1 from_.toNat else m_6 3 (12 * from_ + to_).toNat) : Int) fun minutes_ =>
            grd (InR (24 + trip_)) <|
            (M_comesAt (24 + trip_) call_ m_6).bind fun r_9 =>
            grd (InR (r_9 + minutes_) ∧ InR (24 + other_)) <|
            (M_leavesAt (24 + other_) otherCall_ m_6).bind fun r_10 =>
            if r_9 + minutes_ ≤ r_10 then
              some (1, m_6)
            else
              some (0, m_6)) fun kj_2 =>
        (M_runs trip_ day_ m_3).bind fun r_5 =>
        if ¬ r_5 = 0 then
          (M_runs other_ day_ m_3).bind fun r_6 =>
          if ¬ r_6 = 0 then
            kj_2 0
          else
            kj_2 1
        else
          kj_2 1) fun kj_ =>
      if M_isIn day_ 0 27 = 0 then
        kj_ 1
      else
        (M_isChangeWrong trip_ call_ other_ otherCall_ m_2).bind fun r_3 =>
        if ¬ r_3 = 0 then
          kj_ 1
        else
          kj_ 0
def rm_X12_holds : Room := { frames := 3, cells := 0, slots := 0, locals := 72 }
noncomputable def M_wish (trip_ : Int) (call_ : Int) (other_ : Int) (otherCall_ : Int) (many_ : Int) (m : Mem) : Option (Int × Mem) :=
  bq2 (M_isNoCall trip_ call_ m) fun r_ m_ =>
  if ¬ r_ = 0 then
    some (0, m_)
  else
    bq2 (M_isNoCall other_ otherCall_ m_) fun r_2 m_2 =>
    if ¬ r_2 = 0 then
      some (0, m_2)
    else
      ltv (fun (v_ : Int) =>
      bq2 (M_isThrown v_ 2 m_2) fun r_4 m_3 =>
      if ¬ r_4 = 0 then
        some (0, m_3)
      else
        grd (InR (8 * trip_) ∧ InR (8 * trip_ + call_) ∧ 0 ≤ 8 * trip_ + call_ ∧ 8 * trip_ + call_ < 192 ∧ InR (8 * other_) ∧ InR (8 * other_ + otherCall_) ∧ 0 ≤ 8 * other_ + otherCall_ ∧ 8 * other_ + otherCall_ < 192) <|
        bq2 (M_isThrown (if ¬ m_3 7 (8 * trip_ + call_).toNat = m_3 7 (8 * other_ + otherCall_).toNat then 1 else 0) 3 m_3) fun r_5 m_4 =>
        if ¬ r_5 = 0 then
          some (0, m_4)
        else
          bq2 (M_isThrown (if m_4 0 36 = 6 then 1 else 0) 4 m_4) fun r_6 m_5 =>
          if ¬ r_6 = 0 then
            some (0, m_5)
          else
            grd (0 ≤ m_5 0 36 ∧ m_5 0 36 < 6) <|
            ltv (setM m_5 24 (m_5 0 36).toNat trip_) fun m_6 =>
            grd (0 ≤ m_6 0 36 ∧ m_6 0 36 < 6) <|
            ltv (setM m_6 25 (m_6 0 36).toNat call_) fun m_7 =>
            grd (0 ≤ m_7 0 36 ∧ m_7 0 36 < 6) <|
            ltv (setM m_7 26 (m_7 0 36).toNat other_) fun m_8 =>
            grd (0 ≤ m_8 0 36 ∧ m_8 0 36 < 6) <|
            ltv (setM m_8 27 (m_8 0 36).toNat otherCall_) fun m_9 =>
            grd (0 ≤ m_9 0 36 ∧ m_9 0 36 < 6) <|
            ltv (setM m_9 28 (m_9 0 36).toNat many_) fun m_10 =>
            grd (InR (m_10 0 36 + 1)) <|
            ltv (setM m_10 0 36 (m_10 0 36 + 1)) fun m_11 =>
            grd (InR (m_11 0 36 - 1)) <|
            some (m_11 0 36 - 1, m_11)) fun kj_ =>
      (M_isChangeWrong trip_ call_ other_ otherCall_ m_2).bind fun r_3 =>
      if ¬ r_3 = 0 then
        kj_ 1
      else
        if M_isIn many_ 1 99 = 0 then
          kj_ 1
        else
          kj_ 0
def rm_X12_wish : Room := { frames := 3, cells := 0, slots := 0, locals := 65 }
noncomputable def M_dropWishes  (m : Mem) : Option (Int × Mem) :=
  ltv (setM m 0 0 0) fun m_ =>
  ltv (m_ 0 36 : Int) fun had_ =>
  ltv (setM m_ 0 36 0) fun m_2 =>
  some (had_, m_2)
def rm_X12_dropWishes : Room := { frames := 0, cells := 0, slots := 0, locals := 0 }
noncomputable def M_counts (wish_ : Int) (day_ : Int) (m : Mem) : Option Int :=
  grd (0 ≤ wish_ ∧ wish_ < 6) <|
  (M_runs (m 24 wish_.toNat) day_ m).bind fun r_ =>
  if ¬ r_ = 0 then
    (M_runs (m 26 wish_.toNat) day_ m).bind fun r_2 =>
    if ¬ r_2 = 0 then
      some 1
    else
      some 0
  else
    some 0
def rm_X12_counts : Room := { frames := 1, cells := 0, slots := 0, locals := 22 }
noncomputable def M_missedBy (wish_ : Int) (m : Mem) : Option Int :=
  grd (0 ≤ wish_ ∧ wish_ < 6) <|
  ltv (m 24 wish_.toNat : Int) fun trip_ =>
  ltv (m 25 wish_.toNat : Int) fun call_ =>
  grd (InR (8 * trip_) ∧ InR (8 * trip_ + call_) ∧ 0 ≤ 8 * trip_ + call_ ∧ 8 * trip_ + call_ < 192 ∧ InR (8 * trip_ + call_ - 1) ∧ 0 ≤ 8 * trip_ + call_ - 1 ∧ 8 * trip_ + call_ - 1 < 192 ∧ InR (m 8 (8 * trip_ + call_).toNat + (m 29 (8 * trip_ + call_ - 1).toNat))) <|
  ltv (m 8 (8 * trip_ + call_).toNat + (m 29 (8 * trip_ + call_ - 1).toNat) : Int) fun came_ =>
  grd (0 ≤ m 7 (8 * trip_ + call_).toNat ∧ m 7 (8 * trip_ + call_).toNat < 12 ∧ InR (came_ + (m 1 (m 7 (8 * trip_ + call_).toNat).toNat)) ∧ InR (8 * (m 26 wish_.toNat)) ∧ InR (8 * (m 26 wish_.toNat) + m 27 wish_.toNat) ∧ 0 ≤ 8 * (m 26 wish_.toNat) + m 27 wish_.toNat ∧ 8 * (m 26 wish_.toNat) + m 27 wish_.toNat < 192 ∧ InR (came_ + (m 1 (m 7 (8 * trip_ + call_).toNat).toNat) - (m 9 (8 * (m 26 wish_.toNat) + m 27 wish_.toNat).toNat))) <|
  some (came_ + (m 1 (m 7 (8 * trip_ + call_).toNat).toNat) - (m 9 (8 * (m 26 wish_.toNat) + m 27 wish_.toNat).toNat))
def rm_X12_missedBy : Room := { frames := 0, cells := 0, slots := 0, locals := 0 }
noncomputable def M_costOf_b2 (day_ : Int) (t_2 : Int) (c_2 : Int) (m_2 : Mem) : Option ((Int × Mem) ⊕ (Int × Mem)) :=
  grd (0 ≤ t_2 ∧ t_2 < 24) <|
  if c_2 < m_2 6 t_2.toNat then
    grd (InR (8 * t_2) ∧ InR (8 * t_2 + c_2) ∧ 0 ≤ 8 * t_2 + c_2 ∧ 8 * t_2 + c_2 < 192) <|
    ltv (fun (v_ : Int) =>
    ltv (setM m_2 29 (8 * t_2 + c_2).toNat v_) fun m_3 =>
    grd (InR (c_2 + 1)) <|
    ltv (c_2 + 1) fun c_3 =>
    some (.inl (c_3, m_3))) fun kj_ =>
    (M_runs t_2 day_ m_2).bind fun r_ =>
    if ¬ r_ = 0 then
      (M_lateOf day_ t_2 c_2 m_2).bind fun r_2 =>
      kj_ r_2
    else
      kj_ 0
  else
    some (.inr (c_2, m_2))
noncomputable def M_costOf_b1 (day_ : Int) (t_2 : Int) (m_ : Mem) : Option ((Int × Mem) ⊕ (Int × Mem)) :=
  if t_2 < m_ 0 8 then
    ltv (0 : Int) fun c_ =>
    bq2 (loop (fun s => M_costOf_b2 day_ t_2 s.1 s.2) (c_, m_)) fun c_4 m_4 =>
    grd (InR (t_2 + 1)) <|
    ltv (t_2 + 1) fun t_3 =>
    some (.inl (t_3, m_4))
  else
    some (.inr (t_2, m_))
noncomputable def M_costOf_b5 (day_ : Int) (t_6 : Int) (goesOn_5 : Int) (c_6 : Int) (m_8 : Mem) : Option ((Int × Int × Mem) ⊕ (Int × Int × Mem)) :=
  (M_runs t_6 day_ m_8).bind fun r_3 =>
  if ¬ r_3 = 0 then
    grd (0 ≤ t_6 ∧ t_6 < 24) <|
    if c_6 < m_8 6 t_6.toNat then
      grd (InR (8 * t_6) ∧ InR (8 * t_6 + c_6) ∧ 0 ≤ 8 * t_6 + c_6 ∧ 8 * t_6 + c_6 < 192 ∧ InR (8 * t_6 + c_6 - 1) ∧ 0 ≤ 8 * t_6 + c_6 - 1 ∧ 8 * t_6 + c_6 - 1 < 192) <|
      if m_8 29 (8 * t_6 + c_6).toNat < m_8 29 (8 * t_6 + c_6 - 1).toNat then
        ltv (setM m_8 29 (8 * t_6 + c_6).toNat (m_8 29 (8 * t_6 + c_6 - 1).toNat)) fun m_9 =>
        ltv (1 : Int) fun goesOn_6 =>
        grd (InR (c_6 + 1)) <|
        ltv (c_6 + 1) fun c_8 =>
        some (.inl (goesOn_6, c_8, m_9))
      else
        grd (InR (c_6 + 1)) <|
        ltv (c_6 + 1) fun c_7 =>
        some (.inl (goesOn_5, c_7, m_8))
    else
      some (.inr (goesOn_5, c_6, m_8))
  else
    some (.inr (goesOn_5, c_6, m_8))
noncomputable def M_costOf_b4 (day_ : Int) (goesOn_4 : Int) (t_6 : Int) (m_7 : Mem) : Option ((Int × Int × Mem) ⊕ (Int × Int × Mem)) :=
  if t_6 < m_7 0 8 then
    ltv (1 : Int) fun c_5 =>
    bq3 (loop (fun s => M_costOf_b5 day_ t_6 s.1 s.2.1 s.2.2) (goesOn_4, c_5, m_7)) fun goesOn_7 c_9 m_10 =>
    grd (InR (t_6 + 1)) <|
    ltv (t_6 + 1) fun t_7 =>
    some (.inl (goesOn_7, t_7, m_10))
  else
    some (.inr (goesOn_4, t_6, m_7))
noncomputable def M_costOf_b6 (day_ : Int) (mask_ : Int) (goesOn_9 : Int) (w_2 : Int) (m_12 : Mem) : Option ((Int × Int × Mem) ⊕ ((Int × Int × Mem) ⊕ (Int × Mem))) :=
  if w_2 < m_12 0 36 then
    grd (0 ≤ w_2 ∧ w_2 < 6 ∧ InR (8 * (m_12 26 w_2.toNat)) ∧ InR (8 * (m_12 26 w_2.toNat) + m_12 27 w_2.toNat)) <|
    ltv (8 * (m_12 26 w_2.toNat) + m_12 27 w_2.toNat : Int) fun at_ =>
    if jiand (jishr mask_ w_2) 1 = 1 then
      (M_counts w_2 day_ m_12).bind fun r_4 =>
      if ¬ r_4 = 0 then
        grd (0 ≤ at_ ∧ at_ < 192) <|
        (M_missedBy w_2 m_12).bind fun r_5 =>
        if m_12 29 at_.toNat < r_5 then
          (M_missedBy w_2 m_12).bind fun r_6 =>
          ltv (setM m_12 29 at_.toNat r_6) fun m_13 =>
          ltv (1 : Int) fun goesOn_10 =>
          if 240 < m_13 29 at_.toNat then
            some (.inr (.inr ((-1), m_13)))
          else
            grd (InR (w_2 + 1)) <|
            ltv (w_2 + 1) fun w_6 =>
            some (.inl (goesOn_10, w_6, m_13))
        else
          grd (InR (w_2 + 1)) <|
          ltv (w_2 + 1) fun w_5 =>
          some (.inl (goesOn_9, w_5, m_12))
      else
        grd (InR (w_2 + 1)) <|
        ltv (w_2 + 1) fun w_4 =>
        some (.inl (goesOn_9, w_4, m_12))
    else
      grd (InR (w_2 + 1)) <|
      ltv (w_2 + 1) fun w_3 =>
      some (.inl (goesOn_9, w_3, m_12))
  else
    some (.inr (.inl (goesOn_9, w_2, m_12)))
noncomputable def M_costOf_b3 (day_ : Int) (mask_ : Int) (goesOn_2 : Int) (m_6 : Mem) : Option ((Int × Mem) ⊕ ((Int × Mem) ⊕ (Int × Mem))) :=
  if ¬ goesOn_2 = 0 then
    ltv (0 : Int) fun goesOn_3 =>
    ltv (0 : Int) fun t_5 =>
    bq3 (loop (fun s => M_costOf_b4 day_ s.1 s.2.1 s.2.2) (goesOn_3, t_5, m_6)) fun goesOn_8 t_8 m_11 =>
    ltv (0 : Int) fun w_ =>
    br3 (fun q9 => some (.inr (.inr q9))) (loop (fun s => M_costOf_b6 day_ mask_ s.1 s.2.1 s.2.2) (goesOn_8, w_, m_11)) fun goesOn_11 w_7 m_14 =>
    some (.inl (goesOn_11, m_14))
  else
    some (.inr (.inl (goesOn_2, m_6)))
noncomputable def M_costOf_b7 (day_ : Int) (m_15 : Mem) (cost_2 : Int) (t_10 : Int) : Option ((Int × Int) ⊕ (Int × Int)) :=
  if t_10 < m_15 0 8 then
    ltv (fun (v_2 : Int) =>
    grd (InR (cost_2 + v_2)) <|
    ltv (cost_2 + v_2 : Int) fun cost_3 =>
    grd (InR (t_10 + 1)) <|
    ltv (t_10 + 1) fun t_11 =>
    some (.inl (cost_3, t_11))) fun kj_2 =>
    (M_runs t_10 day_ m_15).bind fun r_7 =>
    if ¬ r_7 = 0 then
      grd (0 ≤ t_10 ∧ t_10 < 24) <|
      if 1 < m_15 6 t_10.toNat then
        grd (InR (8 * t_10) ∧ InR (8 * t_10 + m_15 6 t_10.toNat) ∧ InR (8 * t_10 + m_15 6 t_10.toNat - 2) ∧ 0 ≤ 8 * t_10 + m_15 6 t_10.toNat - 2 ∧ 8 * t_10 + m_15 6 t_10.toNat - 2 < 192) <|
        kj_2 (m_15 29 (8 * t_10 + m_15 6 t_10.toNat - 2).toNat)
      else
        kj_2 0
    else
      kj_2 0
  else
    some (.inr (cost_2, t_10))
noncomputable def M_costOf_b8 (day_ : Int) (mask_ : Int) (m_15 : Mem) (cost_5 : Int) (w_9 : Int) : Option ((Int × Int) ⊕ (Int × Int)) :=
  if w_9 < m_15 0 36 then
    ltv (fun (v_3 : Int) =>
    ltv (v_3 : Int) fun isMissed_ =>
    grd (((¬ isMissed_ = 0) → 0 ≤ w_9) ∧ ((¬ isMissed_ = 0) → w_9 < 6) ∧ ((¬ isMissed_ = 0) → InR (60 * (m_15 28 w_9.toNat))) ∧ InR (cost_5 + (if ¬ isMissed_ = 0 then 60 * (m_15 28 w_9.toNat) else 0))) <|
    ltv (cost_5 + (if ¬ isMissed_ = 0 then 60 * (m_15 28 w_9.toNat) else 0) : Int) fun cost_6 =>
    grd (InR (w_9 + 1)) <|
    ltv (w_9 + 1) fun w_10 =>
    some (.inl (cost_6, w_10))) fun kj_3 =>
    if jiand (jishr mask_ w_9) 1 = 0 then
      (M_counts w_9 day_ m_15).bind fun r_8 =>
      if ¬ r_8 = 0 then
        (M_missedBy w_9 m_15).bind fun r_9 =>
        grd (0 ≤ w_9 ∧ w_9 < 6 ∧ InR (8 * (m_15 26 w_9.toNat)) ∧ InR (8 * (m_15 26 w_9.toNat) + m_15 27 w_9.toNat) ∧ 0 ≤ 8 * (m_15 26 w_9.toNat) + m_15 27 w_9.toNat ∧ 8 * (m_15 26 w_9.toNat) + m_15 27 w_9.toNat < 192) <|
        if m_15 29 (8 * (m_15 26 w_9.toNat) + m_15 27 w_9.toNat).toNat < r_9 then
          kj_3 1
        else
          kj_3 0
      else
        kj_3 0
    else
      kj_3 0
  else
    some (.inr (cost_5, w_9))
noncomputable def M_costOf (day_ : Int) (mask_ : Int) (m : Mem) : Option (Int × Mem) :=
  ltv (0 : Int) fun t_ =>
  bq2 (loop (fun s => M_costOf_b1 day_ s.1 s.2) (t_, m)) fun t_4 m_5 =>
  ltv (1 : Int) fun goesOn_ =>
  br2 (fun q9 => some q9) (loop (fun s => M_costOf_b3 day_ mask_ s.1 s.2) (goesOn_, m_5)) fun goesOn_12 m_15 =>
  ltv (0 : Int) fun cost_ =>
  ltv (0 : Int) fun t_9 =>
  bq2 (loop (fun s => M_costOf_b7 day_ m_15 s.1 s.2) (cost_, t_9)) fun cost_4 t_12 =>
  ltv (0 : Int) fun w_8 =>
  bq2 (loop (fun s => M_costOf_b8 day_ mask_ m_15 s.1 s.2) (cost_4, w_8)) fun cost_7 w_11 =>
  some (cost_7, m_15)
def rm_X12_costOf : Room := { frames := 2, cells := 0, slots := 0, locals := 48 }
noncomputable def M_waitCost (day_ : Int) (mask_ : Int) (m : Mem) : Option (Int × Mem) :=
  grd ((¬ (M_isIn day_ 0 27 = 0) → InR (jishl 1 (m 0 36) - 1))) <|
  bq2 (M_isThrown (if (M_isIn day_ 0 27 = 0) ∨ (M_isIn mask_ 0 (jishl 1 (m 0 36) - 1) = 0) then 1 else 0) 1 m) fun r_ m_ =>
  if ¬ r_ = 0 then
    some (0, m_)
  else
    bq2 (M_costOf day_ mask_ m_) fun r_2 m_2 =>
    ltv (r_2 : Int) fun cost_ =>
    bq2 (M_isThrown (if cost_ < 0 then 1 else 0) 2 m_2) fun r_3 m_3 =>
    if ¬ r_3 = 0 then
      some (0, m_3)
    else
      some (cost_, m_3)
def rm_X12_waitCost : Room := { frames := 3, cells := 0, slots := 0, locals := 74 }
noncomputable def M_bestWaits_b1 (day_ : Int) (best_2 : Int) (least_2 : Int) (mask_2 : Int) (m_2 : Mem) : Option ((Int × Int × Int × Mem) ⊕ (Int × Int × Int × Mem)) :=
  if mask_2 < jishl 1 (m_2 0 36) then
    bq2 (M_costOf day_ mask_2 m_2) fun r_2 m_3 =>
    ltv (r_2 : Int) fun cost_ =>
    if (0 ≤ cost_) ∧ (cost_ < least_2) then
      ltv (cost_ : Int) fun least_3 =>
      ltv (mask_2 : Int) fun best_3 =>
      grd (InR (mask_2 + 1)) <|
      ltv (mask_2 + 1) fun mask_4 =>
      some (.inl (best_3, least_3, mask_4, m_3))
    else
      grd (InR (mask_2 + 1)) <|
      ltv (mask_2 + 1) fun mask_3 =>
      some (.inl (best_2, least_2, mask_3, m_3))
  else
    some (.inr (best_2, least_2, mask_2, m_2))
noncomputable def M_bestWaits (day_ : Int) (m : Mem) : Option (Int × Mem) :=
  bq2 (M_isNoDay day_ 1 m) fun r_ m_ =>
  if ¬ r_ = 0 then
    some (0, m_)
  else
    ltv (0 : Int) fun best_ =>
    ltv (1000000 : Int) fun least_ =>
    ltv (0 : Int) fun mask_ =>
    bq4 (loop (fun s => M_bestWaits_b1 day_ s.1 s.2.1 s.2.2.1 s.2.2.2) (best_, least_, mask_, m_)) fun best_4 least_4 mask_5 m_4 =>
    some (best_4, m_4)
def rm_X12_bestWaits : Room := { frames := 3, cells := 0, slots := 0, locals := 74 }
noncomputable def M_tellAll_b2 (a_2 : Int) (b_2 : Int) (m_3 : Mem) : Option ((Int × Mem) ⊕ (Int × Mem)) :=
  if b_2 < m_3 0 1 then
    grd (InR (12 * a_2) ∧ InR (12 * a_2 + b_2) ∧ 0 ≤ 12 * a_2 + b_2 ∧ 12 * a_2 + b_2 < 144) <|
    (M_at b_2 m_3).bind fun r_2 =>
    ltv (setM m_3 30 (12 * a_2 + b_2).toNat r_2) fun m_4 =>
    grd (InR (b_2 + 1)) <|
    ltv (b_2 + 1) fun b_3 =>
    some (.inl (b_3, m_4))
  else
    some (.inr (b_2, m_3))
noncomputable def M_tellAll_b1 (day_ : Int) (minute_ : Int) (a_2 : Int) (m_ : Mem) : Option ((Int × Mem) ⊕ (Int × Mem)) :=
  if a_2 < m_ 0 1 then
    bq2 (M_earliestOf a_2 a_2 day_ minute_ m_) fun r_ m_2 =>
    ltv (r_ : Int) fun time_ =>
    ltv (0 : Int) fun b_ =>
    bq2 (loop (fun s => M_tellAll_b2 a_2 s.1 s.2) (b_, m_2)) fun b_4 m_5 =>
    grd (InR (a_2 + 1)) <|
    ltv (a_2 + 1) fun a_3 =>
    some (.inl (a_3, m_5))
  else
    some (.inr (a_2, m_))
noncomputable def M_tellAll (day_ : Int) (minute_ : Int) (m : Mem) : Option Mem :=
  ltv (0 : Int) fun a_ =>
  bq2 (loop (fun s => M_tellAll_b1 day_ minute_ s.1 s.2) (a_, m)) fun a_4 m_6 =>
  some m_6
def rm_X12_tellAll : Room := { frames := 6, cells := 0, slots := 0, locals := 140 }
noncomputable def M_lostBy_b2 (stop_ : Int) (day_ : Int) (a_2 : Int) (many_3 : Int) (b_2 : Int) (m_5 : Mem) : Option ((Int × Int × Mem) ⊕ (Int × Int × Mem)) :=
  if b_2 < m_5 0 1 then
    grd (((((¬ a_2 = b_2) ∧ (¬ a_2 = stop_)) ∧ (¬ b_2 = stop_)) → InR (12 * a_2)) ∧ ((((¬ a_2 = b_2) ∧ (¬ a_2 = stop_)) ∧ (¬ b_2 = stop_)) → InR (12 * a_2 + b_2)) ∧ ((((¬ a_2 = b_2) ∧ (¬ a_2 = stop_)) ∧ (¬ b_2 = stop_)) → 0 ≤ 12 * a_2 + b_2) ∧ ((((¬ a_2 = b_2) ∧ (¬ a_2 = stop_)) ∧ (¬ b_2 = stop_)) → 12 * a_2 + b_2 < 144)) <|
    if (((¬ a_2 = b_2) ∧ (¬ a_2 = stop_)) ∧ (¬ b_2 = stop_)) ∧ (m_5 30 (12 * a_2 + b_2).toNat < 1000000) then
      bq2 (M_earliestOf a_2 b_2 day_ 0 m_5) fun r_ m_6 =>
      if 1000000 ≤ r_ then
        grd (InR (many_3 + 1)) <|
        ltv (many_3 + 1) fun many_4 =>
        grd (InR (b_2 + 1)) <|
        ltv (b_2 + 1) fun b_5 =>
        some (.inl (many_4, b_5, m_6))
      else
        grd (InR (b_2 + 1)) <|
        ltv (b_2 + 1) fun b_4 =>
        some (.inl (many_3, b_4, m_6))
    else
      grd (InR (b_2 + 1)) <|
      ltv (b_2 + 1) fun b_3 =>
      some (.inl (many_3, b_3, m_5))
  else
    some (.inr (many_3, b_2, m_5))
noncomputable def M_lostBy_b1 (stop_ : Int) (day_ : Int) (many_2 : Int) (a_2 : Int) (m_4 : Mem) : Option ((Int × Int × Mem) ⊕ (Int × Int × Mem)) :=
  if a_2 < m_4 0 1 then
    ltv (0 : Int) fun b_ =>
    bq3 (loop (fun s => M_lostBy_b2 stop_ day_ a_2 s.1 s.2.1 s.2.2) (many_2, b_, m_4)) fun many_5 b_6 m_7 =>
    grd (InR (a_2 + 1)) <|
    ltv (a_2 + 1) fun a_3 =>
    some (.inl (many_5, a_3, m_7))
  else
    some (.inr (many_2, a_2, m_4))
noncomputable def M_lostBy (stop_ : Int) (day_ : Int) (m : Mem) : Option (Int × Mem) :=
  (M_tellAll day_ 0 m).bind fun m_ =>
  ltv (setM m_ 0 5 stop_) fun m_2 =>
  (M_walks m_2).bind fun m_3 =>
  ltv (0 : Int) fun many_ =>
  ltv (0 : Int) fun a_ =>
  bq3 (loop (fun s => M_lostBy_b1 stop_ day_ s.1 s.2.1 s.2.2) (many_, a_, m_3)) fun many_6 a_4 m_8 =>
  ltv (setM m_8 0 5 (-1)) fun m_9 =>
  (M_walks m_9).bind fun m_10 =>
  some (many_6, m_10)
def rm_X12_lostBy : Room := { frames := 7, cells := 0, slots := 0, locals := 165 }
noncomputable def M_lost (stop_ : Int) (day_ : Int) (m : Mem) : Option (Int × Mem) :=
  bq2 (M_isNoStop stop_ m) fun r_ m_ =>
  if ¬ r_ = 0 then
    some (0, m_)
  else
    bq2 (M_isNoDay day_ 2 m_) fun r_2 m_2 =>
    if ¬ r_2 = 0 then
      some (0, m_2)
    else
      bq2 (M_lostBy stop_ day_ m_2) fun r_3 m_3 =>
      some (r_3, m_3)
def rm_X12_lost : Room := { frames := 8, cells := 0, slots := 0, locals := 190 }
noncomputable def M_bridges_b1 (day_ : Int) (set_2 : Int) (v_2 : Int) (m_2 : Mem) : Option ((Int × Int × Mem) ⊕ (Int × Int × Mem)) :=
  if v_2 < m_2 0 1 then
    ltv (fun (v_3 : Int) (m_3 : Mem) =>
    ltv (jior set_2 v_3 : Int) fun set_3 =>
    grd (InR (v_2 + 1)) <|
    ltv (v_2 + 1) fun v_4 =>
    some (.inl (set_3, v_4, m_3))) fun kj_ =>
    bq2 (M_lostBy v_2 day_ m_2) fun r_2 m_4 =>
    if 0 < r_2 then
      kj_ (jishl 1 v_2) m_4
    else
      kj_ 0 m_4
  else
    some (.inr (set_2, v_2, m_2))
noncomputable def M_bridges (day_ : Int) (m : Mem) : Option (Int × Mem) :=
  bq2 (M_isNoDay day_ 1 m) fun r_ m_ =>
  if ¬ r_ = 0 then
    some (0, m_)
  else
    ltv (0 : Int) fun set_ =>
    ltv (0 : Int) fun v_ =>
    bq3 (loop (fun s => M_bridges_b1 day_ s.1 s.2.1 s.2.2) (set_, v_, m_)) fun set_4 v_5 m_5 =>
    some (set_4, m_5)
def rm_X12_bridges : Room := { frames := 8, cells := 0, slots := 0, locals := 190 }
noncomputable def M_endStop (trip_ : Int) (m : Mem) : Option Int :=
  grd (InR (8 * trip_) ∧ 0 ≤ trip_ ∧ trip_ < 24 ∧ InR (8 * trip_ + m 6 trip_.toNat) ∧ InR (8 * trip_ + m 6 trip_.toNat - 1) ∧ 0 ≤ 8 * trip_ + m 6 trip_.toNat - 1 ∧ 8 * trip_ + m 6 trip_.toNat - 1 < 192) <|
  some (m 7 (8 * trip_ + m 6 trip_.toNat - 1).toNat)
def rm_X12_endStop : Room := { frames := 0, cells := 0, slots := 0, locals := 0 }
noncomputable def M_put_b1 (sorted_ : Nat) (time_ : Int) (at_2 : Int) (m_ : Mem) : Option ((Int × Mem) ⊕ (Int × Mem)) :=
  grd (((0 < at_2) → InR (at_2 - 1)) ∧ ((0 < at_2) → 0 ≤ at_2 - 1) ∧ ((0 < at_2) → at_2 - 1 < alen SHM sorted_)) <|
  if (0 < at_2) ∧ (time_ < m_ sorted_ (at_2 - 1).toNat) then
    grd (0 ≤ at_2 ∧ at_2 < alen SHM sorted_ ∧ InR (at_2 - 1) ∧ 0 ≤ at_2 - 1 ∧ at_2 - 1 < alen SHM sorted_) <|
    ltv (setM m_ sorted_ at_2.toNat (m_ sorted_ (at_2 - 1).toNat)) fun m_2 =>
    ltv (at_2 - 1) fun at_3 =>
    some (.inl (at_3, m_2))
  else
    some (.inr (at_2, m_))
noncomputable def M_put (sorted_ : Nat) (many_ : Int) (time_ : Int) (m : Mem) : Option (Int × Mem) :=
  ltv (many_ : Int) fun at_ =>
  bq2 (loop (fun s => M_put_b1 sorted_ time_ s.1 s.2) (at_, m)) fun at_4 m_3 =>
  grd (0 ≤ at_4 ∧ at_4 < alen SHM sorted_) <|
  ltv (setM m_3 sorted_ at_4.toNat time_) fun m_4 =>
  grd (InR (many_ + 1)) <|
  some (many_ + 1, m_4)
def rm_X12_put : Room := { frames := 0, cells := 0, slots := 0, locals := 0 }
noncomputable def M_vehicles_b2 (day_ : Int) (v_2 : Int) (begin_2 : Int) (end_2 : Int) (t_2 : Int) (m_3 : Mem) : Option ((Int × Int × Int × Mem) ⊕ (Int × Int × Int × Mem)) :=
  if t_2 < m_3 0 8 then
    (M_runs t_2 day_ m_3).bind fun r_2 =>
    if ¬ r_2 = 0 then
      grd (InR (8 * t_2) ∧ 0 ≤ 8 * t_2 ∧ 8 * t_2 < 192) <|
      ltv (fun (v_3 : Int) (m_4 : Mem) =>
      ltv (v_3 : Int) fun begin_3 =>
      ltv (fun (v_4 : Int) (m_6 : Mem) =>
      ltv (v_4 : Int) fun end_3 =>
      grd (InR (t_2 + 1)) <|
      ltv (t_2 + 1) fun t_4 =>
      some (.inl (begin_3, end_3, t_4, m_6))) fun kj_2 =>
      (M_endStop t_2 m_4).bind fun r_4 =>
      if r_4 = v_2 then
        grd (InR (8 * t_2) ∧ 0 ≤ t_2 ∧ t_2 < 24 ∧ InR (8 * t_2 + m_4 6 t_2.toNat) ∧ InR (8 * t_2 + m_4 6 t_2.toNat - 1) ∧ 0 ≤ 8 * t_2 + m_4 6 t_2.toNat - 1 ∧ 8 * t_2 + m_4 6 t_2.toNat - 1 < 192) <|
        bq2 (M_put 32 end_2 (m_4 8 (8 * t_2 + m_4 6 t_2.toNat - 1).toNat) m_4) fun r_5 m_7 =>
        kj_2 r_5 m_7
      else
        kj_2 end_2 m_4) fun kj_ =>
      if m_3 7 (8 * t_2).toNat = v_2 then
        bq2 (M_put 33 begin_2 (m_3 9 (8 * t_2).toNat) m_3) fun r_3 m_5 =>
        kj_ r_3 m_5
      else
        kj_ begin_2 m_3
    else
      grd (InR (t_2 + 1)) <|
      ltv (t_2 + 1) fun t_3 =>
      some (.inl (begin_2, end_2, t_3, m_3))
  else
    some (.inr (begin_2, end_2, t_2, m_3))
noncomputable def M_vehicles_b3 (begin_4 : Int) (end_4 : Int) (m_8 : Mem) (many_3 : Int) (next_2 : Int) (k_2 : Int) : Option ((Int × Int × Int) ⊕ (Int × Int × Int)) :=
  if k_2 < begin_4 then
    grd (((next_2 < end_4) → 0 ≤ next_2) ∧ ((next_2 < end_4) → next_2 < 24) ∧ ((next_2 < end_4) → InR (m_8 32 next_2.toNat + 5)) ∧ ((next_2 < end_4) → 0 ≤ k_2) ∧ ((next_2 < end_4) → k_2 < 24)) <|
    if (next_2 < end_4) ∧ (m_8 32 next_2.toNat + 5 ≤ m_8 33 k_2.toNat) then
      grd (InR (next_2 + 1)) <|
      ltv (next_2 + 1) fun next_3 =>
      grd (InR (k_2 + 1)) <|
      ltv (k_2 + 1) fun k_4 =>
      some (.inl (many_3, next_3, k_4))
    else
      grd (InR (many_3 + 1)) <|
      ltv (many_3 + 1) fun many_4 =>
      grd (InR (k_2 + 1)) <|
      ltv (k_2 + 1) fun k_3 =>
      some (.inl (many_4, next_2, k_3))
  else
    some (.inr (many_3, next_2, k_2))
noncomputable def M_vehicles_b1 (day_ : Int) (many_2 : Int) (v_2 : Int) (m_2 : Mem) : Option ((Int × Int × Mem) ⊕ (Int × Int × Mem)) :=
  if v_2 < m_2 0 1 then
    ltv (0 : Int) fun begin_ =>
    ltv (0 : Int) fun end_ =>
    ltv (0 : Int) fun t_ =>
    bq4 (loop (fun s => M_vehicles_b2 day_ v_2 s.1 s.2.1 s.2.2.1 s.2.2.2) (begin_, end_, t_, m_2)) fun begin_4 end_4 t_5 m_8 =>
    ltv (0 : Int) fun next_ =>
    ltv (0 : Int) fun k_ =>
    bq3 (loop (fun s => M_vehicles_b3 begin_4 end_4 m_8 s.1 s.2.1 s.2.2) (many_2, next_, k_)) fun many_5 next_4 k_5 =>
    grd (InR (v_2 + 1)) <|
    ltv (v_2 + 1) fun v_5 =>
    some (.inl (many_5, v_5, m_8))
  else
    some (.inr (many_2, v_2, m_2))
noncomputable def M_vehicles (day_ : Int) (m : Mem) : Option (Int × Mem) :=
  bq2 (M_isNoDay day_ 1 m) fun r_ m_ =>
  if ¬ r_ = 0 then
    some (0, m_)
  else
    ltv (0 : Int) fun many_ =>
    ltv (0 : Int) fun v_ =>
    bq3 (loop (fun s => M_vehicles_b1 day_ s.1 s.2.1 s.2.2) (many_, v_, m_)) fun many_6 v_6 m_9 =>
    some (many_6, m_9)
def rm_X12_vehicles : Room := { frames := 2, cells := 0, slots := 0, locals := 44 }
noncomputable def M_vehiclesByMatching (day_ : Int) (m : Mem) : Option (Int × Mem) :=
  bq2 (M_vehicles day_ m) fun r_ m_ =>
  some (r_, m_)
def rm_X12_vehiclesByMatching : Room := { frames := 3, cells := 0, slots := 0, locals := 71 }
noncomputable def M_other_b2 (isGain_ : Int) (a_2 : Int) (m_6 : Mem) (many_3 : Int) (b_2 : Int) : Option ((Int × Int) ⊕ (Int × Int)) :=
  if b_2 < m_6 0 1 then
    grd (InR (12 * a_2) ∧ InR (12 * a_2 + b_2) ∧ 0 ≤ 12 * a_2 + b_2 ∧ 12 * a_2 + b_2 < 144) <|
    ltv (m_6 30 (12 * a_2 + b_2).toNat : Int) fun had_ =>
    ltv (fun (v_2 : Int) =>
    grd (InR (many_3 + v_2)) <|
    ltv (many_3 + v_2 : Int) fun many_4 =>
    grd (InR (b_2 + 1)) <|
    ltv (b_2 + 1) fun b_3 =>
    some (.inl (many_4, b_3))) fun kj_2 =>
    if ¬ a_2 = b_2 then
      if ¬ isGain_ = 0 then
        (M_at b_2 m_6).bind fun r_6 =>
        if r_6 < had_ then
          kj_2 1
        else
          kj_2 0
      else
        (M_at b_2 m_6).bind fun r_5 =>
        if had_ < r_5 then
          kj_2 1
        else
          kj_2 0
    else
      kj_2 0
  else
    some (.inr (many_3, b_2))
noncomputable def M_other_b1 (day_ : Int) (minute_ : Int) (isGain_ : Int) (many_2 : Int) (a_2 : Int) (m_5 : Mem) : Option ((Int × Int × Mem) ⊕ (Int × Int × Mem)) :=
  if a_2 < m_5 0 1 then
    bq2 (M_earliestOf a_2 a_2 day_ minute_ m_5) fun r_4 m_6 =>
    ltv (r_4 : Int) fun time_ =>
    ltv (0 : Int) fun b_ =>
    bq2 (loop (fun s => M_other_b2 isGain_ a_2 m_6 s.1 s.2) (many_2, b_)) fun many_5 b_4 =>
    grd (InR (a_2 + 1)) <|
    ltv (a_2 + 1) fun a_3 =>
    some (.inl (many_5, a_3, m_6))
  else
    some (.inr (many_2, a_2, m_5))
noncomputable def M_other (trip_ : Int) (minutes_ : Int) (day_ : Int) (minute_ : Int) (isGain_ : Int) (m : Mem) : Option (Int × Mem) :=
  bq2 (M_isNoTrip trip_ m) fun r_ m_ =>
  if ¬ r_ = 0 then
    some (0, m_)
  else
    ltv (fun (v_ : Int) =>
    bq2 (M_isThrown v_ 2 m_) fun r_3 m_2 =>
    if ¬ r_3 = 0 then
      some (0, m_2)
    else
      (M_tellAll day_ minute_ m_2).bind fun m_3 =>
      (M_move trip_ minutes_ m_3).bind fun m_4 =>
      ltv (0 : Int) fun many_ =>
      ltv (0 : Int) fun a_ =>
      bq3 (loop (fun s => M_other_b1 day_ minute_ isGain_ s.1 s.2.1 s.2.2) (many_, a_, m_4)) fun many_6 a_4 m_7 =>
      grd (InR (-minutes_)) <|
      (M_move trip_ (-minutes_) m_7).bind fun m_8 =>
      some (many_6, m_8)) fun kj_ =>
    if ((M_isIn minutes_ (-60) 60 = 0) ∨ (M_isIn day_ 0 27 = 0)) ∨ (M_isIn minute_ 0 1439 = 0) then
      kj_ 1
    else
      (M_isShiftWrong trip_ minutes_ m_).bind fun r_2 =>
      if ¬ r_2 = 0 then
        kj_ 1
      else
        kj_ 0
def rm_X12_other : Room := { frames := 7, cells := 0, slots := 0, locals := 165 }
noncomputable def M_gains (trip_ : Int) (minutes_ : Int) (day_ : Int) (minute_ : Int) (m : Mem) : Option (Int × Mem) :=
  bq2 (M_other trip_ minutes_ day_ minute_ 1 m) fun r_ m_ =>
  some (r_, m_)
def rm_X12_gains : Room := { frames := 8, cells := 0, slots := 0, locals := 195 }
noncomputable def M_loses (trip_ : Int) (minutes_ : Int) (day_ : Int) (minute_ : Int) (m : Mem) : Option (Int × Mem) :=
  bq2 (M_other trip_ minutes_ day_ minute_ 0 m) fun r_ m_ =>
  some (r_, m_)
def rm_X12_loses : Room := { frames := 8, cells := 0, slots := 0, locals := 195 }
noncomputable def M_reachShare_b2 (m_3 : Mem) (a_2 : Int) (many_3 : Int) (b_2 : Int) : Option ((Int × Int) ⊕ (Int × Int)) :=
  if b_2 < m_3 0 1 then
    grd (((¬ a_2 = b_2) → InR (12 * a_2)) ∧ ((¬ a_2 = b_2) → InR (12 * a_2 + b_2)) ∧ ((¬ a_2 = b_2) → 0 ≤ 12 * a_2 + b_2) ∧ ((¬ a_2 = b_2) → 12 * a_2 + b_2 < 144) ∧ (InR (many_3 + (if (¬ a_2 = b_2) ∧ (m_3 30 (12 * a_2 + b_2).toNat < 1000000) then 1 else 0)))) <|
    ltv (many_3 + (if (¬ a_2 = b_2) ∧ (m_3 30 (12 * a_2 + b_2).toNat < 1000000) then 1 else 0) : Int) fun many_4 =>
    grd (InR (b_2 + 1)) <|
    ltv (b_2 + 1) fun b_3 =>
    some (.inl (many_4, b_3))
  else
    some (.inr (many_3, b_2))
noncomputable def M_reachShare_b1 (m_3 : Mem) (many_2 : Int) (a_2 : Int) : Option ((Int × Int) ⊕ (Int × Int)) :=
  if a_2 < m_3 0 1 then
    ltv (0 : Int) fun b_ =>
    bq2 (loop (fun s => M_reachShare_b2 m_3 a_2 s.1 s.2) (many_2, b_)) fun many_5 b_4 =>
    grd (InR (a_2 + 1)) <|
    ltv (a_2 + 1) fun a_3 =>
    some (.inl (many_5, a_3))
  else
    some (.inr (many_2, a_2))
noncomputable def M_reachShare (day_ : Int) (m : Mem) : Option (UInt32 × Mem) :=
  bq2 (M_isNoDay day_ 1 m) fun r_ m_ =>
  if ¬ r_ = 0 then
    some (FP.fconst0, m_)
  else
    bq2 (M_isThrown (if m_ 0 1 < 2 then 1 else 0) 2 m_) fun r_2 m_2 =>
    if ¬ r_2 = 0 then
      some (FP.fconst0, m_2)
    else
      (M_tellAll day_ 0 m_2).bind fun m_3 =>
      ltv (0 : Int) fun many_ =>
      ltv (0 : Int) fun a_ =>
      bq2 (loop (fun s => M_reachShare_b1 m_3 s.1 s.2) (many_, a_)) fun many_6 a_4 =>
      grd (InR (m_3 0 1 - 1) ∧ InR ((m_3 0 1) * (m_3 0 1 - 1)) ∧ vf_n32 (FP.fdiv (FP.i2f (i32 many_6)) (FP.i2f (i32 ((m_3 0 1) * (m_3 0 1 - 1)))))) <|
      some (FP.fdiv (FP.i2f (i32 many_6)) (FP.i2f (i32 ((m_3 0 1) * (m_3 0 1 - 1)))), m_3)
def rm_X12_reachShare : Room := { frames := 7, cells := 0, slots := 0, locals := 165 }
noncomputable def M_meanBetween_b2 (m : Mem) (t_2 : Int) (many_3 : Int) (sum_3 : Int) (c_2 : Int) : Option ((Int × Int × Int) ⊕ (Int × Int × Int)) :=
  grd (0 ≤ t_2 ∧ t_2 < 24) <|
  if c_2 < m 6 t_2.toNat then
    grd (InR (8 * t_2) ∧ InR (8 * t_2 + c_2) ∧ 0 ≤ 8 * t_2 + c_2 ∧ 8 * t_2 + c_2 < 192 ∧ InR (8 * t_2 + c_2 - 1) ∧ 0 ≤ 8 * t_2 + c_2 - 1 ∧ 8 * t_2 + c_2 - 1 < 192 ∧ InR (m 8 (8 * t_2 + c_2).toNat - (m 9 (8 * t_2 + c_2 - 1).toNat)) ∧ InR (sum_3 + (m 8 (8 * t_2 + c_2).toNat - (m 9 (8 * t_2 + c_2 - 1).toNat)))) <|
    ltv (sum_3 + (m 8 (8 * t_2 + c_2).toNat - (m 9 (8 * t_2 + c_2 - 1).toNat)) : Int) fun sum_4 =>
    grd (InR (many_3 + 1)) <|
    ltv (many_3 + 1) fun many_4 =>
    grd (InR (c_2 + 1)) <|
    ltv (c_2 + 1) fun c_3 =>
    some (.inl (many_4, sum_4, c_3))
  else
    some (.inr (many_3, sum_3, c_2))
noncomputable def M_meanBetween_b1 (m : Mem) (many_2 : Int) (sum_2 : Int) (t_2 : Int) : Option ((Int × Int × Int) ⊕ (Int × Int × Int)) :=
  if t_2 < m 0 8 then
    ltv (1 : Int) fun c_ =>
    bq3 (loop (fun s => M_meanBetween_b2 m t_2 s.1 s.2.1 s.2.2) (many_2, sum_2, c_)) fun many_5 sum_5 c_4 =>
    grd (InR (t_2 + 1)) <|
    ltv (t_2 + 1) fun t_3 =>
    some (.inl (many_5, sum_5, t_3))
  else
    some (.inr (many_2, sum_2, t_2))
noncomputable def M_meanBetween  (m : Mem) : Option (UInt64 × Mem) :=
  ltv (0 : Int) fun many_ =>
  ltv (0 : Int) fun sum_ =>
  ltv (0 : Int) fun t_ =>
  bq3 (loop (fun s => M_meanBetween_b1 m s.1 s.2.1 s.2.2) (many_, sum_, t_)) fun many_6 sum_6 t_4 =>
  bq2 (M_isThrown (if many_6 = 0 then 1 else 0) 1 m) fun r_ m_ =>
  if ¬ r_ = 0 then
    some (FP.dconst0, m_)
  else
    grd (vf_n64 (FP.ddiv (FP.i2d (i32 sum_6)) (FP.i2d (i32 many_6)))) <|
    some (FP.ddiv (FP.i2d (i32 sum_6)) (FP.i2d (i32 many_6)), m_)
def rm_X12_meanBetween : Room := { frames := 1, cells := 0, slots := 0, locals := 22 }
noncomputable def M_checksum_b1 (m_ : Mem) (sum_2 : Int64) (v_2 : Int) : Option ((Int64 × Int) ⊕ (Int64 × Int)) :=
  if v_2 < m_ 0 1 then
    grd (0 ≤ v_2 ∧ v_2 < 12) <|
    ltv ((31 * sum_2) + (Int64.ofInt (m_ 1 v_2.toNat)) : Int64) fun sum_3 =>
    grd (InR (v_2 + 1)) <|
    ltv (v_2 + 1) fun v_3 =>
    some (.inl (sum_3, v_3))
  else
    some (.inr (sum_2, v_2))
noncomputable def M_checksum_b3 (m_ : Mem) (t_2 : Int) (sum_7 : Int64) (c_2 : Int) : Option ((Int64 × Int) ⊕ (Int64 × Int)) :=
  grd (0 ≤ t_2 ∧ t_2 < 24) <|
  if c_2 < m_ 6 t_2.toNat then
    grd (InR (8 * t_2) ∧ InR (8 * t_2 + c_2) ∧ 0 ≤ 8 * t_2 + c_2 ∧ 8 * t_2 + c_2 < 192) <|
    ltv ((31 * sum_7) + (Int64.ofInt (m_ 7 (8 * t_2 + c_2).toNat)) : Int64) fun sum_8 =>
    ltv ((31 * sum_8) + (Int64.ofInt (m_ 8 (8 * t_2 + c_2).toNat)) : Int64) fun sum_9 =>
    ltv ((31 * sum_9) + (Int64.ofInt (m_ 9 (8 * t_2 + c_2).toNat)) : Int64) fun sum_10 =>
    grd (InR (c_2 + 1)) <|
    ltv (c_2 + 1) fun c_3 =>
    some (.inl (sum_10, c_3))
  else
    some (.inr (sum_7, c_2))
noncomputable def M_checksum_b2 (m_ : Mem) (sum_5 : Int64) (t_2 : Int) : Option ((Int64 × Int) ⊕ (Int64 × Int)) :=
  if t_2 < m_ 0 8 then
    grd (0 ≤ t_2 ∧ t_2 < 24) <|
    ltv ((31 * sum_5) + (Int64.ofInt (m_ 5 t_2.toNat)) : Int64) fun sum_6 =>
    ltv (0 : Int) fun c_ =>
    bq2 (loop (fun s => M_checksum_b3 m_ t_2 s.1 s.2) (sum_6, c_)) fun sum_11 c_4 =>
    grd (InR (t_2 + 1)) <|
    ltv (t_2 + 1) fun t_3 =>
    some (.inl (sum_11, t_3))
  else
    some (.inr (sum_5, t_2))
noncomputable def M_checksum_b5 (m_ : Mem) (s_2 : Int) (sum_14 : Int64) (d_2 : Int) : Option ((Int64 × Int) ⊕ (Int64 × Int)) :=
  if d_2 < 28 then
    grd (InR (28 * s_2) ∧ InR (28 * s_2 + d_2) ∧ 0 ≤ 28 * s_2 + d_2 ∧ 28 * s_2 + d_2 < 168) <|
    ltv ((31 * sum_14) + (Int64.ofInt (if ¬ m_ 4 (28 * s_2 + d_2).toNat = 0 then 1 else 0)) : Int64) fun sum_15 =>
    grd (InR (d_2 + 1)) <|
    ltv (d_2 + 1) fun d_3 =>
    some (.inl (sum_15, d_3))
  else
    some (.inr (sum_14, d_2))
noncomputable def M_checksum_b4 (m_ : Mem) (sum_13 : Int64) (s_2 : Int) : Option ((Int64 × Int) ⊕ (Int64 × Int)) :=
  if s_2 < m_ 0 6 then
    ltv (0 : Int) fun d_ =>
    bq2 (loop (fun s => M_checksum_b5 m_ s_2 s.1 s.2) (sum_13, d_)) fun sum_16 d_4 =>
    grd (InR (s_2 + 1)) <|
    ltv (s_2 + 1) fun s_3 =>
    some (.inl (sum_16, s_3))
  else
    some (.inr (sum_13, s_2))
noncomputable def M_checksum  (m : Mem) : Option (Int64 × Mem) :=
  ltv (setM m 0 0 0) fun m_ =>
  ltv (7 : Int64) fun sum_ =>
  ltv (0 : Int) fun v_ =>
  bq2 (loop (fun s => M_checksum_b1 m_ s.1 s.2) (sum_, v_)) fun sum_4 v_4 =>
  ltv (0 : Int) fun t_ =>
  bq2 (loop (fun s => M_checksum_b2 m_ s.1 s.2) (sum_4, t_)) fun sum_12 t_4 =>
  ltv (0 : Int) fun s_ =>
  bq2 (loop (fun s => M_checksum_b4 m_ s.1 s.2) (sum_12, s_)) fun sum_17 s_4 =>
  some ((31 * sum_17) + (Int64.ofInt (m_ 0 19)), m_)
def rm_X12_checksum : Room := { frames := 0, cells := 0, slots := 0, locals := 0 }
noncomputable def M_isSound (day_ : Int) (m : Mem) : Option (Int × Mem) :=
  bq2 (M_isNoDay day_ 1 m) fun r_ m_ =>
  if ¬ r_ = 0 then
    some (0, m_)
  else
    some (1, m_)
def rm_X12_isSound : Room := { frames := 2, cells := 0, slots := 0, locals := 44 }
