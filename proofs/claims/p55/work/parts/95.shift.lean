/-! ===== shift, gains, loses ===== -/
theorem jior_01 {a b : Int} (ha : a = 0 ∨ a = 1) (hb : b = 0 ∨ b = 1) : (jior a b = 0 ∨ jior a b = 1) ∧ (jior a b = 0 ↔ a = 0 ∧ b = 0) := by
  rcases ha with rfl | rfl <;> rcases hb with rfl | rfl <;> decide
section SHF
variable {mc mm m m0 : Mem} {day t : Int}
/-- the trip can be moved -/
def okS (mc : Mem) (tr : Nat) (mi : Int) : Prop := 0 ≤ mc (85 + tr) 0 + mi ∧ mc (85 + tr) (mc 33 tr - 1).toNat + mi ≤ 2879
theorem lv_chain {tr : Nat} (I : Inv mc mm) (h : (tr : Int) < mc 31 0) : ∀ c : Nat, (c : Int) < mc 33 tr → mc (85 + tr) 0 ≤ mc (60 + tr) c ∧ ∀ d : Nat, c ≤ d → (d : Int) < mc 33 tr → mc (85 + tr) c ≤ mc (85 + tr) d := by
  have q := I.2.2.1.2.2.2 tr h
  have cc := fun (c : Nat) (hc : (c : Int) < mc 33 tr) => (q.2.2.2.2.2.2 c hc)
  intro c
  induction c with
  | zero =>
    intro h0
    have a := cc 0 h0
    unfold ITc at a
    refine ⟨by omega, fun d => ?_⟩
    induction d with
    | zero => intro _ _; omega
    | succ d ih =>
      intro _ hd
      have b := cc d (by omega)
      have e := cc (d + 1) hd
      unfold ITc at b e
      have := ih (by omega) (by omega)
      omega
  | succ c ih =>
    intro h0
    have i := ih (by omega)
    have a := cc c (by omega)
    have b := cc (c + 1) h0
    unfold ITc at a b
    refine ⟨by omega, fun d => ?_⟩
    induction d with
    | zero => intro h _; omega
    | succ d ih2 =>
      intro h1 hd
      by_cases hh : c + 1 = d + 1
      · rw [hh]; omega
      · have e := cc d (by omega)
        have e2 := cc (d + 1) hd
        unfold ITc at e e2
        have := ih2 (by omega) (by omega)
        omega
theorem needShift_ok {tr : Nat} {mi : Int} {P : (Unit ⊕ Nat) × Mem → Prop} (I : Inv mc mm) (h : (tr : Int) < mc 31 0) (p1 : ¬ (-60 ≤ mi ∧ mi ≤ 60 ∧ okS mc tr mi) → P (.inr 0, mc)) (p2 : -60 ≤ mi → mi ≤ 60 → okS mc tr mi → P (.inl (), mc)) : Ok (C_needShift tr mi mc) P := by
  have q := I.2.2.1.2.2.2 tr h
  have t24 := I.2.2.1.2.2.1
  have c0 := q.2.2.2.2.2.2 0 (by omega)
  have cl := q.2.2.2.2.2.2 (mc 33 tr - 1).toNat (by omega)
  have ch := (lv_chain I h 0 (by omega)).2 (mc 33 tr - 1).toNat (by omega) (by omega)
  unfold ITc at c0 cl
  unfold okS at p1 p2
  unfold C_needShift
  rw [Int.toNat_natCast]
  refine wp_bind (wp_needNumber (fun w => ok_tbd_inr (p1 (by omega))) (fun w1 w2 => ok_tbd_inl (ok_grd (by unfold InR; omega) (wp_bind (wp_needNumber (fun w => ok_tbd_inr (p1 (by omega))) (fun w3 w4 => ok_tbd_inl (ok_grd (by unfold InR; omega) (wp_bind (wp_needNumber (fun w => ok_tbd_inr (p1 (by omega))) (fun w5 w6 => ok_tbd_inl (ok_some (p2 (by omega) (by omega) (by omega)))))))))))))
theorem shiftWrong_ok {tr : Nat} {mi : Int} (I : Inv mc mm) (h : (tr : Int) < mc 31 0) (hm : -60 ≤ mi ∧ mi ≤ 60) : Ok (M_isShiftWrong tr mi mm) (fun z => (z = 0 ∧ okS mc tr mi) ∨ (z = 1 ∧ ¬ okS mc tr mi)) := by
  have q := I.2.2.1.2.2.2 tr h
  have t24 := I.2.2.1.2.2.1
  have cc := fun (c : Nat) (hc : (c : Int) < mc 33 tr) => (q.2.2.2.2.2.2 c hc)
  have len : mc 33 tr = ((mc 33 tr).toNat : Int) := by omega
  unfold M_isShiftWrong
  rw [if_neg (by rw [isIn0]; omega)]
  refine ok_ltv (ok_ltv (ok_bq2 (Q := fun x => (x.1 = 0 ∨ x.1 = 1) ∧ (x.1 = 0 ↔ ∀ c : Nat, (c : Int) < mc 33 tr → 0 ≤ mc (60 + tr) c + mi ∧ mc (85 + tr) c + mi ≤ 2879)) ?_ (fun z _ hz => ok_grd hz.1 (ok_some ?_))))
  · refine ok_loop (fun x => ∃ k : Nat, x.2 = k ∧ (k : Int) ≤ mc 33 tr ∧ (x.1 = 0 ∨ x.1 = 1) ∧ (x.1 = 0 ↔ ∀ c : Nat, c < k → 0 ≤ mc (60 + tr) c + mi ∧ mc (85 + tr) c + mi ≤ 2879)) (fun x => 9 - x.2.toNat) ⟨0, rfl, by omega, Or.inl rfl, fun _ c hc => by omega, fun _ => rfl⟩ ?_
    rintro ⟨x, y⟩ ⟨k, e1, e2, e3, e4⟩
    dsimp only at e1 e3 e4 ⊢
    subst e1
    unfold M_isShiftWrong_b1
    have ix : (8 * (tr : Int) + (k : Int)).toNat = 8 * tr + k := by omega
    rw [Int.toNat_natCast, q.2.2.2.1, ix]
    refine ok_grd (by omega) (ok_ite (fun hk => ?_) (fun hk => ok_some ⟨e3, e4.trans ⟨fun w c hc => w c (by omega), fun w c hc => w c (by omega)⟩⟩))
    have a := cc k hk
    unfold ITc at a
    rw [a.2.2.2.1, a.2.2.2.2.1]
    have jj := jior_01 e3 (b01 (P := (M_isIn (mc (60 + tr) k + mi) 0 2879 = 0) ∨ (M_isIn (mc (85 + tr) k + mi) 0 2879 = 0)))
    refine ok_grd (by unfold InR; omega) (ok_ltv (ok_grd (by unfold InR; omega) (ok_ltv (ok_some ⟨⟨k + 1, by dsimp only; omega, by omega, jj.1, ?_⟩, by dsimp only; omega⟩))))
    dsimp only
    rw [jj.2, e4, i01, isIn0, isIn0]
    constructor
    · rintro ⟨w1, w2⟩ c hc
      by_cases hh : c = k
      · rw [hh]; omega
      · exact w1 c (by omega)
    · intro w
      have := w k (by omega)
      exact ⟨fun c hc => w c (by omega), by omega⟩
  · dsimp only at hz
    have eq : okS mc tr mi ↔ ∀ c : Nat, (c : Int) < mc 33 tr → 0 ≤ mc (60 + tr) c + mi ∧ mc (85 + tr) c + mi ≤ 2879 := by
      unfold okS
      constructor
      · rintro ⟨w1, w2⟩ c hc
        have a := lv_chain I h c hc
        have b := a.2 (mc 33 tr - 1).toNat (by omega) (by omega)
        omega
      · intro w
        have a := w 0 (by omega)
        have b := w (mc 33 tr - 1).toNat (by omega)
        have c := cc 0 (by omega)
        unfold ITc at c
        omega
    rcases hz.1 with w | w
    · exact Or.inl ⟨w, eq.mpr (hz.2.mp w)⟩
    · refine Or.inr ⟨w, fun y => ?_⟩
      have := hz.2.mpr (eq.mp y)
      omega
/-- the moves -/
theorem moveC_ok {tr L : Nat} {mi : Int} (ht : tr < 24) (hL : m0 33 tr = L) (h8 : L ≤ 8) (hm : -60 ≤ mi ∧ mi ≤ 60) (hb : ∀ c : Nat, c < L → -3000 ≤ m0 (60 + tr) c ∧ m0 (60 + tr) c ≤ 3000 ∧ -3000 ≤ m0 (85 + tr) c ∧ m0 (85 + tr) c ≤ 3000) : Ok (C_Trips_move tr mi m0) (fun m => ∀ c i, m c i = if (c = 60 + tr ∨ c = 85 + tr) ∧ i < L then m0 c i + mi else m0 c i) := by
  unfold C_Trips_move
  refine ok_ltv (ok_bq2 (ok_for0 (n := L) (fun k m => ∀ c i, m c i = if (c = 60 + tr ∨ c = 85 + tr) ∧ i < k then m0 c i + mi else m0 c i) (fun c i => by rw [if_neg (by omega)]) ?_ ?_) (fun _ m h => ok_some h))
  · rintro k m hk f
    unfold C_Trips_move_b1
    simp only [Int.toNat_natCast]
    have e33 : m 33 tr = L := by rw [f, if_neg (by omega)]; exact hL
    have b := hb k hk
    have e60 : m (60 + tr) k = m0 (60 + tr) k := by rw [f, if_neg (by omega)]
    have e85 : m (85 + tr) k = m0 (85 + tr) k := by rw [f, if_neg (by omega)]
    rw [e33, e60]
    refine ok_grd (by omega) (ok_ite (fun _ => ok_grd (by unfold InR; omega) (ok_ltv ?_)) (fun h => by omega))
    rw [setM_ne (c' := 85 + tr) (by omega), e85]
    refine ok_grd (by unfold InR; omega) (ok_ltv (ok_grd (by unfold InR; omega) (ok_ltv (ok_some ⟨_, rfl, fun c i => ?_⟩))))
    by_cases hc : c = 85 + tr ∧ i = k
    · rw [setM_hit hc, if_pos (by omega), hc.1, hc.2]
    · rw [setM_ne hc]
      by_cases hc2 : c = 60 + tr ∧ i = k
      · rw [setM_hit hc2, if_pos (by omega), hc2.1, hc2.2]
      · rw [setM_ne hc2, f]
        by_cases hh : (c = 60 + tr ∨ c = 85 + tr) ∧ i < k
        · rw [if_pos hh, if_pos (by omega)]
        · rw [if_neg hh, if_neg (by omega)]
  · rintro m f
    unfold C_Trips_move_b1
    rw [Int.toNat_natCast, f 33 tr, if_neg (by omega), grd_pos (by omega)]
theorem moveM_ok {tr L : Nat} {mi : Int} (ht : tr < 24) (hL : m0 6 tr = L) (h8 : L ≤ 8) (hm : -60 ≤ mi ∧ mi ≤ 60) (hb : ∀ c : Nat, c < L → -3000 ≤ m0 8 (8 * tr + c) ∧ m0 8 (8 * tr + c) ≤ 3000 ∧ -3000 ≤ m0 9 (8 * tr + c) ∧ m0 9 (8 * tr + c) ≤ 3000) : Ok (M_move tr mi m0) (fun m => ∀ c i, m c i = if (c = 8 ∨ c = 9) ∧ 8 * tr ≤ i ∧ i < 8 * tr + L then m0 c i + mi else m0 c i) := by
  unfold M_move
  refine ok_ltv (ok_bq2 (ok_for0 (n := L) (fun k m => ∀ c i, m c i = if (c = 8 ∨ c = 9) ∧ 8 * tr ≤ i ∧ i < 8 * tr + k then m0 c i + mi else m0 c i) (fun c i => by rw [if_neg (by omega)]) ?_ ?_) (fun _ m h => ok_some h))
  · rintro k m hk f
    unfold M_move_b1
    have ix : (8 * (tr : Int) + (k : Int)).toNat = 8 * tr + k := by omega
    rw [Int.toNat_natCast, ix]
    have e33 : m 6 tr = L := by rw [f, if_neg (by omega)]; exact hL
    have b := hb k hk
    have e60 : m 8 (8 * tr + k) = m0 8 (8 * tr + k) := by rw [f, if_neg (by omega)]
    have e85 : m 9 (8 * tr + k) = m0 9 (8 * tr + k) := by rw [f, if_neg (by omega)]
    rw [e33, e60]
    refine ok_grd (by omega) (ok_ite (fun _ => ok_grd (by unfold InR; omega) (ok_ltv ?_)) (fun h => by omega))
    rw [setM_ne (c' := 9) (by omega), e85]
    refine ok_grd (by unfold InR; omega) (ok_ltv (ok_grd (by unfold InR; omega) (ok_ltv (ok_some ⟨_, rfl, fun c i => ?_⟩))))
    by_cases hc : c = 9 ∧ i = 8 * tr + k
    · rw [setM_hit hc, if_pos (by omega), hc.1, hc.2]
    · rw [setM_ne hc]
      by_cases hc2 : c = 8 ∧ i = 8 * tr + k
      · rw [setM_hit hc2, if_pos (by omega), hc2.1, hc2.2]
      · rw [setM_ne hc2, f]
        by_cases hh : (c = 8 ∨ c = 9) ∧ 8 * tr ≤ i ∧ i < 8 * tr + k
        · rw [if_pos hh, if_pos (by omega)]
        · rw [if_neg hh, if_neg (by omega)]
  · rintro m f
    unfold M_move_b1
    rw [Int.toNat_natCast, f 6 tr, if_neg (by omega), grd_pos (by omega)]
theorem st_shift : ST_shift Inv := by
  intro mc mm p0 p1 I _ _
  obtain ⟨a, b, c, d, e, f, g⟩ := id I
  obtain ⟨t1, t2, t3, t4⟩ := id c
  refine ag_of ?_
  unfold C_shift
  by_cases hp : 0 ≤ p0 ∧ p0 < mc 31 0
  case neg =>
    repeat' (first
    | with_reducible refine ok_ltv ?_
    | with_reducible refine ok_tbd_inl ?_
    | with_reducible refine ok_tbd_inr ?_
    | with_reducible refine wp_bind ?_
    | with_reducible refine wp_bq1 ?_
    | with_reducible refine wp_bq2 ?_
    | (with_reducible refine wp_needNumber (fun _ => ?_) (fun _ _ => ?_)) <;> (try (exfalso; omega))
    | (with_reducible refine wp_needDay (fun _ => ?_) (fun _ _ => ?_)) <;> (try (exfalso; omega))
    | (with_reducible refine wp_needStop (fun _ => ?_) (fun _ _ => ?_)) <;> (try (exfalso; omega))
    | (with_reducible refine wp_needService (fun _ => ?_) (fun _ _ => ?_)) <;> (try (exfalso; omega))
    | (with_reducible refine wp_needTrip (fun _ => ?_) (fun _ _ => ?_)) <;> (try (exfalso; omega))
    | (with_reducible refine wp_needCall (by omega) (fun _ => ?_) (fun _ _ _ _ => ?_)) <;> (try (exfalso; omega))
    | (with_reducible refine wp_needUnlike (fun _ => ?_) (fun _ => ?_)) <;> (try (exfalso; omega))
    | (with_reducible refine wp_needFound (fun _ => ?_) (fun _ => ?_)) <;> (try (exfalso; omega))
    | (with_reducible refine wp_needRoomForTrip (fun _ => ?_) (fun _ => ?_)) <;> (try (exfalso; omega))
    | (with_reducible refine wp_needRoomForSigns (by unfold InR; omega) (fun _ => ?_) (fun _ => ?_)) <;> (try (exfalso; omega))
    | (with_reducible refine wp_isNoStop (by (try simp (disch := omega) only [setM_ne, setM_hit, true_and, and_true]); omega) (by (try simp (disch := omega) only [setM_ne, setM_hit, true_and, and_true]); omega) (fun h => ?_) (fun h1 h2 => ?_)) <;> (try simp (disch := omega) only [setM_ne, setM_hit, true_and, and_true] at h) <;> (try simp (disch := omega) only [setM_ne, setM_hit, true_and, and_true] at h1) <;> (try simp (disch := omega) only [setM_ne, setM_hit, true_and, and_true] at h2) <;> (try (exfalso; omega))
    | (with_reducible refine wp_isNoService (by (try simp (disch := omega) only [setM_ne, setM_hit, true_and, and_true]); omega) (by (try simp (disch := omega) only [setM_ne, setM_hit, true_and, and_true]); omega) (fun h => ?_) (fun h1 h2 => ?_)) <;> (try simp (disch := omega) only [setM_ne, setM_hit, true_and, and_true] at h) <;> (try simp (disch := omega) only [setM_ne, setM_hit, true_and, and_true] at h1) <;> (try simp (disch := omega) only [setM_ne, setM_hit, true_and, and_true] at h2) <;> (try (exfalso; omega))
    | (with_reducible refine wp_isNoTrip (by (try simp (disch := omega) only [setM_ne, setM_hit, true_and, and_true]); omega) (by (try simp (disch := omega) only [setM_ne, setM_hit, true_and, and_true]); omega) (fun h => ?_) (fun h1 h2 => ?_)) <;> (try simp (disch := omega) only [setM_ne, setM_hit, true_and, and_true] at h) <;> (try simp (disch := omega) only [setM_ne, setM_hit, true_and, and_true] at h1) <;> (try simp (disch := omega) only [setM_ne, setM_hit, true_and, and_true] at h2) <;> (try (exfalso; omega))
    | (with_reducible refine wp_isNoDay (fun h => ?_) (fun h1 h2 => ?_)) <;> (try (exfalso; omega))
    | with_reducible refine wp_isThrown1 ?_
    | with_reducible refine wp_isThrown0 ?_
    | (with_reducible refine wp_isThrownI (fun h => ?_) (fun h => ?_)) <;> (try simp (disch := omega) only [setM_ne, setM_hit, true_and, and_true] at h) <;> (try simp only [isIn0] at h) <;> (try (exfalso; omega))
    | with_reducible refine ok_grd (by (try simp (disch := omega) only [setM_ne, setM_hit, true_and, and_true]); (try unfold InR); omega) ?_
    | (with_reducible refine ok_some ?_) <;> (try dsimp only)
    | (with_reducible refine ok_ite (fun h => ?_) (fun h => ?_)) <;> (try dsimp only at h) <;> (try simp (disch := omega) only [setM_ne, setM_hit, true_and, and_true] at h) <;> (try simp only [isIn0, i01] at h) <;> (try (exfalso; first | exact h trivial | omega)))
    unfold M_shift
    repeat' (first
    | with_reducible refine ok_ltv ?_
    | with_reducible refine ok_tbd_inl ?_
    | with_reducible refine ok_tbd_inr ?_
    | with_reducible refine wp_bind ?_
    | with_reducible refine wp_bq1 ?_
    | with_reducible refine wp_bq2 ?_
    | (with_reducible refine wp_needNumber (fun _ => ?_) (fun _ _ => ?_)) <;> (try (exfalso; omega))
    | (with_reducible refine wp_needDay (fun _ => ?_) (fun _ _ => ?_)) <;> (try (exfalso; omega))
    | (with_reducible refine wp_needStop (fun _ => ?_) (fun _ _ => ?_)) <;> (try (exfalso; omega))
    | (with_reducible refine wp_needService (fun _ => ?_) (fun _ _ => ?_)) <;> (try (exfalso; omega))
    | (with_reducible refine wp_needTrip (fun _ => ?_) (fun _ _ => ?_)) <;> (try (exfalso; omega))
    | (with_reducible refine wp_needCall (by omega) (fun _ => ?_) (fun _ _ _ _ => ?_)) <;> (try (exfalso; omega))
    | (with_reducible refine wp_needUnlike (fun _ => ?_) (fun _ => ?_)) <;> (try (exfalso; omega))
    | (with_reducible refine wp_needFound (fun _ => ?_) (fun _ => ?_)) <;> (try (exfalso; omega))
    | (with_reducible refine wp_needRoomForTrip (fun _ => ?_) (fun _ => ?_)) <;> (try (exfalso; omega))
    | (with_reducible refine wp_needRoomForSigns (by unfold InR; omega) (fun _ => ?_) (fun _ => ?_)) <;> (try (exfalso; omega))
    | (with_reducible refine wp_isNoStop (by (try simp (disch := omega) only [setM_ne, setM_hit, true_and, and_true]); omega) (by (try simp (disch := omega) only [setM_ne, setM_hit, true_and, and_true]); omega) (fun h => ?_) (fun h1 h2 => ?_)) <;> (try simp (disch := omega) only [setM_ne, setM_hit, true_and, and_true] at h) <;> (try simp (disch := omega) only [setM_ne, setM_hit, true_and, and_true] at h1) <;> (try simp (disch := omega) only [setM_ne, setM_hit, true_and, and_true] at h2) <;> (try (exfalso; omega))
    | (with_reducible refine wp_isNoService (by (try simp (disch := omega) only [setM_ne, setM_hit, true_and, and_true]); omega) (by (try simp (disch := omega) only [setM_ne, setM_hit, true_and, and_true]); omega) (fun h => ?_) (fun h1 h2 => ?_)) <;> (try simp (disch := omega) only [setM_ne, setM_hit, true_and, and_true] at h) <;> (try simp (disch := omega) only [setM_ne, setM_hit, true_and, and_true] at h1) <;> (try simp (disch := omega) only [setM_ne, setM_hit, true_and, and_true] at h2) <;> (try (exfalso; omega))
    | (with_reducible refine wp_isNoTrip (by (try simp (disch := omega) only [setM_ne, setM_hit, true_and, and_true]); omega) (by (try simp (disch := omega) only [setM_ne, setM_hit, true_and, and_true]); omega) (fun h => ?_) (fun h1 h2 => ?_)) <;> (try simp (disch := omega) only [setM_ne, setM_hit, true_and, and_true] at h) <;> (try simp (disch := omega) only [setM_ne, setM_hit, true_and, and_true] at h1) <;> (try simp (disch := omega) only [setM_ne, setM_hit, true_and, and_true] at h2) <;> (try (exfalso; omega))
    | (with_reducible refine wp_isNoDay (fun h => ?_) (fun h1 h2 => ?_)) <;> (try (exfalso; omega))
    | with_reducible refine wp_isThrown1 ?_
    | with_reducible refine wp_isThrown0 ?_
    | (with_reducible refine wp_isThrownI (fun h => ?_) (fun h => ?_)) <;> (try simp (disch := omega) only [setM_ne, setM_hit, true_and, and_true] at h) <;> (try simp only [isIn0] at h) <;> (try (exfalso; omega))
    | with_reducible refine ok_grd (by (try simp (disch := omega) only [setM_ne, setM_hit, true_and, and_true]); (try unfold InR); omega) ?_
    | (with_reducible refine ok_some ?_) <;> (try dsimp only)
    | (with_reducible refine ok_ite (fun h => ?_) (fun h => ?_)) <;> (try dsimp only at h) <;> (try simp (disch := omega) only [setM_ne, setM_hit, true_and, and_true] at h) <;> (try simp only [isIn0, i01] at h) <;> (try (exfalso; first | exact h trivial | omega)))
    (refine agp_er ?_ ?_ ?_); decide; (first | (rw [setM_same]; rfl) | (dsimp only; simp (disch := omega) only [setM_ne, setM_hit, true_and, and_true]; rfl))
    repeat (first | exact I | with_reducible refine Inv_thr ?_ _)
  case pos =>
    obtain ⟨t, rfl⟩ : ∃ t : Nat, p0 = t := ⟨p0.toNat, by omega⟩
    have q := t4 t hp.2
    have J : Inv mc (setM mm 0 0 0) := Inv_thr I 0
    have mside : ∀ P : Int × Mem → Prop, (¬ (-60 ≤ p1 ∧ p1 ≤ 60 ∧ okS mc t p1) → P (0, setM (setM mm 0 0 0) 0 0 2)) → (-60 ≤ p1 → p1 ≤ 60 → okS mc t p1 → Ok ((M_move t p1 (setM (setM mm 0 0 0) 0 0 0)).bind fun m_3 => grd (InR (8 * (t : Int)) ∧ 0 ≤ 8 * (t : Int) ∧ 8 * (t : Int) < 192) <| some (m_3 9 (8 * (t : Int)).toNat, m_3)) P) → Ok (M_shift t p1 mm) P := by
      intro P h1 h2
      unfold M_shift
      refine wp_bq2 (wp_isNoTrip (by omega) (by omega) (fun _ => by omega) (fun _ _ => ok_ite (fun q => absurd rfl q) (fun _ => ok_ltv (ok_ite (fun hm => ?_) (fun hm => ?_)))))
      · rw [isIn0] at hm
        exact wp_bq2 (wp_isThrown1 (ok_ite (fun _ => ok_some (h1 (fun w => hm ⟨w.1, w.2.1⟩))) (fun q => absurd Int.one_ne_zero q)))
      · rw [isIn0] at hm
        refine ok_bind (shiftWrong_ok J hp.2 (by omega)) (fun z hz => ok_ite (fun hz0 => ?_) (fun hz0 => ?_))
        · refine wp_bq2 (wp_isThrown1 (ok_ite (fun _ => ok_some (h1 (fun w => ?_))) (fun q => absurd Int.one_ne_zero q)))
          rcases hz with hz | hz
          · exact hz0 hz.1
          · exact hz.2 w.2.2
        · refine wp_bq2 (wp_isThrown0 (ok_ite (fun q => absurd rfl q) (fun _ => h2 (by omega) (by omega) ?_)))
          rcases hz with hz | hz
          · exact hz.2
          · omega
    refine wp_bind (wp_needTrip (fun _ => by omega) (fun _ _ => ok_tbd_inl (wp_bind (needShift_ok I hp.2 (fun w => ok_tbd_inr (mside _ (fun _ => ?_) (fun a b c => absurd ⟨a, b, c⟩ w))) (fun w1 w2 w3 => ok_tbd_inl ?_)))))
    · (refine agp_er ?_ ?_ ?_); decide; (first | (rw [setM_same]; rfl) | (dsimp only; simp (disch := omega) only [setM_ne, setM_hit, true_and, and_true]; rfl))
      repeat (first | exact I | with_reducible refine Inv_thr ?_ _)
    · have cc := fun (c : Nat) (hc : (c : Int) < mc 33 t) => (q.2.2.2.2.2.2 c hc)
      refine ok_bind (moveC_ok (tr := t) (L := (mc 33 t).toNat) (by omega) (by omega) (by omega) (by omega) (fun c hc => by have := cc c (by omega); unfold ITc at this; omega)) (fun m' hm' => ok_grd (by omega) (ok_some (mside _ (fun w => absurd ⟨w1, w2, w3⟩ w) (fun _ _ _ => ?_))))
      refine ok_bind (moveM_ok (tr := t) (L := (mc 33 t).toNat) (by omega) (by simp (disch := omega) only [setM_ne, setM_hit, true_and, and_true]; omega) (by omega) (by omega) (fun c hc => by have := cc c (by omega); unfold ITc at this; simp (disch := omega) only [setM_ne, setM_hit, true_and, and_true]; omega)) (fun mm' hmm => ok_grd (by unfold InR; omega) (ok_some ?_))
      have c00 := cc 0 (by omega)
      unfold ITc at c00
      have ix : (8 * (t : Int)).toNat = 8 * t := by omega
      refine agp_ok ?_ ?_ ?_
      · rw [hmm, if_neg (by omega)]
        exact setM_same _ _ _ _
      · rw [ix, Int.toNat_natCast, hmm, if_pos (by omega), hm', if_pos (by omega), setM_ne (by omega), setM_ne (by omega)]
        have := c00.2.2.2.2.1
        rw [Nat.add_zero] at this
        rw [this]
      · unfold okS at w3
        have fc : ∀ c i, ¬ (c = 60 + t ∨ c = 85 + t) → m' c i = mc c i := fun c i w => by rw [hm', if_neg (by omega)]
        have fm : ∀ c i, ¬ (c = 8 ∨ c = 9) → ¬ (c = 0 ∧ i = 0) → mm' c i = mm c i := fun c i w w' => by
          rw [hmm, if_neg (by omega), setM_ne (by omega), setM_ne (by omega)]
        refine ⟨IS_fr a (fun c i w => fc c i (by unfold cS at w; omega)) (fun c i w => fm c i (by unfold mS at w; omega) (by unfold mS at w; omega)), IV_fr b (fun c i w => fc c i (by unfold cV at w; omega)) (fun c i w => fm c i (by unfold mV at w; omega) (by unfold mV at w; omega)), ?_, ID_fr d (fun c i w => fc c i (by unfold cD at w; omega)) (fun c i w => fm c i (by unfold mD at w; omega) (by unfold mD at w; omega)), IR_fr e (fun c i w => fc c i (by unfold cR at w; omega)) (fun c i w => fm c i (by unfold mR at w; omega) (by unfold mR at w; omega)), IC_fr f (fun c i w => fc c i (by unfold cK at w; omega)) (fun c i w => fm c i (by unfold mK at w; omega) (by unfold mK at w; omega)), IW_fr g (fun c i w => fc c i (by unfold cW at w; omega)) (fun c i w => fm c i (by unfold mW at w; omega) (by unfold mW at w; omega))⟩
        refine ⟨by rw [fm 0 8 (by omega) (by omega), fc 31 0 (by omega)]; exact t1, by rw [fc 31 0 (by omega)]; exact t2, by rw [fc 31 0 (by omega)]; exact t3, fun u hu => ?_⟩
        rw [fc 31 0 (by omega)] at hu
        have qu := t4 u hu
        rw [fm 5 u (by omega) (by omega), fc 32 u (by omega), fc 29 0 (by omega), fm 6 u (by omega) (by omega), fc 33 u (by omega)]
        refine ⟨qu.1, qu.2.1, qu.2.2.1, qu.2.2.2.1, qu.2.2.2.2.1, qu.2.2.2.2.2.1, fun x hx => ?_⟩
        have r := qu.2.2.2.2.2.2 x hx
        unfold ITc at r ⊢
        have e8 : ∀ y, y = 8 ∨ y = 9 → setM (setM mm 0 0 0) 0 0 0 y (8 * u + x) = mm y (8 * u + x) := fun y hy => by rw [setM_ne (by omega), setM_ne (by omega)]
        rw [fm 7 _ (by omega) (by omega), fc (35 + u) x (by omega), fc 1 0 (by omega), fc 33 u (by omega), hmm 8 _, hmm 9 _, hm' (60 + u) x, hm' (85 + u) x, hm' (60 + u) (x + 1), e8 8 (by omega), e8 9 (by omega)]
        by_cases hut : u = t
        · subst hut
          have lc := lv_chain I hp.2 x hx
          have l2 := lc.2 (mc 33 u - 1).toNat (by omega) (by omega)
          rw [if_pos (by omega), if_pos (by omega), if_pos (by omega), if_pos (by omega)]
          refine ⟨r.1, r.2.1, r.2.2.1, by omega, by omega, by omega, by omega, by omega, fun w => by omega, fun w => ?_⟩
          rw [if_pos (by omega)]
          have := r.2.2.2.2.2.2.2.2.2 w
          omega
        · rw [if_neg (by omega), if_neg (by omega), if_neg (by omega), if_neg (by omega), if_neg (by omega)]
          exact r
end SHF
