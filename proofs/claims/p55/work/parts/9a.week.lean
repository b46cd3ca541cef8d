/-! ===== week ===== -/
section WEE
variable {mc mm m m0 : Mem}
/-- the days put so far -/
def WkC (m0 : Mem) (s k : Nat) (on : Nat → Prop) (m : Mem) : Prop := (∀ c i, ¬ (c = 30 ∧ i = s) → m c i = m0 c i) ∧ 0 ≤ m 30 s ∧ m 30 s < 268435456 ∧ (∀ d : Nat, d < 28 → (d < k ∧ on d → bit (m 30 s) d = 1) ∧ (¬ (d < k ∧ on d) → bit (m 30 s) d = bit (m0 30 s) d))
def WkM (m0 : Mem) (s k : Nat) (on : Nat → Prop) (m : Mem) : Prop := (∀ c i, ¬ c = 4 → m c i = m0 c i) ∧ (∀ i, ¬ (28 * s ≤ i ∧ i < 28 * s + 28) → m 4 i = m0 4 i) ∧ (∀ d : Nat, d < 28 → (d < k ∧ on d → m 4 (28 * s + d) = 1) ∧ (¬ (d < k ∧ on d) → m 4 (28 * s + d) = m0 4 (28 * s + d)))
def onW (dd : Int) (f : Nat) (d : Nat) : Prop := f ≤ d ∧ jiand (jishr dd ((d : Int).tmod 7)) 1 = 1
theorem weekC_ok {s f t : Nat} {dd : Int} (hs : s < 6) (hb : 0 ≤ m0 30 s ∧ m0 30 s < 268435456) (h1 : f ≤ t) (h2 : t ≤ 27) : Ok (loop (fun x => C_week_b1 s dd t x.1 x.2) ((f : Int), m0)) (fun x => WkC m0 s (t + 1) (onW dd f) x.2) := by
  refine ok_loop (fun x => ∃ k : Nat, f ≤ k ∧ k ≤ t + 1 ∧ x.1 = k ∧ WkC m0 s k (onW dd f) x.2) (fun x => 40 - x.1.toNat) ⟨f, by omega, by omega, rfl, fun _ _ _ => rfl, hb.1, hb.2, fun d hd => ⟨fun q => by unfold onW at q; omega, fun _ => rfl⟩⟩ ?_
  rintro ⟨x, m⟩ ⟨k, k1, k2, rfl, w1, w2, w3, w4⟩
  dsimp only at w1 w2 w3 w4 ⊢
  unfold C_week_b1
  refine ok_ite (fun hk => ok_ite (fun ho => ?_) (fun ho => ok_grd (by unfold InR; omega) (ok_ltv (ok_some ⟨⟨k + 1, by omega, by omega, by dsimp only; omega, w1, w2, w3, fun d hd => ?_⟩, by dsimp only; omega⟩)))) (fun hk => ok_some ?_)
  · have pb := put_bits (x := m 30 s) (z := 1) (d := k) w2 w3 (by omega) (Or.inr rfl)
    dsimp only at pb
    unfold C_Services_put
    rw [Int.toNat_natCast]
    obtain ⟨v, hv⟩ : ∃ v, v = (if ¬ (1 : Int) = 0 then jior (m 30 s) (jishl 1 (k : Int)) else jiand (m 30 s) (jixor (jishl 1 (k : Int)) (-1))) := ⟨_, rfl⟩
    rw [← hv] at pb
    refine ok_bind (Q := fun m' => m' = setM m 30 s v) (ok_ltv (ok_grd (by omega) (ok_ltv (ok_some (by rw [hv]))))) (fun m' e => ?_)
    subst e
    refine ok_grd (by unfold InR; omega) (ok_ltv (ok_some ⟨⟨k + 1, by omega, by omega, by dsimp only; omega, fun c i h => ?_, ?_, ?_, fun d hd => ?_⟩, by dsimp only; omega⟩))
    · dsimp only
      rw [setM_ne h]
      exact w1 c i h
    · dsimp only
      rw [setM_same]
      exact pb.1
    · dsimp only
      rw [setM_same]
      exact pb.2.1
    · dsimp only
      rw [setM_same, pb.2.2 d hd]
      by_cases hh : d = k
      · rw [if_pos hh]
        refine ⟨fun _ => rfl, fun q => absurd ⟨by omega, by omega, by rw [hh]; exact ho⟩ q⟩
      · rw [if_neg hh]
        exact ⟨fun q => (w4 d hd).1 ⟨by omega, q.2⟩, fun q => (w4 d hd).2 (fun z => q ⟨by omega, z.2⟩)⟩
  · dsimp only
    refine ⟨fun q => (w4 d hd).1 ⟨?_, q.2⟩, fun q => (w4 d hd).2 (fun z => q ⟨by omega, z.2⟩)⟩
    by_cases hh : d = k
    · have := q.2.2
      rw [hh] at this
      exact absurd this ho
    · omega
  · have : k = t + 1 := by omega
    subst this
    exact ⟨w1, w2, w3, w4⟩
theorem weekM_ok {s f t : Nat} {dd : Int} (hs : s < 6) (h1 : f ≤ t) (h2 : t ≤ 27) : Ok (loop (fun x => M_week_b1 s dd t x.1 x.2) ((f : Int), m0)) (fun x => WkM m0 s (t + 1) (onW dd f) x.2) := by
  refine ok_loop (fun x => ∃ k : Nat, f ≤ k ∧ k ≤ t + 1 ∧ x.1 = k ∧ WkM m0 s k (onW dd f) x.2) (fun x => 40 - x.1.toNat) ⟨f, by omega, by omega, rfl, fun _ _ _ => rfl, fun _ _ => rfl, fun d hd => ⟨fun q => by unfold onW at q; omega, fun _ => rfl⟩⟩ ?_
  rintro ⟨x, m⟩ ⟨k, k1, k2, rfl, w1, w2, w4⟩
  dsimp only at w1 w2 w4 ⊢
  have ix : (28 * (s : Int) + (k : Int)).toNat = 28 * s + k := by omega
  unfold M_week_b1
  rw [ix]
  refine ok_ite (fun hk => ok_ite (fun ho => ok_grd (by unfold InR; omega) (ok_ltv (ok_grd (by unfold InR; omega) (ok_ltv (ok_some ⟨⟨k + 1, by omega, by omega, by dsimp only; omega, fun c i h => ?_, fun i h => ?_, fun d hd => ?_⟩, by dsimp only; omega⟩))))) (fun ho => ok_grd (by unfold InR; omega) (ok_ltv (ok_some ⟨⟨k + 1, by omega, by omega, by dsimp only; omega, w1, w2, fun d hd => ?_⟩, by dsimp only; omega⟩)))) (fun hk => ok_some ?_)
  · dsimp only
    rw [setM_ne (by omega)]
    exact w1 c i h
  · dsimp only
    rw [setM_ne (by omega)]
    exact w2 i h
  · dsimp only
    by_cases hh : d = k
    · rw [setM_hit (by omega)]
      refine ⟨fun _ => rfl, fun q => absurd ⟨by omega, by omega, by rw [hh]; exact ho⟩ q⟩
    · rw [setM_ne (by omega)]
      exact ⟨fun q => (w4 d hd).1 ⟨by omega, q.2⟩, fun q => (w4 d hd).2 (fun z => q ⟨by omega, z.2⟩)⟩
  · dsimp only
    refine ⟨fun q => (w4 d hd).1 ⟨?_, q.2⟩, fun q => (w4 d hd).2 (fun z => q ⟨by omega, z.2⟩)⟩
    by_cases hh : d = k
    · have := q.2.2
      rw [hh] at this
      exact absurd this ho
    · omega
  · have : k = t + 1 := by omega
    subst this
    exact ⟨w1, w2, w4⟩
theorem weekN_ok {s : Nat} {v : Int} (hs : s < 6) (h : ∀ d : Nat, d < 28 → m 4 (28 * s + d) = bit v d) : Ok (loop (fun x => M_week_b2 s m x.1 x.2) ((0 : Int), (0 : Int))) (fun x => x.1 = sI (fun d => bit v d) 28) := by
  refine ok_loop (fun x => ∃ k : Nat, x.2 = k ∧ k ≤ 28 ∧ x.1 = sI (fun d => bit v d) k) (fun x => 28 - x.2.toNat) ⟨0, rfl, by omega, rfl⟩ ?_
  rintro ⟨x, y⟩ ⟨k, e1, e2, e3⟩
  dsimp only at e1 e3 ⊢
  subst e1
  have ix : (28 * (s : Int) + (k : Int)).toNat = 28 * s + k := by omega
  have bd := sI_bd (h := fun d => bit v d) (z := 1) (by omega) (n := k) (fun d _ => by have := bit_01 v d; omega)
  unfold M_week_b2
  rw [ix]
  refine ok_ite (fun hk => ?_) (fun hk => ok_some ?_)
  · have b := bit_01 v k
    have e : (if ¬ m 4 (28 * s + k) = 0 then (1 : Int) else 0) = bit v k := by
      rw [h k (by omega)]
      split <;> omega
    rw [e]
    refine ok_grd (by unfold InR; omega) (ok_ltv (ok_grd (by unfold InR; omega) (ok_ltv (ok_some ⟨⟨k + 1, by dsimp only; omega, by omega, ?_⟩, by dsimp only; omega⟩))))
    dsimp only
    rw [e3]
    rfl
  · have : k = 28 := by omega
    dsimp only
    rw [e3, this]
theorem st_week : ST_week Inv := by
  intro mc mm p0 p1 p2 p3 I _ _ _ _
  obtain ⟨a, b, c, d, e, f, g⟩ := id I
  obtain ⟨i1, i2, i3, i4, i5⟩ := id b
  refine ag_of ?_
  unfold C_week
  by_cases hp : 0 ≤ p0 ∧ p0 < mc 29 0
  case neg =>
    repeat' (first
    | with_reducible refine ok_ltv ?_
    | with_reducible refine ok_tbd_inl ?_
    | with_reducible refine ok_tbd_inr ?_
    | with_reducible refine wp_bind ?_
    | with_reducible refine wp_bq1 ?_
    | with_reducible refine wp_bq2 ?_
    | (with_reducible refine wp_needNumber (fun _ => ?_) (fun _ _ => ?_)) <;> (try (exfalso; omega))
    | (with_reducible refine wp_needDay (fun _ => ?_) (fun _ _ => ?_)) <;> (try (exfalso; omega))
    | (with_reducible refine wp_needStop (fun _ => ?_) (fun _ _ => ?_)) <;> (try (exfalso; omega))
    | (with_reducible refine wp_needService (fun _ => ?_) (fun _ _ => ?_)) <;> (try (exfalso; omega))
    | (with_reducible refine wp_needTrip (fun _ => ?_) (fun _ _ => ?_)) <;> (try (exfalso; omega))
    | (with_reducible refine wp_needCall (by omega) (fun _ => ?_) (fun _ _ _ _ => ?_)) <;> (try (exfalso; omega))
    | (with_reducible refine wp_needUnlike (fun _ => ?_) (fun _ => ?_)) <;> (try (exfalso; omega))
    | (with_reducible refine wp_needFound (fun _ => ?_) (fun _ => ?_)) <;> (try (exfalso; omega))
    | (with_reducible refine wp_needRoomForTrip (fun _ => ?_) (fun _ => ?_)) <;> (try (exfalso; omega))
    | (with_reducible refine wp_needRoomForSigns (by unfold InR; omega) (fun _ => ?_) (fun _ => ?_)) <;> (try (exfalso; omega))
    | (with_reducible refine wp_isNoStop (by (try simp (disch := omega) only [setM_ne, setM_hit, true_and, and_true]); omega) (by (try simp (disch := omega) only [setM_ne, setM_hit, true_and, and_true]); omega) (fun h => ?_) (fun h1 h2 => ?_)) <;> (try simp (disch := omega) only [setM_ne, setM_hit, true_and, and_true] at h) <;> (try simp (disch := omega) only [setM_ne, setM_hit, true_and, and_true] at h1) <;> (try simp (disch := omega) only [setM_ne, setM_hit, true_and, and_true] at h2) <;> (try (exfalso; omega))
    | (with_reducible refine wp_isNoService (by (try simp (disch := omega) only [setM_ne, setM_hit, true_and, and_true]); omega) (by (try simp (disch := omega) only [setM_ne, setM_hit, true_and, and_true]); omega) (fun h => ?_) (fun h1 h2 => ?_)) <;> (try simp (disch := omega) only [setM_ne, setM_hit, true_and, and_true] at h) <;> (try simp (disch := omega) only [setM_ne, setM_hit, true_and, and_true] at h1) <;> (try simp (disch := omega) only [setM_ne, setM_hit, true_and, and_true] at h2) <;> (try (exfalso; omega))
    | (with_reducible refine wp_isNoTrip (by (try simp (disch := omega) only [setM_ne, setM_hit, true_and, and_true]); omega) (by (try simp (disch := omega) only [setM_ne, setM_hit, true_and, and_true]); omega) (fun h => ?_) (fun h1 h2 => ?_)) <;> (try simp (disch := omega) only [setM_ne, setM_hit, true_and, and_true] at h) <;> (try simp (disch := omega) only [setM_ne, setM_hit, true_and, and_true] at h1) <;> (try simp (disch := omega) only [setM_ne, setM_hit, true_and, and_true] at h2) <;> (try (exfalso; omega))
    | (with_reducible refine wp_isNoDay (fun h => ?_) (fun h1 h2 => ?_)) <;> (try (exfalso; omega))
    | with_reducible refine wp_isThrown1 ?_
    | with_reducible refine wp_isThrown0 ?_
    | (with_reducible refine wp_isThrownI (fun h => ?_) (fun h => ?_)) <;> (try simp (disch := omega) only [setM_ne, setM_hit, true_and, and_true] at h) <;> (try simp only [isIn0] at h) <;> (try (exfalso; omega))
    | with_reducible refine ok_grd (by (try simp (disch := omega) only [setM_ne, setM_hit, true_and, and_true]); (try unfold InR); omega) ?_
    | (with_reducible refine ok_some ?_) <;> (try dsimp only)
    | (with_reducible refine ok_ite (fun h => ?_) (fun h => ?_)) <;> (try dsimp only at h) <;> (try simp (disch := omega) only [setM_ne, setM_hit, true_and, and_true] at h) <;> (try simp only [isIn0, i01] at h) <;> (try (exfalso; first | exact h trivial | omega)))
    unfold M_week
    repeat' (first
    | with_reducible refine ok_ltv ?_
    | with_reducible refine ok_tbd_inl ?_
    | with_reducible refine ok_tbd_inr ?_
    | with_reducible refine wp_bind ?_
    | with_reducible refine wp_bq1 ?_
    | with_reducible refine wp_bq2 ?_
    | (with_reducible refine wp_needNumber (fun _ => ?_) (fun _ _ => ?_)) <;> (try (exfalso; omega))
    | (with_reducible refine wp_needDay (fun _ => ?_) (fun _ _ => ?_)) <;> (try (exfalso; omega))
    | (with_reducible refine wp_needStop (fun _ => ?_) (fun _ _ => ?_)) <;> (try (exfalso; omega))
    | (with_reducible refine wp_needService (fun _ => ?_) (fun _ _ => ?_)) <;> (try (exfalso; omega))
    | (with_reducible refine wp_needTrip (fun _ => ?_) (fun _ _ => ?_)) <;> (try (exfalso; omega))
    | (with_reducible refine wp_needCall (by omega) (fun _ => ?_) (fun _ _ _ _ => ?_)) <;> (try (exfalso; omega))
    | (with_reducible refine wp_needUnlike (fun _ => ?_) (fun _ => ?_)) <;> (try (exfalso; omega))
    | (with_reducible refine wp_needFound (fun _ => ?_) (fun _ => ?_)) <;> (try (exfalso; omega))
    | (with_reducible refine wp_needRoomForTrip (fun _ => ?_) (fun _ => ?_)) <;> (try (exfalso; omega))
    | (with_reducible refine wp_needRoomForSigns (by unfold InR; omega) (fun _ => ?_) (fun _ => ?_)) <;> (try (exfalso; omega))
    | (with_reducible refine wp_isNoStop (by (try simp (disch := omega) only [setM_ne, setM_hit, true_and, and_true]); omega) (by (try simp (disch := omega) only [setM_ne, setM_hit, true_and, and_true]); omega) (fun h => ?_) (fun h1 h2 => ?_)) <;> (try simp (disch := omega) only [setM_ne, setM_hit, true_and, and_true] at h) <;> (try simp (disch := omega) only [setM_ne, setM_hit, true_and, and_true] at h1) <;> (try simp (disch := omega) only [setM_ne, setM_hit, true_and, and_true] at h2) <;> (try (exfalso; omega))
    | (with_reducible refine wp_isNoService (by (try simp (disch := omega) only [setM_ne, setM_hit, true_and, and_true]); omega) (by (try simp (disch := omega) only [setM_ne, setM_hit, true_and, and_true]); omega) (fun h => ?_) (fun h1 h2 => ?_)) <;> (try simp (disch := omega) only [setM_ne, setM_hit, true_and, and_true] at h) <;> (try simp (disch := omega) only [setM_ne, setM_hit, true_and, and_true] at h1) <;> (try simp (disch := omega) only [setM_ne, setM_hit, true_and, and_true] at h2) <;> (try (exfalso; omega))
    | (with_reducible refine wp_isNoTrip (by (try simp (disch := omega) only [setM_ne, setM_hit, true_and, and_true]); omega) (by (try simp (disch := omega) only [setM_ne, setM_hit, true_and, and_true]); omega) (fun h => ?_) (fun h1 h2 => ?_)) <;> (try simp (disch := omega) only [setM_ne, setM_hit, true_and, and_true] at h) <;> (try simp (disch := omega) only [setM_ne, setM_hit, true_and, and_true] at h1) <;> (try simp (disch := omega) only [setM_ne, setM_hit, true_and, and_true] at h2) <;> (try (exfalso; omega))
    | (with_reducible refine wp_isNoDay (fun h => ?_) (fun h1 h2 => ?_)) <;> (try (exfalso; omega))
    | with_reducible refine wp_isThrown1 ?_
    | with_reducible refine wp_isThrown0 ?_
    | (with_reducible refine wp_isThrownI (fun h => ?_) (fun h => ?_)) <;> (try simp (disch := omega) only [setM_ne, setM_hit, true_and, and_true] at h) <;> (try simp only [isIn0] at h) <;> (try (exfalso; omega))
    | with_reducible refine ok_grd (by (try simp (disch := omega) only [setM_ne, setM_hit, true_and, and_true]); (try unfold InR); omega) ?_
    | (with_reducible refine ok_some ?_) <;> (try dsimp only)
    | (with_reducible refine ok_ite (fun h => ?_) (fun h => ?_)) <;> (try dsimp only at h) <;> (try simp (disch := omega) only [setM_ne, setM_hit, true_and, and_true] at h) <;> (try simp only [isIn0, i01] at h) <;> (try (exfalso; first | exact h trivial | omega)))
    (refine agp_er ?_ ?_ ?_); decide; (first | (rw [setM_same]; rfl) | (dsimp only; simp (disch := omega) only [setM_ne, setM_hit, true_and, and_true]; rfl))
    repeat (first | exact I | with_reducible refine Inv_thr ?_ _)
  case pos =>
    have q := i4 p0.toNat (by omega)
    have mside : ∀ P : Int × Mem → Prop, (¬ ((0 ≤ p1 ∧ p1 ≤ 127) ∧ (0 ≤ p2 ∧ p2 ≤ 27) ∧ (0 ≤ p3 ∧ p3 ≤ 27) ∧ p2 ≤ p3) → P (0, setM (setM mm 0 0 0) 0 0 2)) → (((0 ≤ p1 ∧ p1 ≤ 127) ∧ (0 ≤ p2 ∧ p2 ≤ 27) ∧ (0 ≤ p3 ∧ p3 ≤ 27) ∧ p2 ≤ p3) → Ok (ltv (p2 : Int) fun d_ => bq2 (loop (fun s => M_week_b1 p0 p1 p3 s.1 s.2) (d_, setM (setM mm 0 0 0) 0 0 0)) fun d_5 m_5 => ltv (0 : Int) fun many_ => ltv (0 : Int) fun d_6 => bq2 (loop (fun s => M_week_b2 p0 m_5 s.1 s.2) (many_, d_6)) fun many_4 d_9 => some (many_4, m_5)) P) → Ok (M_week p0 p1 p2 p3 mm) P := by
      intro P h1 h2
      unfold M_week
      refine wp_bq2 (wp_isNoService (by omega) (by omega) (fun _ => by omega) (fun _ _ => ok_ite (fun q => absurd rfl q) (fun _ => wp_bq2 (wp_isThrownI (fun h => ok_ite (fun _ => ok_some (h1 ?_)) (fun q => absurd Int.one_ne_zero q)) (fun h => ok_ite (fun q => absurd rfl q) (fun _ => h2 ?_))))))
      · rw [isIn0, isIn0, isIn0] at h
        omega
      · rw [isIn0, isIn0, isIn0] at h
        omega
    have bad : ¬ ((0 ≤ p1 ∧ p1 ≤ 127) ∧ (0 ≤ p2 ∧ p2 ≤ 27) ∧ (0 ≤ p3 ∧ p3 ≤ 27) ∧ p2 ≤ p3) → Ok (M_week p0 p1 p2 p3 mm) (fun b => AgP okA Inv [2, 0] (.inr 0, mc) b) := fun w => mside _ (fun _ => by
      (refine agp_er ?_ ?_ ?_); decide; (first | (rw [setM_same]; rfl) | (dsimp only; simp (disch := omega) only [setM_ne, setM_hit, true_and, and_true]; rfl))
      repeat (first | exact I | with_reducible refine Inv_thr ?_ _)) (fun x => absurd x w)
    refine wp_bind (wp_needService (fun _ => by omega) (fun _ _ => ok_tbd_inl (wp_bind (wp_needNumber (fun w => ok_tbd_inr (bad (by omega))) (fun w1 w2 => ok_tbd_inl (wp_bind (wp_needDay (fun w => ok_tbd_inr (bad (by omega))) (fun w3 w4 => ok_tbd_inl (wp_bind (wp_needDay (fun w => ok_tbd_inr (bad (by omega))) (fun w5 w6 => ok_tbd_inl (ok_ite (fun h => ok_some (bad (by omega))) (fun h => ok_ltv ?_)))))))))))))
    obtain ⟨s, rfl⟩ : ∃ s : Nat, p0 = s := ⟨p0.toNat, by omega⟩
    obtain ⟨x, rfl⟩ : ∃ x : Nat, p2 = x := ⟨p2.toNat, by omega⟩
    obtain ⟨y, rfl⟩ : ∃ y : Nat, p3 = y := ⟨p3.toNat, by omega⟩
    rw [Int.toNat_natCast] at q
    refine ok_bq2 (weekC_ok (s := s) (f := x) (t := y) (by omega) ⟨q.1, q.2.1⟩ (by omega) (by omega)) (fun _ m7 h7 => ok_grd (by omega) (ok_some ?_))
    dsimp only at h7
    obtain ⟨u1, u2, u3, u4⟩ := h7
    rw [Int.toNat_natCast]
    refine mside _ (fun w => absurd ⟨by omega, by omega, by omega, by omega⟩ w) (fun _ => ok_ltv (ok_bq2 (weekM_ok (s := s) (f := x) (t := y) (by omega) (by omega) (by omega)) (fun _ m5 h5 => ?_)))
    dsimp only at h5
    obtain ⟨v1, v2, v4⟩ := h5
    have bt : ∀ d : Nat, d < 28 → m5 4 (28 * s + d) = bit (m7 30 s) d := fun d hd => by
      have r := u4 d hd
      have z := v4 d hd
      by_cases hh : d < y + 1 ∧ onW p1 x d
      · rw [r.1 hh, z.1 hh]
      · rw [r.2 hh, z.2 hh, setM_ne (by omega), setM_ne (by omega)]
        exact i5 s d (by omega) hd
    refine ok_ltv (ok_ltv (ok_bq2 (weekN_ok (s := s) (v := m7 30 s) (by omega) bt) (fun n _ hn => ok_some ?_)))
    dsimp only at hn
    have fm : ∀ c i, ¬ c = 4 → ¬ (c = 0 ∧ i = 0) → m5 c i = mm c i := fun c i x y => by
      rw [v1 c i x, setM_ne y, setM_ne y]
    refine agp_ok ?_ ?_ ?_
    · rw [v1 _ _ (by omega)]
      exact setM_same _ _ _ _
    · obtain ⟨j, hj⟩ : ∃ j : Nat, m7 30 s = j := ⟨(m7 30 s).toNat, by omega⟩
      rw [hj] at hn ⊢
      rw [hn, jbits_eq (by omega)]
    · refine ⟨IS_fr a (fun c i w => u1 c i (by unfold cS at w; omega)) (fun c i w => fm c i (by unfold mS at w; omega) (by unfold mS at w; omega)), ?_, IT_fr c (fun c i w => u1 c i (by unfold cT at w; omega)) (fun c i w => fm c i (by unfold mT at w; omega) (by unfold mT at w; omega)), ID_fr d (fun c i w => u1 c i (by unfold cD at w; omega)) (fun c i w => fm c i (by unfold mD at w; omega) (by unfold mD at w; omega)), IR_fr e (fun c i w => u1 c i (by unfold cR at w; omega)) (fun c i w => fm c i (by unfold mR at w; omega) (by unfold mR at w; omega)), IC_fr f (fun c i w => u1 c i (by unfold cK at w; omega)) (fun c i w => fm c i (by unfold mK at w; omega) (by unfold mK at w; omega)), IW_fr g (fun c i w => u1 c i (by unfold cW at w; omega)) (fun c i w => fm c i (by unfold mW at w; omega) (by unfold mW at w; omega))⟩
      refine ⟨by rw [fm 0 6 (by omega) (by omega), u1 29 0 (by omega)]; exact i1, by rw [u1 29 0 (by omega)]; exact i2, by rw [u1 29 0 (by omega)]; exact i3, fun z hz => ?_, fun z d hz hd => ?_⟩
      · by_cases hh : z = s
        · rw [hh, u1 29 0 (by omega)]
          exact ⟨u2, u3, fun w => by omega⟩
        · rw [u1 30 z (by omega), u1 29 0 (by omega)]
          exact i4 z hz
      · by_cases hh : z = s
        · rw [hh]
          exact bt d hd
        · rw [v2 _ (by omega), u1 30 z (by omega), setM_ne (by omega), setM_ne (by omega)]
          exact i5 z d hz hd
end WEE
