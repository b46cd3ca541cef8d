/-! ===== vehiclesByMatching ===== -/
section MAV
variable {mc mm m m0 m1 : Mem} {day : Int} {n k w : Nat}
theorem byMatching_ok {x : Nat → Int} (I : CI mc) (e1 : m0 431 0 = n) (n24 : n ≤ 24) (F : FltP mc day m0 n) (hx : ∀ v, v < nC mc → DefP (Dv mc day v) (x v)) : Ok (C_Fleet_countByMatching m0) (fun r => (∀ c i, ¬ (438 ≤ c ∧ c ≤ 441) → r.2 c i = m0 c i) ∧ r.1 = sI x (nC mc)) := by
  unfold C_Fleet_countByMatching
  refine ok_ltv (ok_bq2 (ok_for0 (n := n) (fun j m => (∀ c i, ¬ (c = 438 ∨ c = 439) → m c i = m0 c i) ∧ ∀ b : Nat, b < j → m 438 b = -1 ∧ m 439 b = -1) ⟨fun _ _ _ => rfl, fun b h => by omega⟩ ?_ ?_) (fun _ m4 h4 => ok_ltv (ok_ltv ?_)))
  · rintro j m hj ⟨f1, f2⟩
    unfold C_Fleet_countByMatching_b1
    rw [f1 431 0 (by omega), e1]
    refine ok_ite (fun _ => ok_grd (by omega) (ok_ltv (ok_ltv (ok_grd (by unfold InR; omega) (ok_ltv (ok_some ⟨_, rfl, fun c i hc => ?_, fun b hb => ?_⟩)))))) (fun h => by omega)
    · rw [setM_ne (by omega), setM_ne (by omega)]
      exact f1 c i hc
    · rw [Int.toNat_natCast]
      by_cases hbj : b = j
      · rw [hbj, setM_ne (by omega), setM_same, setM_same]
        exact ⟨rfl, rfl⟩
      · rw [setM_ne (by omega), setM_ne (by omega), setM_ne (by omega), setM_ne (by omega)]
        exact f2 b (by omega)
  · rintro m ⟨f1, -⟩
    unfold C_Fleet_countByMatching_b1
    rw [f1 431 0 (by omega), e1, if_neg (by omega)]
  · dsimp only at h4
    obtain ⟨f1, f2⟩ := h4
    refine ok_bq3 (Q := fun (y : Int × Int × Mem) => (∀ c i, ¬ (438 ≤ c ∧ c ≤ 441) → y.2.2 c i = m0 c i) ∧ MtI n y.2.2 ∧ y.1 = sI (fun e => if y.2.2 438 e = -1 then 0 else 1) n ∧ ∀ e, e < n → y.2.2 438 e = -1 → ∃ τ, τ ≤ y.2.2 435 e ∧ Tgt n y.2.2 (y.2.2 433 e) τ) ?_ (fun mt _ m8 h => ?_)
    · refine ok_loop (fun y => ∃ k : Nat, y.2.1 = k ∧ k ≤ n ∧ (∀ c i, ¬ (438 ≤ c ∧ c ≤ 441) → y.2.2 c i = m0 c i) ∧ MtI n y.2.2 ∧ y.1 = sI (fun e => if y.2.2 438 e = -1 then 0 else 1) n ∧ (∀ e, k ≤ e → e < n → y.2.2 438 e = -1) ∧ ∀ e, e < k → y.2.2 438 e = -1 → ∃ τ, τ ≤ y.2.2 435 e ∧ Tgt n y.2.2 (y.2.2 433 e) τ) (fun y => n - y.2.1.toNat) ⟨0, rfl, Nat.zero_le _, fun c i h => f1 c i (by omega), ⟨fun e he => Or.inl (f2 e he).1, fun b hb => Or.inl (f2 b hb).2⟩, ?_, fun e _ he => (f2 e he).1, fun e h => by omega⟩ ?_
      · dsimp only
        exact (sI_0 (fun e he => by rw [if_pos (f2 e he).1])).symm
      · rintro ⟨mt, kk, m⟩ ⟨k, a1, a2, g1, M, c1, c2, c3⟩
        dsimp only at a1 g1 M c1 c2 c3 ⊢
        subst a1
        have em : m 431 0 = n := by rw [g1 431 0 (by omega)]; exact e1
        have mb : 0 ≤ mt ∧ mt ≤ n := by
          have a := sI_le (f := fun _ => 0) (g := fun e => if m 438 e = -1 then 0 else 1) (n := n) (fun j _ => by split <;> omega)
          have b := sI_le (f := fun e => if m 438 e = -1 then 0 else 1) (g := fun _ => 1) (n := n) (fun j _ => by split <;> omega)
          rw [sI_0 (fun _ _ => rfl)] at a
          rw [sI_one] at b
          omega
        unfold C_Fleet_countByMatching_b2
        rw [em]
        refine ok_ite (fun hk => ok_bq2 (findFree_ok em n24 (by omega) M (c2 k (Nat.le_refl _) (by omega))) (fun r m6 h6 => ok_ltv ?_)) (fun hk => ok_some ?_)
        · dsimp only at h6
          have hkn : k < n := by omega
          rcases h6 with ⟨r1, h1, τ, h2, h3⟩ | ⟨h1, b, w, p, r1, b1, b2, b3, b4, b5, b6, b7⟩
          · -- none was found
            (try dsimp only at r1 h1)
            refine ok_ite (fun q => absurd r1 q) (fun _ => ok_grd (by unfold InR; omega) (ok_ltv (ok_some ⟨⟨k + 1, by dsimp only; omega, by omega, fun c i h => ?_, MtI_fr h1 M, ?_, fun e x1 x2 => ?_, fun e x1 x2 => ?_⟩, by dsimp only; omega⟩)))
            · dsimp only
              rw [h1 c i (by omega)]
              exact g1 c i h
            · dsimp only
              rw [c1]
              refine sI_congr (fun e he => ?_)
              have h6 := h1 438 e (by omega)
              by_cases z : m 438 e = -1
              · rw [if_pos z, if_pos (h6.trans z)]
              · rw [if_neg z, if_neg (fun q => z (h6.symm.trans q))]
            · dsimp only
              rw [h1 438 e (by omega)]
              exact c2 e (by omega) x2
            · dsimp only at x2 ⊢
              have tr : ∀ v τ, Tgt n m v τ → Tgt n m6 v τ := fun v τ T b hb hv ht => by
                rw [h1 432 _ (by omega)] at hv
                rw [h1 434 _ (by omega)] at ht
                obtain ⟨e, y1, y2, y3⟩ := T b hb hv ht
                exact ⟨e, y1, by rw [h1 439 _ (by omega)]; exact y2, by rw [h1 435 _ (by omega)]; exact y3⟩
              rw [h1 438 e (by omega)] at x2
              rw [h1 435 e (by omega), h1 433 e (by omega)]
              by_cases hek : e = k
              · rw [hek]
                exact ⟨τ, h2, tr _ _ h3⟩
              · obtain ⟨τ', y1, y2⟩ := c3 e (by omega) x2
                exact ⟨τ', y1, tr _ _ y2⟩
          · -- one was found
            (try dsimp only at r1 h1 b2 b4 b6 b7)
            have M6 := MtI_fr h1 M
            have k6 : m6 438 k = -1 := by rw [h1 438 k (by omega)]; exact c2 k (Nat.le_refl _) hkn
            have e6 : m6 431 0 = n := by rw [h1 431 0 (by omega)]; exact em
            subst r1
            refine ok_ite (fun _ => ok_bind (matchBack_ok e6 n24 hkn M6 k6 b1 b2 b3 b4 b5 b6 b7) (fun m7 h7 => ok_grd (by unfold InR; omega) (ok_ltv (ok_grd (by unfold InR; omega) (ok_ltv (ok_some ?_)))))) (fun q => absurd (by omega) q)
            obtain ⟨j1, j2, j3, j4, j5⟩ := h7
            have tr : ∀ v τ, Tgt n m v τ → Tgt n m7 v τ := fun v τ T => j3 v τ (fun b hb hv ht => by
              rw [h1 432 _ (by omega)] at hv
              rw [h1 434 _ (by omega)] at ht
              obtain ⟨e, y1, y2, y3⟩ := T b hb hv ht
              exact ⟨e, y1, by rw [h1 439 _ (by omega)]; exact y2, by rw [h1 435 _ (by omega)]; exact y3⟩)
            have eqv : ∀ e, e < n → e ≠ k → (m7 438 e = -1 ↔ m 438 e = -1) := fun e he hne => by
              rw [j5 e he hne, h1 438 e (by omega)]
            refine ⟨⟨k + 1, by dsimp only; omega, by omega, fun c i h => ?_, j2, ?_, fun e x1 x2 => ?_, fun e x1 x2 => ?_⟩, by dsimp only; omega⟩
            · dsimp only
              rw [j1 c i (by omega), h1 c i (by omega)]
              exact g1 c i h
            · dsimp only
              rw [c1]
              symm
              refine sI_upd (s := k) hkn (fun e he hne => ?_) ?_
              · have := eqv e he hne
                by_cases z : m 438 e = -1
                · rw [if_pos z, if_pos (this.mpr z)]
                · rw [if_neg z, if_neg (fun y => z (this.mp y))]
              · rw [if_neg j4, if_pos (c2 k (Nat.le_refl _) hkn)]
                rfl
            · dsimp only
              exact (eqv e x2 (by omega)).mpr (c2 e (by omega) x2)
            · dsimp only at x2 ⊢
              rw [j1 435 e (by omega), j1 433 e (by omega), h1 435 e (by omega), h1 433 e (by omega)]
              have hek : e ≠ k := fun q => by rw [q] at x2; exact j4 x2
              obtain ⟨τ', y1, y2⟩ := c3 e (by omega) ((eqv e (by omega) hek).mp x2)
              exact ⟨τ', y1, tr _ _ y2⟩
        · have : k = n := by omega
          rw [this] at c3
          exact ⟨g1, M, c1, c3⟩
    · dsimp only at h
      obtain ⟨g1, M, c1, c3⟩ := h
      have F8 : FltP mc day m8 n := by
        unfold FltP
        rw [show m8 432 = m0 432 from funext fun i => g1 _ _ (by omega), show m8 433 = m0 433 from funext fun i => g1 _ _ (by omega), show m8 434 = m0 434 from funext fun i => g1 _ _ (by omega), show m8 435 = m0 435 from funext fun i => g1 _ _ (by omega)]
        exact F
      have mc' := match_count I F8 M c3 hx
      have mb : 0 ≤ mt ∧ mt ≤ n := by
        have a := sI_le (f := fun _ => 0) (g := fun e => if m8 438 e = -1 then 0 else 1) (n := n) (fun j _ => by split <;> omega)
        have b := sI_le (f := fun e => if m8 438 e = -1 then 0 else 1) (g := fun _ => 1) (n := n) (fun j _ => by split <;> omega)
        rw [sI_0 (fun _ _ => rfl)] at a
        rw [sI_one] at b
        omega
      rw [g1 431 0 (by omega), e1, c1]
      rw [c1] at mb
      exact ok_grd (by unfold InR; omega) (ok_some ⟨g1, mc'⟩)
theorem st_vehiclesByMatching : ST_vehiclesByMatching Inv := by
  intro mc mm p0 I _
  have e : M_vehiclesByMatching p0 mm = M_vehicles p0 mm := by
    unfold M_vehiclesByMatching
    cases M_vehicles p0 mm <;> rfl
  rw [e]
  have CI0 : CI mc := ⟨_, I⟩
  have n := CI_n CI0
  refine ag_of ?_
  unfold C_vehiclesByMatching
  repeat' (first
    | with_reducible refine ok_ltv ?_
    | with_reducible refine ok_tbd_inl ?_
    | with_reducible refine ok_tbd_inr ?_
    | with_reducible refine wp_bind ?_
    | with_reducible refine wp_bq1 ?_
    | with_reducible refine wp_bq2 ?_
    | (with_reducible refine wp_needNumber (fun _ => ?_) (fun _ _ => ?_)) <;> (try (exfalso; omega))
    | (with_reducible refine wp_needDay (fun _ => ?_) (fun _ _ => ?_)) <;> (try (exfalso; omega))
    | (with_reducible refine wp_needStop (fun _ => ?_) (fun _ _ => ?_)) <;> (try (exfalso; omega))
    | (with_reducible refine wp_needService (fun _ => ?_) (fun _ _ => ?_)) <;> (try (exfalso; omega))
    | (with_reducible refine wp_needTrip (fun _ => ?_) (fun _ _ => ?_)) <;> (try (exfalso; omega))
    | (with_reducible refine wp_needCall (by omega) (fun _ => ?_) (fun _ _ _ _ => ?_)) <;> (try (exfalso; omega))
    | (with_reducible refine wp_needUnlike (fun _ => ?_) (fun _ => ?_)) <;> (try (exfalso; omega))
    | (with_reducible refine wp_needFound (fun _ => ?_) (fun _ => ?_)) <;> (try (exfalso; omega))
    | (with_reducible refine wp_needRoomForTrip (fun _ => ?_) (fun _ => ?_)) <;> (try (exfalso; omega))
    | (with_reducible refine wp_needRoomForSigns (by unfold InR; omega) (fun _ => ?_) (fun _ => ?_)) <;> (try (exfalso; omega))
    | (with_reducible refine wp_isNoStop (by (try simp (disch := omega) only [setM_ne, setM_hit, true_and, and_true]); omega) (by (try simp (disch := omega) only [setM_ne, setM_hit, true_and, and_true]); omega) (fun h => ?_) (fun h1 h2 => ?_)) <;> (try simp (disch := omega) only [setM_ne, setM_hit, true_and, and_true] at h) <;> (try simp (disch := omega) only [setM_ne, setM_hit, true_and, and_true] at h1) <;> (try simp (disch := omega) only [setM_ne, setM_hit, true_and, and_true] at h2) <;> (try (exfalso; omega))
    | (with_reducible refine wp_isNoService (by (try simp (disch := omega) only [setM_ne, setM_hit, true_and, and_true]); omega) (by (try simp (disch := omega) only [setM_ne, setM_hit, true_and, and_true]); omega) (fun h => ?_) (fun h1 h2 => ?_)) <;> (try simp (disch := omega) only [setM_ne, setM_hit, true_and, and_true] at h) <;> (try simp (disch := omega) only [setM_ne, setM_hit, true_and, and_true] at h1) <;> (try simp (disch := omega) only [setM_ne, setM_hit, true_and, and_true] at h2) <;> (try (exfalso; omega))
    | (with_reducible refine wp_isNoTrip (by (try simp (disch := omega) only [setM_ne, setM_hit, true_and, and_true]); omega) (by (try simp (disch := omega) only [setM_ne, setM_hit, true_and, and_true]); omega) (fun h => ?_) (fun h1 h2 => ?_)) <;> (try simp (disch := omega) only [setM_ne, setM_hit, true_and, and_true] at h) <;> (try simp (disch := omega) only [setM_ne, setM_hit, true_and, and_true] at h1) <;> (try simp (disch := omega) only [setM_ne, setM_hit, true_and, and_true] at h2) <;> (try (exfalso; omega))
    | (with_reducible refine wp_isNoDay (fun h => ?_) (fun h1 h2 => ?_)) <;> (try (exfalso; omega))
    | with_reducible refine wp_isThrown1 ?_
    | with_reducible refine wp_isThrown0 ?_
    | (with_reducible refine wp_isThrownI (fun h => ?_) (fun h => ?_)) <;> (try simp (disch := omega) only [setM_ne, setM_hit, true_and, and_true] at h) <;> (try simp only [isIn0] at h) <;> (try (exfalso; omega))
    | with_reducible refine ok_grd (by (try simp (disch := omega) only [setM_ne, setM_hit, true_and, and_true]); (try unfold InR); omega) ?_
    | (with_reducible refine ok_some ?_) <;> (try dsimp only)
    | (with_reducible refine ok_ite (fun h => ?_) (fun h => ?_)) <;> (try dsimp only at h) <;> (try simp (disch := omega) only [setM_ne, setM_hit, true_and, and_true] at h) <;> (try simp only [isIn0, i01] at h) <;> (try (exfalso; first | exact h trivial | omega)))
  · unfold M_vehicles
    repeat' (first
    | with_reducible refine ok_ltv ?_
    | with_reducible refine ok_tbd_inl ?_
    | with_reducible refine ok_tbd_inr ?_
    | with_reducible refine wp_bind ?_
    | with_reducible refine wp_bq1 ?_
    | with_reducible refine wp_bq2 ?_
    | (with_reducible refine wp_needNumber (fun _ => ?_) (fun _ _ => ?_)) <;> (try (exfalso; omega))
    | (with_reducible refine wp_needDay (fun _ => ?_) (fun _ _ => ?_)) <;> (try (exfalso; omega))
    | (with_reducible refine wp_needStop (fun _ => ?_) (fun _ _ => ?_)) <;> (try (exfalso; omega))
    | (with_reducible refine wp_needService (fun _ => ?_) (fun _ _ => ?_)) <;> (try (exfalso; omega))
    | (with_reducible refine wp_needTrip (fun _ => ?_) (fun _ _ => ?_)) <;> (try (exfalso; omega))
    | (with_reducible refine wp_needCall (by omega) (fun _ => ?_) (fun _ _ _ _ => ?_)) <;> (try (exfalso; omega))
    | (with_reducible refine wp_needUnlike (fun _ => ?_) (fun _ => ?_)) <;> (try (exfalso; omega))
    | (with_reducible refine wp_needFound (fun _ => ?_) (fun _ => ?_)) <;> (try (exfalso; omega))
    | (with_reducible refine wp_needRoomForTrip (fun _ => ?_) (fun _ => ?_)) <;> (try (exfalso; omega))
    | (with_reducible refine wp_needRoomForSigns (by unfold InR; omega) (fun _ => ?_) (fun _ => ?_)) <;> (try (exfalso; omega))
    | (with_reducible refine wp_isNoStop (by (try simp (disch := omega) only [setM_ne, setM_hit, true_and, and_true]); omega) (by (try simp (disch := omega) only [setM_ne, setM_hit, true_and, and_true]); omega) (fun h => ?_) (fun h1 h2 => ?_)) <;> (try simp (disch := omega) only [setM_ne, setM_hit, true_and, and_true] at h) <;> (try simp (disch := omega) only [setM_ne, setM_hit, true_and, and_true] at h1) <;> (try simp (disch := omega) only [setM_ne, setM_hit, true_and, and_true] at h2) <;> (try (exfalso; omega))
    | (with_reducible refine wp_isNoService (by (try simp (disch := omega) only [setM_ne, setM_hit, true_and, and_true]); omega) (by (try simp (disch := omega) only [setM_ne, setM_hit, true_and, and_true]); omega) (fun h => ?_) (fun h1 h2 => ?_)) <;> (try simp (disch := omega) only [setM_ne, setM_hit, true_and, and_true] at h) <;> (try simp (disch := omega) only [setM_ne, setM_hit, true_and, and_true] at h1) <;> (try simp (disch := omega) only [setM_ne, setM_hit, true_and, and_true] at h2) <;> (try (exfalso; omega))
    | (with_reducible refine wp_isNoTrip (by (try simp (disch := omega) only [setM_ne, setM_hit, true_and, and_true]); omega) (by (try simp (disch := omega) only [setM_ne, setM_hit, true_and, and_true]); omega) (fun h => ?_) (fun h1 h2 => ?_)) <;> (try simp (disch := omega) only [setM_ne, setM_hit, true_and, and_true] at h) <;> (try simp (disch := omega) only [setM_ne, setM_hit, true_and, and_true] at h1) <;> (try simp (disch := omega) only [setM_ne, setM_hit, true_and, and_true] at h2) <;> (try (exfalso; omega))
    | (with_reducible refine wp_isNoDay (fun h => ?_) (fun h1 h2 => ?_)) <;> (try (exfalso; omega))
    | with_reducible refine wp_isThrown1 ?_
    | with_reducible refine wp_isThrown0 ?_
    | (with_reducible refine wp_isThrownI (fun h => ?_) (fun h => ?_)) <;> (try simp (disch := omega) only [setM_ne, setM_hit, true_and, and_true] at h) <;> (try simp only [isIn0] at h) <;> (try (exfalso; omega))
    | with_reducible refine ok_grd (by (try simp (disch := omega) only [setM_ne, setM_hit, true_and, and_true]); (try unfold InR); omega) ?_
    | (with_reducible refine ok_some ?_) <;> (try dsimp only)
    | (with_reducible refine ok_ite (fun h => ?_) (fun h => ?_)) <;> (try dsimp only at h) <;> (try simp (disch := omega) only [setM_ne, setM_hit, true_and, and_true] at h) <;> (try simp only [isIn0, i01] at h) <;> (try (exfalso; first | exact h trivial | omega)))
    (refine agp_er ?_ ?_ ?_); decide; (first | (rw [setM_same]; rfl) | (dsimp only; simp (disch := omega) only [setM_ne, setM_hit, true_and, and_true]; rfl))
    repeat (first | exact I | with_reducible refine Inv_thr ?_ _)
  · refine (gather_ok CI0 (by omega) (Ctx_self I)).mono (fun m1 h1 => ?_)
    obtain ⟨f1, k, k1, k2, F⟩ := h1
    obtain ⟨⟨r0, m9⟩, -, -, x, x1, -⟩ := byTimes_ok CI0 k1 k2 F
    refine ok_bq2 (byMatching_ok CI0 k1 k2 F x1) (fun r m2 h2 => ok_some ?_)
    dsimp only at h2
    obtain ⟨f2, x2⟩ := h2
    unfold M_vehicles
    refine wp_bq2 (wp_isNoDay (fun _ => by omega) (fun _ _ => ok_ite (fun q => absurd rfl q) (fun _ => ok_ltv (ok_ltv ?_))))
    refine ok_bq3 (vehM_ok (Inv_thr I 0) (by omega) (by dsimp only; exact setM_same _ _ _ _)) (fun r2 _ mm2 h3 => ok_some ?_)
    dsimp only at h3
    obtain ⟨g1, y, y1, y2⟩ := h3
    have J : Inv m2 mm2 := Inv_fr (Inv_thr I 0) (fun c i q => by rw [f2 c i (by unfold pC at q; omega), f1 c i (by unfold pC at q; omega)]) (fun c i q => g1 c i (by unfold pM at q; omega))
    refine agp_ok ?_ ?_ J
    · rw [g1 0 0 (by omega)]
      exact setM_same _ _ _ _
    · rw [x2, y2]
      exact sI_congr (fun v hv => DefP_uniq (y1 v hv) (x1 v hv))
end MAV
