/-! ===== call, wish, ride ===== -/
theorem st_call : ST_call Inv := by
  intro mc mm p0 p1 p2 p3 I _ _ _ _
  obtain ⟨a, b, c, d, e, f, g⟩ := id I
  obtain ⟨i1, i2, i3, -⟩ := id a
  obtain ⟨v1, v2, v3, -⟩ := id b
  obtain ⟨t1, t2, t3, t4⟩ := id c
  obtain ⟨w1, w2, w3, w4⟩ := id g
  refine ag_of ?_
  by_cases hp : 0 ≤ p0 ∧ p0 < mc 31 0
  case neg =>
    unfold C_call
    repeat' (first
    | with_reducible refine ok_ltv ?_
    | with_reducible refine ok_tbd_inl ?_
    | with_reducible refine ok_tbd_inr ?_
    | with_reducible refine wp_bind ?_
    | with_reducible refine wp_bq1 ?_
    | with_reducible refine wp_bq2 ?_
    | (with_reducible refine wp_needNumber (fun _ => ?_) (fun _ _ => ?_)) <;> (try (exfalso; omega))
    | (with_reducible refine wp_needDay (fun _ => ?_) (fun _ _ => ?_)) <;> (try (exfalso; omega))
    | (with_reducible refine wp_needStop (fun _ => ?_) (fun _ _ => ?_)) <;> (try (exfalso; omega))
    | (with_reducible refine wp_needService (fun _ => ?_) (fun _ _ => ?_)) <;> (try (exfalso; omega))
    | (with_reducible refine wp_needTrip (fun _ => ?_) (fun _ _ => ?_)) <;> (try (exfalso; omega))
    | (with_reducible refine wp_needCall (by omega) (fun _ => ?_) (fun _ _ _ _ => ?_)) <;> (try (exfalso; omega))
    | (with_reducible refine wp_needUnlike (fun _ => ?_) (fun _ => ?_)) <;> (try (exfalso; omega))
    | (with_reducible refine wp_needFound (fun _ => ?_) (fun _ => ?_)) <;> (try (exfalso; omega))
    | (with_reducible refine wp_needRoomForTrip (fun _ => ?_) (fun _ => ?_)) <;> (try (exfalso; omega))
    | (with_reducible refine wp_needRoomForSigns (by unfold InR; omega) (fun _ => ?_) (fun _ => ?_)) <;> (try (exfalso; omega))
    | (with_reducible refine wp_isNoStop (by (try simp (disch := omega) only [setM_ne, setM_hit, true_and, and_true]); omega) (by (try simp (disch := omega) only [setM_ne, setM_hit, true_and, and_true]); omega) (fun h => ?_) (fun h1 h2 => ?_)) <;> (try simp (disch := omega) only [setM_ne, setM_hit, true_and, and_true] at h) <;> (try simp (disch := omega) only [setM_ne, setM_hit, true_and, and_true] at h1) <;> (try simp (disch := omega) only [setM_ne, setM_hit, true_and, and_true] at h2) <;> (try (exfalso; omega))
    | (with_reducible refine wp_isNoService (by (try simp (disch := omega) only [setM_ne, setM_hit, true_and, and_true]); omega) (by (try simp (disch := omega) only [setM_ne, setM_hit, true_and, and_true]); omega) (fun h => ?_) (fun h1 h2 => ?_)) <;> (try simp (disch := omega) only [setM_ne, setM_hit, true_and, and_true] at h) <;> (try simp (disch := omega) only [setM_ne, setM_hit, true_and, and_true] at h1) <;> (try simp (disch := omega) only [setM_ne, setM_hit, true_and, and_true] at h2) <;> (try (exfalso; omega))
    | (with_reducible refine wp_isNoTrip (by (try simp (disch := omega) only [setM_ne, setM_hit, true_and, and_true]); omega) (by (try simp (disch := omega) only [setM_ne, setM_hit, true_and, and_true]); omega) (fun h => ?_) (fun h1 h2 => ?_)) <;> (try simp (disch := omega) only [setM_ne, setM_hit, true_and, and_true] at h) <;> (try simp (disch := omega) only [setM_ne, setM_hit, true_and, and_true] at h1) <;> (try simp (disch := omega) only [setM_ne, setM_hit, true_and, and_true] at h2) <;> (try (exfalso; omega))
    | (with_reducible refine wp_isNoDay (fun h => ?_) (fun h1 h2 => ?_)) <;> (try (exfalso; omega))
    | (with_reducible refine wp_isThrownI (fun h => ?_) (fun h => ?_)) <;> (try simp (disch := omega) only [setM_ne, setM_hit, true_and, and_true] at h) <;> (try simp only [isIn0] at h) <;> (try (exfalso; omega))
    | with_reducible refine ok_grd (by (try simp (disch := omega) only [setM_ne, setM_hit, true_and, and_true]); (try unfold InR); omega) ?_
    | (with_reducible refine ok_some ?_) <;> (try dsimp only)
    | (with_reducible refine ok_ite (fun h => ?_) (fun h => ?_)) <;> (try dsimp only at h) <;> (try simp (disch := omega) only [setM_ne, setM_hit, true_and, and_true] at h) <;> (try simp only [isIn0, i01] at h) <;> (try (exfalso; first | exact h trivial | omega)))
    unfold M_call
    repeat' (first
    | with_reducible refine ok_ltv ?_
    | with_reducible refine ok_tbd_inl ?_
    | with_reducible refine ok_tbd_inr ?_
    | with_reducible refine wp_bind ?_
    | with_reducible refine wp_bq1 ?_
    | with_reducible refine wp_bq2 ?_
    | (with_reducible refine wp_needNumber (fun _ => ?_) (fun _ _ => ?_)) <;> (try (exfalso; omega))
    | (with_reducible refine wp_needDay (fun _ => ?_) (fun _ _ => ?_)) <;> (try (exfalso; omega))
    | (with_reducible refine wp_needStop (fun _ => ?_) (fun _ _ => ?_)) <;> (try (exfalso; omega))
    | (with_reducible refine wp_needService (fun _ => ?_) (fun _ _ => ?_)) <;> (try (exfalso; omega))
    | (with_reducible refine wp_needTrip (fun _ => ?_) (fun _ _ => ?_)) <;> (try (exfalso; omega))
    | (with_reducible refine wp_needCall (by omega) (fun _ => ?_) (fun _ _ _ _ => ?_)) <;> (try (exfalso; omega))
    | (with_reducible refine wp_needUnlike (fun _ => ?_) (fun _ => ?_)) <;> (try (exfalso; omega))
    | (with_reducible refine wp_needFound (fun _ => ?_) (fun _ => ?_)) <;> (try (exfalso; omega))
    | (with_reducible refine wp_needRoomForTrip (fun _ => ?_) (fun _ => ?_)) <;> (try (exfalso; omega))
    | (with_reducible refine wp_needRoomForSigns (by unfold InR; omega) (fun _ => ?_) (fun _ => ?_)) <;> (try (exfalso; omega))
    | (with_reducible refine wp_isNoStop (by (try simp (disch := omega) only [setM_ne, setM_hit, true_and, and_true]); omega) (by (try simp (disch := omega) only [setM_ne, setM_hit, true_and, and_true]); omega) (fun h => ?_) (fun h1 h2 => ?_)) <;> (try simp (disch := omega) only [setM_ne, setM_hit, true_and, and_true] at h) <;> (try simp (disch := omega) only [setM_ne, setM_hit, true_and, and_true] at h1) <;> (try simp (disch := omega) only [setM_ne, setM_hit, true_and, and_true] at h2) <;> (try (exfalso; omega))
    | (with_reducible refine wp_isNoService (by (try simp (disch := omega) only [setM_ne, setM_hit, true_and, and_true]); omega) (by (try simp (disch := omega) only [setM_ne, setM_hit, true_and, and_true]); omega) (fun h => ?_) (fun h1 h2 => ?_)) <;> (try simp (disch := omega) only [setM_ne, setM_hit, true_and, and_true] at h) <;> (try simp (disch := omega) only [setM_ne, setM_hit, true_and, and_true] at h1) <;> (try simp (disch := omega) only [setM_ne, setM_hit, true_and, and_true] at h2) <;> (try (exfalso; omega))
    | (with_reducible refine wp_isNoTrip (by (try simp (disch := omega) only [setM_ne, setM_hit, true_and, and_true]); omega) (by (try simp (disch := omega) only [setM_ne, setM_hit, true_and, and_true]); omega) (fun h => ?_) (fun h1 h2 => ?_)) <;> (try simp (disch := omega) only [setM_ne, setM_hit, true_and, and_true] at h) <;> (try simp (disch := omega) only [setM_ne, setM_hit, true_and, and_true] at h1) <;> (try simp (disch := omega) only [setM_ne, setM_hit, true_and, and_true] at h2) <;> (try (exfalso; omega))
    | (with_reducible refine wp_isNoDay (fun h => ?_) (fun h1 h2 => ?_)) <;> (try (exfalso; omega))
    | (with_reducible refine wp_isThrownI (fun h => ?_) (fun h => ?_)) <;> (try simp (disch := omega) only [setM_ne, setM_hit, true_and, and_true] at h) <;> (try simp only [isIn0] at h) <;> (try (exfalso; omega))
    | with_reducible refine ok_grd (by (try simp (disch := omega) only [setM_ne, setM_hit, true_and, and_true]); (try unfold InR); omega) ?_
    | (with_reducible refine ok_some ?_) <;> (try dsimp only)
    | (with_reducible refine ok_ite (fun h => ?_) (fun h => ?_)) <;> (try dsimp only at h) <;> (try simp (disch := omega) only [setM_ne, setM_hit, true_and, and_true] at h) <;> (try simp only [isIn0, i01] at h) <;> (try (exfalso; first | exact h trivial | omega)))
    (refine agp_er ?_ ?_ ?_); decide; first | (rw [setM_same]; rfl) | (dsimp only; simp (disch := omega) only [setM_ne, setM_hit, true_and, and_true]; rfl)
    repeat (first | exact I | with_reducible refine Inv_thr ?_ _)
  case pos =>
    have q := IT_get c hp.1 hp.2
    have r := IT_getc c (c := mc 33 p0.toNat - 1) hp.1 hp.2 (by omega) (by omega)
    have r0 := IT_getc c (c := 0) hp.1 hp.2 (by omega) (by omega)
    have e1 : 8 * p0 + mm 6 p0.toNat - 1 = 8 * p0 + (mc 33 p0.toNat - 1) := by omega
    have r7 : mm 7 (8 * p0 + mm 6 p0.toNat - 1).toNat = mc (35 + p0.toNat) (mc 33 p0.toNat - 1).toNat := by rw [e1]; exact r.1
    have r9 : mm 9 (8 * p0 + mm 6 p0.toNat - 1).toNat = mc (85 + p0.toNat) (mc 33 p0.toNat - 1).toNat := by rw [e1]; exact r.2.2.2.2.1
    have l0 : 0 ≤ mc (85 + p0.toNat) (mc 33 p0.toNat - 1).toNat := by omega
    unfold C_call C_Trips_add C_goesOn
    repeat' (first
    | with_reducible refine ok_ltv ?_
    | with_reducible refine ok_tbd_inl ?_
    | with_reducible refine ok_tbd_inr ?_
    | with_reducible refine wp_bind ?_
    | with_reducible refine wp_bq1 ?_
    | with_reducible refine wp_bq2 ?_
    | (with_reducible refine wp_needNumber (fun _ => ?_) (fun _ _ => ?_)) <;> (try (exfalso; omega))
    | (with_reducible refine wp_needDay (fun _ => ?_) (fun _ _ => ?_)) <;> (try (exfalso; omega))
    | (with_reducible refine wp_needStop (fun _ => ?_) (fun _ _ => ?_)) <;> (try (exfalso; omega))
    | (with_reducible refine wp_needService (fun _ => ?_) (fun _ _ => ?_)) <;> (try (exfalso; omega))
    | (with_reducible refine wp_needTrip (fun _ => ?_) (fun _ _ => ?_)) <;> (try (exfalso; omega))
    | (with_reducible refine wp_needCall (by omega) (fun _ => ?_) (fun _ _ _ _ => ?_)) <;> (try (exfalso; omega))
    | (with_reducible refine wp_needUnlike (fun _ => ?_) (fun _ => ?_)) <;> (try (exfalso; omega))
    | (with_reducible refine wp_needFound (fun _ => ?_) (fun _ => ?_)) <;> (try (exfalso; omega))
    | (with_reducible refine wp_needRoomForTrip (fun _ => ?_) (fun _ => ?_)) <;> (try (exfalso; omega))
    | (with_reducible refine wp_needRoomForSigns (by unfold InR; omega) (fun _ => ?_) (fun _ => ?_)) <;> (try (exfalso; omega))
    | (with_reducible refine wp_isNoStop (by (try simp (disch := omega) only [setM_ne, setM_hit, true_and, and_true]); omega) (by (try simp (disch := omega) only [setM_ne, setM_hit, true_and, and_true]); omega) (fun h => ?_) (fun h1 h2 => ?_)) <;> (try simp (disch := omega) only [setM_ne, setM_hit, true_and, and_true] at h) <;> (try simp (disch := omega) only [setM_ne, setM_hit, true_and, and_true] at h1) <;> (try simp (disch := omega) only [setM_ne, setM_hit, true_and, and_true] at h2) <;> (try (exfalso; omega))
    | (with_reducible refine wp_isNoService (by (try simp (disch := omega) only [setM_ne, setM_hit, true_and, and_true]); omega) (by (try simp (disch := omega) only [setM_ne, setM_hit, true_and, and_true]); omega) (fun h => ?_) (fun h1 h2 => ?_)) <;> (try simp (disch := omega) only [setM_ne, setM_hit, true_and, and_true] at h) <;> (try simp (disch := omega) only [setM_ne, setM_hit, true_and, and_true] at h1) <;> (try simp (disch := omega) only [setM_ne, setM_hit, true_and, and_true] at h2) <;> (try (exfalso; omega))
    | (with_reducible refine wp_isNoTrip (by (try simp (disch := omega) only [setM_ne, setM_hit, true_and, and_true]); omega) (by (try simp (disch := omega) only [setM_ne, setM_hit, true_and, and_true]); omega) (fun h => ?_) (fun h1 h2 => ?_)) <;> (try simp (disch := omega) only [setM_ne, setM_hit, true_and, and_true] at h) <;> (try simp (disch := omega) only [setM_ne, setM_hit, true_and, and_true] at h1) <;> (try simp (disch := omega) only [setM_ne, setM_hit, true_and, and_true] at h2) <;> (try (exfalso; omega))
    | (with_reducible refine wp_isNoDay (fun h => ?_) (fun h1 h2 => ?_)) <;> (try (exfalso; omega))
    | (with_reducible refine wp_isThrownI (fun h => ?_) (fun h => ?_)) <;> (try simp (disch := omega) only [setM_ne, setM_hit, true_and, and_true] at h) <;> (try simp only [isIn0] at h) <;> (try (exfalso; omega))
    | with_reducible refine ok_grd (by (try simp (disch := omega) only [setM_ne, setM_hit, true_and, and_true]); (try unfold InR); omega) ?_
    | (with_reducible refine ok_some ?_) <;> (try dsimp only)
    | (with_reducible refine ok_ite (fun h => ?_) (fun h => ?_)) <;> (try dsimp only at h) <;> (try simp (disch := omega) only [setM_ne, setM_hit, true_and, and_true] at h) <;> (try simp only [isIn0, i01] at h) <;> (try (exfalso; first | exact h trivial | omega)))
    all_goals unfold M_call
    all_goals repeat' (first
    | with_reducible refine ok_ltv ?_
    | with_reducible refine ok_tbd_inl ?_
    | with_reducible refine ok_tbd_inr ?_
    | with_reducible refine wp_bind ?_
    | with_reducible refine wp_bq1 ?_
    | with_reducible refine wp_bq2 ?_
    | (with_reducible refine wp_needNumber (fun _ => ?_) (fun _ _ => ?_)) <;> (try (exfalso; omega))
    | (with_reducible refine wp_needDay (fun _ => ?_) (fun _ _ => ?_)) <;> (try (exfalso; omega))
    | (with_reducible refine wp_needStop (fun _ => ?_) (fun _ _ => ?_)) <;> (try (exfalso; omega))
    | (with_reducible refine wp_needService (fun _ => ?_) (fun _ _ => ?_)) <;> (try (exfalso; omega))
    | (with_reducible refine wp_needTrip (fun _ => ?_) (fun _ _ => ?_)) <;> (try (exfalso; omega))
    | (with_reducible refine wp_needCall (by omega) (fun _ => ?_) (fun _ _ _ _ => ?_)) <;> (try (exfalso; omega))
    | (with_reducible refine wp_needUnlike (fun _ => ?_) (fun _ => ?_)) <;> (try (exfalso; omega))
    | (with_reducible refine wp_needFound (fun _ => ?_) (fun _ => ?_)) <;> (try (exfalso; omega))
    | (with_reducible refine wp_needRoomForTrip (fun _ => ?_) (fun _ => ?_)) <;> (try (exfalso; omega))
    | (with_reducible refine wp_needRoomForSigns (by unfold InR; omega) (fun _ => ?_) (fun _ => ?_)) <;> (try (exfalso; omega))
    | (with_reducible refine wp_isNoStop (by (try simp (disch := omega) only [setM_ne, setM_hit, true_and, and_true]); omega) (by (try simp (disch := omega) only [setM_ne, setM_hit, true_and, and_true]); omega) (fun h => ?_) (fun h1 h2 => ?_)) <;> (try simp (disch := omega) only [setM_ne, setM_hit, true_and, and_true] at h) <;> (try simp (disch := omega) only [setM_ne, setM_hit, true_and, and_true] at h1) <;> (try simp (disch := omega) only [setM_ne, setM_hit, true_and, and_true] at h2) <;> (try (exfalso; omega))
    | (with_reducible refine wp_isNoService (by (try simp (disch := omega) only [setM_ne, setM_hit, true_and, and_true]); omega) (by (try simp (disch := omega) only [setM_ne, setM_hit, true_and, and_true]); omega) (fun h => ?_) (fun h1 h2 => ?_)) <;> (try simp (disch := omega) only [setM_ne, setM_hit, true_and, and_true] at h) <;> (try simp (disch := omega) only [setM_ne, setM_hit, true_and, and_true] at h1) <;> (try simp (disch := omega) only [setM_ne, setM_hit, true_and, and_true] at h2) <;> (try (exfalso; omega))
    | (with_reducible refine wp_isNoTrip (by (try simp (disch := omega) only [setM_ne, setM_hit, true_and, and_true]); omega) (by (try simp (disch := omega) only [setM_ne, setM_hit, true_and, and_true]); omega) (fun h => ?_) (fun h1 h2 => ?_)) <;> (try simp (disch := omega) only [setM_ne, setM_hit, true_and, and_true] at h) <;> (try simp (disch := omega) only [setM_ne, setM_hit, true_and, and_true] at h1) <;> (try simp (disch := omega) only [setM_ne, setM_hit, true_and, and_true] at h2) <;> (try (exfalso; omega))
    | (with_reducible refine wp_isNoDay (fun h => ?_) (fun h1 h2 => ?_)) <;> (try (exfalso; omega))
    | (with_reducible refine wp_isThrownI (fun h => ?_) (fun h => ?_)) <;> (try simp (disch := omega) only [setM_ne, setM_hit, true_and, and_true] at h) <;> (try simp only [isIn0] at h) <;> (try (exfalso; omega))
    | with_reducible refine ok_grd (by (try simp (disch := omega) only [setM_ne, setM_hit, true_and, and_true]); (try unfold InR); omega) ?_
    | (with_reducible refine ok_some ?_) <;> (try dsimp only)
    | (with_reducible refine ok_ite (fun h => ?_) (fun h => ?_)) <;> (try dsimp only at h) <;> (try simp (disch := omega) only [setM_ne, setM_hit, true_and, and_true] at h) <;> (try simp only [isIn0, i01] at h) <;> (try (exfalso; first | exact h trivial | omega)))
    · (refine agp_er ?_ ?_ ?_); decide; first | (rw [setM_same]; rfl) | (dsimp only; simp (disch := omega) only [setM_ne, setM_hit, true_and, and_true]; rfl)
      repeat (first | exact I | with_reducible refine Inv_thr ?_ _)
    · (refine agp_er ?_ ?_ ?_); decide; first | (rw [setM_same]; rfl) | (dsimp only; simp (disch := omega) only [setM_ne, setM_hit, true_and, and_true]; rfl)
      repeat (first | exact I | with_reducible refine Inv_thr ?_ _)
    · (refine agp_er ?_ ?_ ?_); decide; first | (rw [setM_same]; rfl) | (dsimp only; simp (disch := omega) only [setM_ne, setM_hit, true_and, and_true]; rfl)
      repeat (first | exact I | with_reducible refine Inv_thr ?_ _)
    · (refine agp_er ?_ ?_ ?_); decide; first | (rw [setM_same]; rfl) | (dsimp only; simp (disch := omega) only [setM_ne, setM_hit, true_and, and_true]; rfl)
      repeat (first | exact I | with_reducible refine Inv_thr ?_ _)
    · (refine agp_ok ?_ ?_ ?_); (first | exact setM_same _ _ _ _ | (focus ((try dsimp only); simp (disch := omega) only [setM_ne, setM_hit, true_and, and_true]; done)) | (focus ((try dsimp only); simp (disch := omega) only [setM_ne, setM_hit, true_and, and_true]; omega)))
      · (try dsimp only); first | omega | (simp (disch := omega) only [setM_ne, setM_hit, true_and, and_true]; done) | (simp (disch := omega) only [setM_ne, setM_hit, true_and, and_true]; omega)
      · refine ⟨IS_fr a (by intro c i h; unfold cS at h; first | rfl | (simp (disch := omega) only [setM_ne, setM_hit, true_and, and_true])) (by intro c i h; unfold mS at h; first | rfl | (simp (disch := omega) only [setM_ne, setM_hit, true_and, and_true])), IV_fr b (by intro c i h; unfold cV at h; first | rfl | (simp (disch := omega) only [setM_ne, setM_hit, true_and, and_true])) (by intro c i h; unfold mV at h; first | rfl | (simp (disch := omega) only [setM_ne, setM_hit, true_and, and_true])), ?_, ID_fr d (by intro c i h; unfold cD at h; first | rfl | (simp (disch := omega) only [setM_ne, setM_hit, true_and, and_true])) (by intro c i h; unfold mD at h; first | rfl | (simp (disch := omega) only [setM_ne, setM_hit, true_and, and_true])), IR_fr e (by intro c i h; unfold cR at h; first | rfl | (simp (disch := omega) only [setM_ne, setM_hit, true_and, and_true])) (by intro c i h; unfold mR at h; first | rfl | (simp (disch := omega) only [setM_ne, setM_hit, true_and, and_true])), IC_fr f (by intro c i h; unfold cK at h; first | rfl | (simp (disch := omega) only [setM_ne, setM_hit, true_and, and_true])) (by intro c i h; unfold mK at h; first | rfl | (simp (disch := omega) only [setM_ne, setM_hit, true_and, and_true])), ?_⟩
        · refine ⟨?_, ?_, ?_, fun t ht => ?_⟩
          · (try dsimp only); first | omega | (simp (disch := omega) only [setM_ne, setM_hit, true_and, and_true]; done) | (simp (disch := omega) only [setM_ne, setM_hit, true_and, and_true]; omega)
          · (try dsimp only); first | omega | (simp (disch := omega) only [setM_ne, setM_hit, true_and, and_true]; done) | (simp (disch := omega) only [setM_ne, setM_hit, true_and, and_true]; omega)
          · (try dsimp only); first | omega | (simp (disch := omega) only [setM_ne, setM_hit, true_and, and_true]; done) | (simp (disch := omega) only [setM_ne, setM_hit, true_and, and_true]; omega)
          · simp (disch := omega) only [setM_ne, setM_hit, true_and, and_true] at ht
            have q := t4 t (by omega)
            by_cases hh : t = p0.toNat
            · refine ⟨?_, ?_, ?_, ?_, ?_, ?_, fun x hx => ?_⟩
              · (try dsimp only); first | omega | (simp (disch := omega) only [setM_ne, setM_hit, true_and, and_true]; done) | (simp (disch := omega) only [setM_ne, setM_hit, true_and, and_true]; omega)
              · (try dsimp only); first | omega | (simp (disch := omega) only [setM_ne, setM_hit, true_and, and_true]; done) | (simp (disch := omega) only [setM_ne, setM_hit, true_and, and_true]; omega)
              · (try dsimp only); first | omega | (simp (disch := omega) only [setM_ne, setM_hit, true_and, and_true]; done) | (simp (disch := omega) only [setM_ne, setM_hit, true_and, and_true]; omega)
              · subst hh
                simp (disch := omega) only [setM_ne, setM_hit, true_and, and_true]
                omega
              · (try dsimp only); first | omega | (simp (disch := omega) only [setM_ne, setM_hit, true_and, and_true]; done) | (simp (disch := omega) only [setM_ne, setM_hit, true_and, and_true]; omega)
              · (try dsimp only); first | omega | (simp (disch := omega) only [setM_ne, setM_hit, true_and, and_true]; done) | (simp (disch := omega) only [setM_ne, setM_hit, true_and, and_true]; omega)
              · rw [hh] at hx
                simp (disch := omega) only [setM_ne, setM_hit, true_and, and_true] at hx
                unfold ITc
                rw [hh]
                by_cases hx2 : x = (mc 33 p0.toNat).toNat
                · refine ⟨?_, ?_, ?_, ?_, ?_, ?_, ?_, ?_, fun _ => ?_, fun z => ?_⟩
                  · (try dsimp only); first | omega | (simp (disch := omega) only [setM_ne, setM_hit, true_and, and_true]; done) | (simp (disch := omega) only [setM_ne, setM_hit, true_and, and_true]; omega)
                  · (try dsimp only); first | omega | (simp (disch := omega) only [setM_ne, setM_hit, true_and, and_true]; done) | (simp (disch := omega) only [setM_ne, setM_hit, true_and, and_true]; omega)
                  · (try dsimp only); first | omega | (simp (disch := omega) only [setM_ne, setM_hit, true_and, and_true]; done) | (simp (disch := omega) only [setM_ne, setM_hit, true_and, and_true]; omega)
                  · (try dsimp only); first | omega | (simp (disch := omega) only [setM_ne, setM_hit, true_and, and_true]; done) | (simp (disch := omega) only [setM_ne, setM_hit, true_and, and_true]; omega)
                  · (try dsimp only); first | omega | (simp (disch := omega) only [setM_ne, setM_hit, true_and, and_true]; done) | (simp (disch := omega) only [setM_ne, setM_hit, true_and, and_true]; omega)
                  · (try dsimp only); first | omega | (simp (disch := omega) only [setM_ne, setM_hit, true_and, and_true]; done) | (simp (disch := omega) only [setM_ne, setM_hit, true_and, and_true]; omega)
                  · (try dsimp only); first | omega | (simp (disch := omega) only [setM_ne, setM_hit, true_and, and_true]; done) | (simp (disch := omega) only [setM_ne, setM_hit, true_and, and_true]; omega)
                  · (try dsimp only); first | omega | (simp (disch := omega) only [setM_ne, setM_hit, true_and, and_true]; done) | (simp (disch := omega) only [setM_ne, setM_hit, true_and, and_true]; omega)
                  · exfalso
                    omega
                  · exfalso
                    simp (disch := omega) only [setM_ne, setM_hit, true_and, and_true] at z
                    omega
                · have r := q.2.2.2.2.2.2 x (by rw [hh]; omega)
                  rw [hh] at r
                  unfold ITc at r
                  refine ⟨?_, ?_, ?_, ?_, ?_, ?_, ?_, ?_, fun _ => ?_, fun z => ?_⟩
                  · (try dsimp only); first | omega | (simp (disch := omega) only [setM_ne, setM_hit, true_and, and_true]; done) | (simp (disch := omega) only [setM_ne, setM_hit, true_and, and_true]; omega)
                  · (try dsimp only); first | omega | (simp (disch := omega) only [setM_ne, setM_hit, true_and, and_true]; done) | (simp (disch := omega) only [setM_ne, setM_hit, true_and, and_true]; omega)
                  · (try dsimp only); first | omega | (simp (disch := omega) only [setM_ne, setM_hit, true_and, and_true]; done) | (simp (disch := omega) only [setM_ne, setM_hit, true_and, and_true]; omega)
                  · (try dsimp only); first | omega | (simp (disch := omega) only [setM_ne, setM_hit, true_and, and_true]; done) | (simp (disch := omega) only [setM_ne, setM_hit, true_and, and_true]; omega)
                  · (try dsimp only); first | omega | (simp (disch := omega) only [setM_ne, setM_hit, true_and, and_true]; done) | (simp (disch := omega) only [setM_ne, setM_hit, true_and, and_true]; omega)
                  · (try dsimp only); first | omega | (simp (disch := omega) only [setM_ne, setM_hit, true_and, and_true]; done) | (simp (disch := omega) only [setM_ne, setM_hit, true_and, and_true]; omega)
                  · (try dsimp only); first | omega | (simp (disch := omega) only [setM_ne, setM_hit, true_and, and_true]; done) | (simp (disch := omega) only [setM_ne, setM_hit, true_and, and_true]; omega)
                  · (try dsimp only); first | omega | (simp (disch := omega) only [setM_ne, setM_hit, true_and, and_true]; done) | (simp (disch := omega) only [setM_ne, setM_hit, true_and, and_true]; omega)
                  · (try dsimp only); first | omega | (simp (disch := omega) only [setM_ne, setM_hit, true_and, and_true]; done) | (simp (disch := omega) only [setM_ne, setM_hit, true_and, and_true]; omega)
                  · by_cases hx3 : x + 1 = (mc 33 p0.toNat).toNat
                    · have ex : x = (mc 33 p0.toNat - 1).toNat := by omega
                      simp (disch := omega) only [setM_ne, setM_hit, true_and, and_true]
                      rw [ex]
                      omega
                    · (try dsimp only); first | omega | (simp (disch := omega) only [setM_ne, setM_hit, true_and, and_true]; done) | (simp (disch := omega) only [setM_ne, setM_hit, true_and, and_true]; omega)
            · refine ⟨?_, ?_, ?_, ?_, ?_, ?_, fun x hx => ?_⟩
              · (try dsimp only); first | omega | (simp (disch := omega) only [setM_ne, setM_hit, true_and, and_true]; done) | (simp (disch := omega) only [setM_ne, setM_hit, true_and, and_true]; omega)
              · (try dsimp only); first | omega | (simp (disch := omega) only [setM_ne, setM_hit, true_and, and_true]; done) | (simp (disch := omega) only [setM_ne, setM_hit, true_and, and_true]; omega)
              · (try dsimp only); first | omega | (simp (disch := omega) only [setM_ne, setM_hit, true_and, and_true]; done) | (simp (disch := omega) only [setM_ne, setM_hit, true_and, and_true]; omega)
              · (try dsimp only); first | omega | (simp (disch := omega) only [setM_ne, setM_hit, true_and, and_true]; done) | (simp (disch := omega) only [setM_ne, setM_hit, true_and, and_true]; omega)
              · (try dsimp only); first | omega | (simp (disch := omega) only [setM_ne, setM_hit, true_and, and_true]; done) | (simp (disch := omega) only [setM_ne, setM_hit, true_and, and_true]; omega)
              · (try dsimp only); first | omega | (simp (disch := omega) only [setM_ne, setM_hit, true_and, and_true]; done) | (simp (disch := omega) only [setM_ne, setM_hit, true_and, and_true]; omega)
              · simp (disch := omega) only [setM_ne, setM_hit, true_and, and_true] at hx
                have r := q.2.2.2.2.2.2 x hx
                unfold ITc at r ⊢
                simp (disch := omega) only [setM_ne, setM_hit, true_and, and_true]
                exact r
        · refine ⟨?_, ?_, ?_, fun k hk => ?_⟩
          · (try dsimp only); first | omega | (simp (disch := omega) only [setM_ne, setM_hit, true_and, and_true]; done) | (simp (disch := omega) only [setM_ne, setM_hit, true_and, and_true]; omega)
          · (try dsimp only); first | omega | (simp (disch := omega) only [setM_ne, setM_hit, true_and, and_true]; done) | (simp (disch := omega) only [setM_ne, setM_hit, true_and, and_true]; omega)
          · (try dsimp only); first | omega | (simp (disch := omega) only [setM_ne, setM_hit, true_and, and_true]; done) | (simp (disch := omega) only [setM_ne, setM_hit, true_and, and_true]; omega)
          · simp (disch := omega) only [setM_ne, setM_hit, true_and, and_true] at hk
            have q := w4 k hk
            by_cases h1 : (mc 401 k).toNat = p0.toNat
            · by_cases h2 : (mc 403 k).toNat = p0.toNat
              · have e3 : mc 33 (mc 401 k).toNat = mc 33 p0.toNat := by rw [h1]
                have e4 : mc 33 (mc 403 k).toNat = mc 33 p0.toNat := by rw [h2]
                simp (disch := omega) only [setM_ne, setM_hit, true_and, and_true]
                omega
              · have e3 : mc 33 (mc 401 k).toNat = mc 33 p0.toNat := by rw [h1]
                simp (disch := omega) only [setM_ne, setM_hit, true_and, and_true]
                omega
            · by_cases h2 : (mc 403 k).toNat = p0.toNat
              · have e4 : mc 33 (mc 403 k).toNat = mc 33 p0.toNat := by rw [h2]
                simp (disch := omega) only [setM_ne, setM_hit, true_and, and_true]
                omega
              · simp (disch := omega) only [setM_ne, setM_hit, true_and, and_true]
                omega
theorem st_ride : ST_ride Inv := by
  intro mc mm p0 p1 I hk _ _
  obtain ⟨a, b, c, d, e, f, g⟩ := id I
  obtain ⟨i1, i2, i3, i4, i5⟩ := id f
  have hq : ∀ x : Int, 0 ≤ x → 0 ≤ x.tdiv 24 ∧ x.tdiv 24 ≤ x := fun x hx => by rw [Int.tdiv_eq_ediv_of_nonneg hx]; omega
  unfold InR at hk
  refine ag_of ?_
  unfold C_ride
  by_cases hp : 0 ≤ p0 ∧ p0 < mc 355 4
  case neg =>
    have i4' : mm 0 29 ≤ mc 355 4 := by rw [i4]; split <;> omega
    repeat' (first
    | with_reducible refine ok_ltv ?_
    | with_reducible refine ok_tbd_inl ?_
    | with_reducible refine ok_tbd_inr ?_
    | with_reducible refine wp_bind ?_
    | with_reducible refine wp_bq1 ?_
    | with_reducible refine wp_bq2 ?_
    | (with_reducible refine wp_needNumber (fun _ => ?_) (fun _ _ => ?_)) <;> (try (exfalso; omega))
    | (with_reducible refine wp_needDay (fun _ => ?_) (fun _ _ => ?_)) <;> (try (exfalso; omega))
    | (with_reducible refine wp_needStop (fun _ => ?_) (fun _ _ => ?_)) <;> (try (exfalso; omega))
    | (with_reducible refine wp_needService (fun _ => ?_) (fun _ _ => ?_)) <;> (try (exfalso; omega))
    | (with_reducible refine wp_needTrip (fun _ => ?_) (fun _ _ => ?_)) <;> (try (exfalso; omega))
    | (with_reducible refine wp_needCall (by omega) (fun _ => ?_) (fun _ _ _ _ => ?_)) <;> (try (exfalso; omega))
    | (with_reducible refine wp_needUnlike (fun _ => ?_) (fun _ => ?_)) <;> (try (exfalso; omega))
    | (with_reducible refine wp_needFound (fun _ => ?_) (fun _ => ?_)) <;> (try (exfalso; omega))
    | (with_reducible refine wp_needRoomForTrip (fun _ => ?_) (fun _ => ?_)) <;> (try (exfalso; omega))
    | (with_reducible refine wp_needRoomForSigns (by unfold InR; omega) (fun _ => ?_) (fun _ => ?_)) <;> (try (exfalso; omega))
    | (with_reducible refine wp_isNoStop (by (try simp (disch := omega) only [setM_ne, setM_hit, true_and, and_true]); omega) (by (try simp (disch := omega) only [setM_ne, setM_hit, true_and, and_true]); omega) (fun h => ?_) (fun h1 h2 => ?_)) <;> (try simp (disch := omega) only [setM_ne, setM_hit, true_and, and_true] at h) <;> (try simp (disch := omega) only [setM_ne, setM_hit, true_and, and_true] at h1) <;> (try simp (disch := omega) only [setM_ne, setM_hit, true_and, and_true] at h2) <;> (try (exfalso; omega))
    | (with_reducible refine wp_isNoService (by (try simp (disch := omega) only [setM_ne, setM_hit, true_and, and_true]); omega) (by (try simp (disch := omega) only [setM_ne, setM_hit, true_and, and_true]); omega) (fun h => ?_) (fun h1 h2 => ?_)) <;> (try simp (disch := omega) only [setM_ne, setM_hit, true_and, and_true] at h) <;> (try simp (disch := omega) only [setM_ne, setM_hit, true_and, and_true] at h1) <;> (try simp (disch := omega) only [setM_ne, setM_hit, true_and, and_true] at h2) <;> (try (exfalso; omega))
    | (with_reducible refine wp_isNoTrip (by (try simp (disch := omega) only [setM_ne, setM_hit, true_and, and_true]); omega) (by (try simp (disch := omega) only [setM_ne, setM_hit, true_and, and_true]); omega) (fun h => ?_) (fun h1 h2 => ?_)) <;> (try simp (disch := omega) only [setM_ne, setM_hit, true_and, and_true] at h) <;> (try simp (disch := omega) only [setM_ne, setM_hit, true_and, and_true] at h1) <;> (try simp (disch := omega) only [setM_ne, setM_hit, true_and, and_true] at h2) <;> (try (exfalso; omega))
    | (with_reducible refine wp_isNoDay (fun h => ?_) (fun h1 h2 => ?_)) <;> (try (exfalso; omega))
    | (with_reducible refine wp_isThrownI (fun h => ?_) (fun h => ?_)) <;> (try simp (disch := omega) only [setM_ne, setM_hit, true_and, and_true] at h) <;> (try simp only [isIn0] at h) <;> (try (exfalso; omega))
    | with_reducible refine ok_grd (by (try simp (disch := omega) only [setM_ne, setM_hit, true_and, and_true]); (try unfold InR); omega) ?_
    | (with_reducible refine ok_some ?_) <;> (try dsimp only)
    | (with_reducible refine ok_ite (fun h => ?_) (fun h => ?_)) <;> (try dsimp only at h) <;> (try simp (disch := omega) only [setM_ne, setM_hit, true_and, and_true] at h) <;> (try simp only [isIn0, i01] at h) <;> (try (exfalso; first | exact h trivial | omega)))
    all_goals unfold M_ride
    all_goals repeat' (first
    | with_reducible refine ok_ltv ?_
    | with_reducible refine ok_tbd_inl ?_
    | with_reducible refine ok_tbd_inr ?_
    | with_reducible refine wp_bind ?_
    | with_reducible refine wp_bq1 ?_
    | with_reducible refine wp_bq2 ?_
    | (with_reducible refine wp_needNumber (fun _ => ?_) (fun _ _ => ?_)) <;> (try (exfalso; omega))
    | (with_reducible refine wp_needDay (fun _ => ?_) (fun _ _ => ?_)) <;> (try (exfalso; omega))
    | (with_reducible refine wp_needStop (fun _ => ?_) (fun _ _ => ?_)) <;> (try (exfalso; omega))
    | (with_reducible refine wp_needService (fun _ => ?_) (fun _ _ => ?_)) <;> (try (exfalso; omega))
    | (with_reducible refine wp_needTrip (fun _ => ?_) (fun _ _ => ?_)) <;> (try (exfalso; omega))
    | (with_reducible refine wp_needCall (by omega) (fun _ => ?_) (fun _ _ _ _ => ?_)) <;> (try (exfalso; omega))
    | (with_reducible refine wp_needUnlike (fun _ => ?_) (fun _ => ?_)) <;> (try (exfalso; omega))
    | (with_reducible refine wp_needFound (fun _ => ?_) (fun _ => ?_)) <;> (try (exfalso; omega))
    | (with_reducible refine wp_needRoomForTrip (fun _ => ?_) (fun _ => ?_)) <;> (try (exfalso; omega))
    | (with_reducible refine wp_needRoomForSigns (by unfold InR; omega) (fun _ => ?_) (fun _ => ?_)) <;> (try (exfalso; omega))
    | (with_reducible refine wp_isNoStop (by (try simp (disch := omega) only [setM_ne, setM_hit, true_and, and_true]); omega) (by (try simp (disch := omega) only [setM_ne, setM_hit, true_and, and_true]); omega) (fun h => ?_) (fun h1 h2 => ?_)) <;> (try simp (disch := omega) only [setM_ne, setM_hit, true_and, and_true] at h) <;> (try simp (disch := omega) only [setM_ne, setM_hit, true_and, and_true] at h1) <;> (try simp (disch := omega) only [setM_ne, setM_hit, true_and, and_true] at h2) <;> (try (exfalso; omega))
    | (with_reducible refine wp_isNoService (by (try simp (disch := omega) only [setM_ne, setM_hit, true_and, and_true]); omega) (by (try simp (disch := omega) only [setM_ne, setM_hit, true_and, and_true]); omega) (fun h => ?_) (fun h1 h2 => ?_)) <;> (try simp (disch := omega) only [setM_ne, setM_hit, true_and, and_true] at h) <;> (try simp (disch := omega) only [setM_ne, setM_hit, true_and, and_true] at h1) <;> (try simp (disch := omega) only [setM_ne, setM_hit, true_and, and_true] at h2) <;> (try (exfalso; omega))
    | (with_reducible refine wp_isNoTrip (by (try simp (disch := omega) only [setM_ne, setM_hit, true_and, and_true]); omega) (by (try simp (disch := omega) only [setM_ne, setM_hit, true_and, and_true]); omega) (fun h => ?_) (fun h1 h2 => ?_)) <;> (try simp (disch := omega) only [setM_ne, setM_hit, true_and, and_true] at h) <;> (try simp (disch := omega) only [setM_ne, setM_hit, true_and, and_true] at h1) <;> (try simp (disch := omega) only [setM_ne, setM_hit, true_and, and_true] at h2) <;> (try (exfalso; omega))
    | (with_reducible refine wp_isNoDay (fun h => ?_) (fun h1 h2 => ?_)) <;> (try (exfalso; omega))
    | (with_reducible refine wp_isThrownI (fun h => ?_) (fun h => ?_)) <;> (try simp (disch := omega) only [setM_ne, setM_hit, true_and, and_true] at h) <;> (try simp only [isIn0] at h) <;> (try (exfalso; omega))
    | with_reducible refine ok_grd (by (try simp (disch := omega) only [setM_ne, setM_hit, true_and, and_true]); (try unfold InR); omega) ?_
    | (with_reducible refine ok_some ?_) <;> (try dsimp only)
    | (with_reducible refine ok_ite (fun h => ?_) (fun h => ?_)) <;> (try dsimp only at h) <;> (try simp (disch := omega) only [setM_ne, setM_hit, true_and, and_true] at h) <;> (try simp only [isIn0, i01] at h) <;> (try (exfalso; first | exact h trivial | omega)))
    all_goals (refine agp_er ?_ ?_ ?_); decide; first | (rw [setM_same]; rfl) | (dsimp only; simp (disch := omega) only [setM_ne, setM_hit, true_and, and_true]; rfl)
    all_goals repeat (first | exact I | with_reducible refine Inv_thr ?_ _)
  case pos =>
    have i4' : mm 0 29 = mc 355 4 := by rw [i4] at hp ⊢; split <;> omega
    have q := i5 p0.toNat (by omega)
    have q1 := hq _ q.1
    repeat' (first
    | with_reducible refine ok_ltv ?_
    | with_reducible refine ok_tbd_inl ?_
    | with_reducible refine ok_tbd_inr ?_
    | with_reducible refine wp_bind ?_
    | with_reducible refine wp_bq1 ?_
    | with_reducible refine wp_bq2 ?_
    | (with_reducible refine wp_needNumber (fun _ => ?_) (fun _ _ => ?_)) <;> (try (exfalso; omega))
    | (with_reducible refine wp_needDay (fun _ => ?_) (fun _ _ => ?_)) <;> (try (exfalso; omega))
    | (with_reducible refine wp_needStop (fun _ => ?_) (fun _ _ => ?_)) <;> (try (exfalso; omega))
    | (with_reducible refine wp_needService (fun _ => ?_) (fun _ _ => ?_)) <;> (try (exfalso; omega))
    | (with_reducible refine wp_needTrip (fun _ => ?_) (fun _ _ => ?_)) <;> (try (exfalso; omega))
    | (with_reducible refine wp_needCall (by omega) (fun _ => ?_) (fun _ _ _ _ => ?_)) <;> (try (exfalso; omega))
    | (with_reducible refine wp_needUnlike (fun _ => ?_) (fun _ => ?_)) <;> (try (exfalso; omega))
    | (with_reducible refine wp_needFound (fun _ => ?_) (fun _ => ?_)) <;> (try (exfalso; omega))
    | (with_reducible refine wp_needRoomForTrip (fun _ => ?_) (fun _ => ?_)) <;> (try (exfalso; omega))
    | (with_reducible refine wp_needRoomForSigns (by unfold InR; omega) (fun _ => ?_) (fun _ => ?_)) <;> (try (exfalso; omega))
    | (with_reducible refine wp_isNoStop (by (try simp (disch := omega) only [setM_ne, setM_hit, true_and, and_true]); omega) (by (try simp (disch := omega) only [setM_ne, setM_hit, true_and, and_true]); omega) (fun h => ?_) (fun h1 h2 => ?_)) <;> (try simp (disch := omega) only [setM_ne, setM_hit, true_and, and_true] at h) <;> (try simp (disch := omega) only [setM_ne, setM_hit, true_and, and_true] at h1) <;> (try simp (disch := omega) only [setM_ne, setM_hit, true_and, and_true] at h2) <;> (try (exfalso; omega))
    | (with_reducible refine wp_isNoService (by (try simp (disch := omega) only [setM_ne, setM_hit, true_and, and_true]); omega) (by (try simp (disch := omega) only [setM_ne, setM_hit, true_and, and_true]); omega) (fun h => ?_) (fun h1 h2 => ?_)) <;> (try simp (disch := omega) only [setM_ne, setM_hit, true_and, and_true] at h) <;> (try simp (disch := omega) only [setM_ne, setM_hit, true_and, and_true] at h1) <;> (try simp (disch := omega) only [setM_ne, setM_hit, true_and, and_true] at h2) <;> (try (exfalso; omega))
    | (with_reducible refine wp_isNoTrip (by (try simp (disch := omega) only [setM_ne, setM_hit, true_and, and_true]); omega) (by (try simp (disch := omega) only [setM_ne, setM_hit, true_and, and_true]); omega) (fun h => ?_) (fun h1 h2 => ?_)) <;> (try simp (disch := omega) only [setM_ne, setM_hit, true_and, and_true] at h) <;> (try simp (disch := omega) only [setM_ne, setM_hit, true_and, and_true] at h1) <;> (try simp (disch := omega) only [setM_ne, setM_hit, true_and, and_true] at h2) <;> (try (exfalso; omega))
    | (with_reducible refine wp_isNoDay (fun h => ?_) (fun h1 h2 => ?_)) <;> (try (exfalso; omega))
    | (with_reducible refine wp_isThrownI (fun h => ?_) (fun h => ?_)) <;> (try simp (disch := omega) only [setM_ne, setM_hit, true_and, and_true] at h) <;> (try simp only [isIn0] at h) <;> (try (exfalso; omega))
    | with_reducible refine ok_grd (by (try simp (disch := omega) only [setM_ne, setM_hit, true_and, and_true]); (try unfold InR); omega) ?_
    | (with_reducible refine ok_some ?_) <;> (try dsimp only)
    | (with_reducible refine ok_ite (fun h => ?_) (fun h => ?_)) <;> (try dsimp only at h) <;> (try simp (disch := omega) only [setM_ne, setM_hit, true_and, and_true] at h) <;> (try simp only [isIn0, i01] at h) <;> (try (exfalso; first | exact h trivial | omega)))
    all_goals unfold M_ride
    all_goals repeat' (first
    | with_reducible refine ok_ltv ?_
    | with_reducible refine ok_tbd_inl ?_
    | with_reducible refine ok_tbd_inr ?_
    | with_reducible refine wp_bind ?_
    | with_reducible refine wp_bq1 ?_
    | with_reducible refine wp_bq2 ?_
    | (with_reducible refine wp_needNumber (fun _ => ?_) (fun _ _ => ?_)) <;> (try (exfalso; omega))
    | (with_reducible refine wp_needDay (fun _ => ?_) (fun _ _ => ?_)) <;> (try (exfalso; omega))
    | (with_reducible refine wp_needStop (fun _ => ?_) (fun _ _ => ?_)) <;> (try (exfalso; omega))
    | (with_reducible refine wp_needService (fun _ => ?_) (fun _ _ => ?_)) <;> (try (exfalso; omega))
    | (with_reducible refine wp_needTrip (fun _ => ?_) (fun _ _ => ?_)) <;> (try (exfalso; omega))
    | (with_reducible refine wp_needCall (by omega) (fun _ => ?_) (fun _ _ _ _ => ?_)) <;> (try (exfalso; omega))
    | (with_reducible refine wp_needUnlike (fun _ => ?_) (fun _ => ?_)) <;> (try (exfalso; omega))
    | (with_reducible refine wp_needFound (fun _ => ?_) (fun _ => ?_)) <;> (try (exfalso; omega))
    | (with_reducible refine wp_needRoomForTrip (fun _ => ?_) (fun _ => ?_)) <;> (try (exfalso; omega))
    | (with_reducible refine wp_needRoomForSigns (by unfold InR; omega) (fun _ => ?_) (fun _ => ?_)) <;> (try (exfalso; omega))
    | (with_reducible refine wp_isNoStop (by (try simp (disch := omega) only [setM_ne, setM_hit, true_and, and_true]); omega) (by (try simp (disch := omega) only [setM_ne, setM_hit, true_and, and_true]); omega) (fun h => ?_) (fun h1 h2 => ?_)) <;> (try simp (disch := omega) only [setM_ne, setM_hit, true_and, and_true] at h) <;> (try simp (disch := omega) only [setM_ne, setM_hit, true_and, and_true] at h1) <;> (try simp (disch := omega) only [setM_ne, setM_hit, true_and, and_true] at h2) <;> (try (exfalso; omega))
    | (with_reducible refine wp_isNoService (by (try simp (disch := omega) only [setM_ne, setM_hit, true_and, and_true]); omega) (by (try simp (disch := omega) only [setM_ne, setM_hit, true_and, and_true]); omega) (fun h => ?_) (fun h1 h2 => ?_)) <;> (try simp (disch := omega) only [setM_ne, setM_hit, true_and, and_true] at h) <;> (try simp (disch := omega) only [setM_ne, setM_hit, true_and, and_true] at h1) <;> (try simp (disch := omega) only [setM_ne, setM_hit, true_and, and_true] at h2) <;> (try (exfalso; omega))
    | (with_reducible refine wp_isNoTrip (by (try simp (disch := omega) only [setM_ne, setM_hit, true_and, and_true]); omega) (by (try simp (disch := omega) only [setM_ne, setM_hit, true_and, and_true]); omega) (fun h => ?_) (fun h1 h2 => ?_)) <;> (try simp (disch := omega) only [setM_ne, setM_hit, true_and, and_true] at h) <;> (try simp (disch := omega) only [setM_ne, setM_hit, true_and, and_true] at h1) <;> (try simp (disch := omega) only [setM_ne, setM_hit, true_and, and_true] at h2) <;> (try (exfalso; omega))
    | (with_reducible refine wp_isNoDay (fun h => ?_) (fun h1 h2 => ?_)) <;> (try (exfalso; omega))
    | (with_reducible refine wp_isThrownI (fun h => ?_) (fun h => ?_)) <;> (try simp (disch := omega) only [setM_ne, setM_hit, true_and, and_true] at h) <;> (try simp only [isIn0] at h) <;> (try (exfalso; omega))
    | with_reducible refine ok_grd (by (try simp (disch := omega) only [setM_ne, setM_hit, true_and, and_true]); (try unfold InR); omega) ?_
    | (with_reducible refine ok_some ?_) <;> (try dsimp only)
    | (with_reducible refine ok_ite (fun h => ?_) (fun h => ?_)) <;> (try dsimp only at h) <;> (try simp (disch := omega) only [setM_ne, setM_hit, true_and, and_true] at h) <;> (try simp only [isIn0, i01] at h) <;> (try (exfalso; first | exact h trivial | omega)))
    · (refine agp_er ?_ ?_ ?_); decide; first | (rw [setM_same]; rfl) | (dsimp only; simp (disch := omega) only [setM_ne, setM_hit, true_and, and_true]; rfl)
      repeat (first | exact I | with_reducible refine Inv_thr ?_ _)
    · (refine agp_ok ?_ ?_ ?_); (first | exact setM_same _ _ _ _ | (focus ((try dsimp only); simp (disch := omega) only [setM_ne, setM_hit, true_and, and_true]; done)) | (focus ((try dsimp only); simp (disch := omega) only [setM_ne, setM_hit, true_and, and_true]; omega)))
      · (try dsimp only)
        simp (disch := omega) only [setM_ne, setM_hit, true_and, and_true]
        rw [if_pos (by assumption)]
        omega
      · repeat (first | exact I | with_reducible refine Inv_thr ?_ _)
    · (refine agp_ok ?_ ?_ ?_); (first | exact setM_same _ _ _ _ | (focus ((try dsimp only); simp (disch := omega) only [setM_ne, setM_hit, true_and, and_true]; done)) | (focus ((try dsimp only); simp (disch := omega) only [setM_ne, setM_hit, true_and, and_true]; omega)))
      · (try dsimp only)
        simp (disch := omega) only [setM_ne, setM_hit, true_and, and_true]
        rw [if_neg (by assumption), if_pos (by assumption)]
        omega
      · repeat (first | exact I | with_reducible refine Inv_thr ?_ _)
    · (refine agp_ok ?_ ?_ ?_); (first | exact setM_same _ _ _ _ | (focus ((try dsimp only); simp (disch := omega) only [setM_ne, setM_hit, true_and, and_true]; done)) | (focus ((try dsimp only); simp (disch := omega) only [setM_ne, setM_hit, true_and, and_true]; omega)))
      · (try dsimp only)
        simp (disch := omega) only [setM_ne, setM_hit, true_and, and_true]
        rw [if_neg (by assumption), if_neg (by assumption)]
        split <;> omega
      · repeat (first | exact I | with_reducible refine Inv_thr ?_ _)
