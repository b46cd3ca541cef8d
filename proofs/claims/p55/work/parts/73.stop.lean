/-! ===== stop, walk, walkTime ===== -/
theorem wp_walks {m : Mem} {n : Nat} {P : Mem → Prop} (hn : m 0 1 = n) (hn2 : n ≤ 12) (hT : TB (toldM m)) (h : ∀ m', Fr3 m m' → (∀ a b : Nat, a < n → b < n → m' 3 (12 * a + b) = dg (fw (toldM m) (m 0 5) n) a b) → P m') : Ok (M_walks m) P := (walks_ok hn hn2 hT).mono (fun r q => h r q.1 q.2)
theorem IS_TB {mc mm : Mem} (I : IS mc mm) : TB (told mc) := fun a b ha hb => by
  have := I.2.2.2.2.2.2.1 a b ha hb
  unfold told
  exact this.2
theorem fw_MC {mc mm : Mem} {cut : Int} (h : ∀ a b : Nat, a < 12 → b < 12 → mm 2 (12 * a + b) = mc (4 + a) b) {n a b : Nat} (hn : n ≤ 12) (ha : a < 12) (hb : b < 12) : fw (toldM mm) cut n a b = fw (told mc) cut n a b := fw_congr h n a b hn ha hb
theorem st_stop : ST_stop Inv := by
  intro mc mm p0 I _
  obtain ⟨a, b, c, d, e, f, g⟩ := id I
  obtain ⟨i1, i2, i3, i4, i5, i6, i7, i8⟩ := id a
  obtain ⟨t1, t2, t3, t4⟩ := id c
  refine ag_of ?_
  unfold C_stop C_Stops_add
  repeat' (first
    | with_reducible refine ok_ltv ?_
    | with_reducible refine ok_tbd_inl ?_
    | with_reducible refine ok_tbd_inr ?_
    | with_reducible refine wp_bind ?_
    | with_reducible refine wp_bq1 ?_
    | with_reducible refine wp_bq2 ?_
    | (with_reducible refine wp_needNumber (fun _ => ?_) (fun _ _ => ?_)) <;> (try (exfalso; omega))
    | (with_reducible refine wp_needDay (fun _ => ?_) (fun _ _ => ?_)) <;> (try (exfalso; omega))
    | (with_reducible refine wp_needStop (fun _ => ?_) (fun _ _ => ?_)) <;> (try (exfalso; omega))
    | (with_reducible refine wp_needService (fun _ => ?_) (fun _ _ => ?_)) <;> (try (exfalso; omega))
    | (with_reducible refine wp_needTrip (fun _ => ?_) (fun _ _ => ?_)) <;> (try (exfalso; omega))
    | (with_reducible refine wp_needCall (by omega) (fun _ => ?_) (fun _ _ _ _ => ?_)) <;> (try (exfalso; omega))
    | (with_reducible refine wp_needUnlike (fun _ => ?_) (fun _ => ?_)) <;> (try (exfalso; omega))
    | (with_reducible refine wp_needFound (fun _ => ?_) (fun _ => ?_)) <;> (try (exfalso; omega))
    | (with_reducible refine wp_needRoomForTrip (fun _ => ?_) (fun _ => ?_)) <;> (try (exfalso; omega))
    | (with_reducible refine wp_needRoomForSigns (by unfold InR; omega) (fun _ => ?_) (fun _ => ?_)) <;> (try (exfalso; omega))
    | (with_reducible refine wp_isNoStop (by (try simp (disch := omega) only [setM_ne, setM_hit, true_and, and_true]); omega) (by (try simp (disch := omega) only [setM_ne, setM_hit, true_and, and_true]); omega) (fun h => ?_) (fun h1 h2 => ?_)) <;> (try simp (disch := omega) only [setM_ne, setM_hit, true_and, and_true] at h) <;> (try simp (disch := omega) only [setM_ne, setM_hit, true_and, and_true] at h1) <;> (try simp (disch := omega) only [setM_ne, setM_hit, true_and, and_true] at h2) <;> (try (exfalso; omega))
    | (with_reducible refine wp_isNoService (by (try simp (disch := omega) only [setM_ne, setM_hit, true_and, and_true]); omega) (by (try simp (disch := omega) only [setM_ne, setM_hit, true_and, and_true]); omega) (fun h => ?_) (fun h1 h2 => ?_)) <;> (try simp (disch := omega) only [setM_ne, setM_hit, true_and, and_true] at h) <;> (try simp (disch := omega) only [setM_ne, setM_hit, true_and, and_true] at h1) <;> (try simp (disch := omega) only [setM_ne, setM_hit, true_and, and_true] at h2) <;> (try (exfalso; omega))
    | (with_reducible refine wp_isNoTrip (by (try simp (disch := omega) only [setM_ne, setM_hit, true_and, and_true]); omega) (by (try simp (disch := omega) only [setM_ne, setM_hit, true_and, and_true]); omega) (fun h => ?_) (fun h1 h2 => ?_)) <;> (try simp (disch := omega) only [setM_ne, setM_hit, true_and, and_true] at h) <;> (try simp (disch := omega) only [setM_ne, setM_hit, true_and, and_true] at h1) <;> (try simp (disch := omega) only [setM_ne, setM_hit, true_and, and_true] at h2) <;> (try (exfalso; omega))
    | (with_reducible refine wp_isNoDay (fun h => ?_) (fun h1 h2 => ?_)) <;> (try (exfalso; omega))
    | with_reducible refine wp_isThrown1 ?_
    | with_reducible refine wp_isThrown0 ?_
    | (with_reducible refine wp_isThrownI (fun h => ?_) (fun h => ?_)) <;> (try simp (disch := omega) only [setM_ne, setM_hit, true_and, and_true] at h) <;> (try simp only [isIn0] at h) <;> (try (exfalso; omega))
    | with_reducible refine ok_grd (by (try simp (disch := omega) only [setM_ne, setM_hit, true_and, and_true]); (try unfold InR); omega) ?_
    | (with_reducible refine ok_some ?_) <;> (try dsimp only)
    | (with_reducible refine ok_ite (fun h => ?_) (fun h => ?_)) <;> (try dsimp only at h) <;> (try simp (disch := omega) only [setM_ne, setM_hit, true_and, and_true] at h) <;> (try simp only [isIn0, i01] at h) <;> (try (exfalso; first | exact h trivial | omega)))
  all_goals unfold M_stop
  all_goals repeat' (first
    | with_reducible refine ok_ltv ?_
    | with_reducible refine ok_tbd_inl ?_
    | with_reducible refine ok_tbd_inr ?_
    | with_reducible refine wp_bind ?_
    | with_reducible refine wp_bq1 ?_
    | with_reducible refine wp_bq2 ?_
    | (with_reducible refine wp_needNumber (fun _ => ?_) (fun _ _ => ?_)) <;> (try (exfalso; omega))
    | (with_reducible refine wp_needDay (fun _ => ?_) (fun _ _ => ?_)) <;> (try (exfalso; omega))
    | (with_reducible refine wp_needStop (fun _ => ?_) (fun _ _ => ?_)) <;> (try (exfalso; omega))
    | (with_reducible refine wp_needService (fun _ => ?_) (fun _ _ => ?_)) <;> (try (exfalso; omega))
    | (with_reducible refine wp_needTrip (fun _ => ?_) (fun _ _ => ?_)) <;> (try (exfalso; omega))
    | (with_reducible refine wp_needCall (by omega) (fun _ => ?_) (fun _ _ _ _ => ?_)) <;> (try (exfalso; omega))
    | (with_reducible refine wp_needUnlike (fun _ => ?_) (fun _ => ?_)) <;> (try (exfalso; omega))
    | (with_reducible refine wp_needFound (fun _ => ?_) (fun _ => ?_)) <;> (try (exfalso; omega))
    | (with_reducible refine wp_needRoomForTrip (fun _ => ?_) (fun _ => ?_)) <;> (try (exfalso; omega))
    | (with_reducible refine wp_needRoomForSigns (by unfold InR; omega) (fun _ => ?_) (fun _ => ?_)) <;> (try (exfalso; omega))
    | (with_reducible refine wp_isNoStop (by (try simp (disch := omega) only [setM_ne, setM_hit, true_and, and_true]); omega) (by (try simp (disch := omega) only [setM_ne, setM_hit, true_and, and_true]); omega) (fun h => ?_) (fun h1 h2 => ?_)) <;> (try simp (disch := omega) only [setM_ne, setM_hit, true_and, and_true] at h) <;> (try simp (disch := omega) only [setM_ne, setM_hit, true_and, and_true] at h1) <;> (try simp (disch := omega) only [setM_ne, setM_hit, true_and, and_true] at h2) <;> (try (exfalso; omega))
    | (with_reducible refine wp_isNoService (by (try simp (disch := omega) only [setM_ne, setM_hit, true_and, and_true]); omega) (by (try simp (disch := omega) only [setM_ne, setM_hit, true_and, and_true]); omega) (fun h => ?_) (fun h1 h2 => ?_)) <;> (try simp (disch := omega) only [setM_ne, setM_hit, true_and, and_true] at h) <;> (try simp (disch := omega) only [setM_ne, setM_hit, true_and, and_true] at h1) <;> (try simp (disch := omega) only [setM_ne, setM_hit, true_and, and_true] at h2) <;> (try (exfalso; omega))
    | (with_reducible refine wp_isNoTrip (by (try simp (disch := omega) only [setM_ne, setM_hit, true_and, and_true]); omega) (by (try simp (disch := omega) only [setM_ne, setM_hit, true_and, and_true]); omega) (fun h => ?_) (fun h1 h2 => ?_)) <;> (try simp (disch := omega) only [setM_ne, setM_hit, true_and, and_true] at h) <;> (try simp (disch := omega) only [setM_ne, setM_hit, true_and, and_true] at h1) <;> (try simp (disch := omega) only [setM_ne, setM_hit, true_and, and_true] at h2) <;> (try (exfalso; omega))
    | (with_reducible refine wp_isNoDay (fun h => ?_) (fun h1 h2 => ?_)) <;> (try (exfalso; omega))
    | with_reducible refine wp_isThrown1 ?_
    | with_reducible refine wp_isThrown0 ?_
    | (with_reducible refine wp_isThrownI (fun h => ?_) (fun h => ?_)) <;> (try simp (disch := omega) only [setM_ne, setM_hit, true_and, and_true] at h) <;> (try simp only [isIn0] at h) <;> (try (exfalso; omega))
    | with_reducible refine ok_grd (by (try simp (disch := omega) only [setM_ne, setM_hit, true_and, and_true]); (try unfold InR); omega) ?_
    | (with_reducible refine ok_some ?_) <;> (try dsimp only)
    | (with_reducible refine ok_ite (fun h => ?_) (fun h => ?_)) <;> (try dsimp only at h) <;> (try simp (disch := omega) only [setM_ne, setM_hit, true_and, and_true] at h) <;> (try simp only [isIn0, i01] at h) <;> (try (exfalso; first | exact h trivial | omega)))
  · (refine agp_er ?_ ?_ ?_); decide; (first | (rw [setM_same]; rfl) | (dsimp only; simp (disch := omega) only [setM_ne, setM_hit, true_and, and_true]; rfl))
    repeat (first | exact I | with_reducible refine Inv_thr ?_ _)
  · (refine agp_er ?_ ?_ ?_); decide; (first | (rw [setM_same]; rfl) | (dsimp only; simp (disch := omega) only [setM_ne, setM_hit, true_and, and_true]; rfl))
    repeat (first | exact I | with_reducible refine Inv_thr ?_ _)
  · have tm : ∀ m : Mem, (∀ a b : Nat, a < 12 → b < 12 → m 2 (12 * a + b) = mm 2 (12 * a + b)) → TB (toldM m) := fun m hm a b ha hb => by
      unfold toldM
      rw [hm a b ha hb]
      have := i7 a b ha hb
      exact ⟨by omega, by omega, fun q => by have := this.2.2.2 q; omega⟩
    refine wp_walks (n := (mc 1 0).toNat + 1) (by (try dsimp only); (first | omega | (simp (disch := omega) only [setM_ne, setM_hit, true_and, and_true]; done) | (simp (disch := omega) only [setM_ne, setM_hit, true_and, and_true]; omega))) (by omega) (tm _ (fun x y hx hy => by simp (disch := omega) only [setM_ne, setM_hit, true_and, and_true])) (fun m' ff ww => ?_)
    have e1 : m' 0 1 = mm 0 1 + 1 := by rw [ff 0 1 (by omega)]; simp (disch := omega) only [setM_ne, setM_hit, true_and, and_true]
    have e2 : m' 0 0 = 0 := by rw [ff 0 0 (by omega)]; simp (disch := omega) only [setM_ne, setM_hit, true_and, and_true]
    repeat' (first
    | with_reducible refine ok_ltv ?_
    | with_reducible refine ok_tbd_inl ?_
    | with_reducible refine ok_tbd_inr ?_
    | with_reducible refine wp_bind ?_
    | with_reducible refine wp_bq1 ?_
    | with_reducible refine wp_bq2 ?_
    | (with_reducible refine wp_needNumber (fun _ => ?_) (fun _ _ => ?_)) <;> (try (exfalso; omega))
    | (with_reducible refine wp_needDay (fun _ => ?_) (fun _ _ => ?_)) <;> (try (exfalso; omega))
    | (with_reducible refine wp_needStop (fun _ => ?_) (fun _ _ => ?_)) <;> (try (exfalso; omega))
    | (with_reducible refine wp_needService (fun _ => ?_) (fun _ _ => ?_)) <;> (try (exfalso; omega))
    | (with_reducible refine wp_needTrip (fun _ => ?_) (fun _ _ => ?_)) <;> (try (exfalso; omega))
    | (with_reducible refine wp_needCall (by omega) (fun _ => ?_) (fun _ _ _ _ => ?_)) <;> (try (exfalso; omega))
    | (with_reducible refine wp_needUnlike (fun _ => ?_) (fun _ => ?_)) <;> (try (exfalso; omega))
    | (with_reducible refine wp_needFound (fun _ => ?_) (fun _ => ?_)) <;> (try (exfalso; omega))
    | (with_reducible refine wp_needRoomForTrip (fun _ => ?_) (fun _ => ?_)) <;> (try (exfalso; omega))
    | (with_reducible refine wp_needRoomForSigns (by unfold InR; omega) (fun _ => ?_) (fun _ => ?_)) <;> (try (exfalso; omega))
    | (with_reducible refine wp_isNoStop (by (try simp (disch := omega) only [setM_ne, setM_hit, true_and, and_true]); omega) (by (try simp (disch := omega) only [setM_ne, setM_hit, true_and, and_true]); omega) (fun h => ?_) (fun h1 h2 => ?_)) <;> (try simp (disch := omega) only [setM_ne, setM_hit, true_and, and_true] at h) <;> (try simp (disch := omega) only [setM_ne, setM_hit, true_and, and_true] at h1) <;> (try simp (disch := omega) only [setM_ne, setM_hit, true_and, and_true] at h2) <;> (try (exfalso; omega))
    | (with_reducible refine wp_isNoService (by (try simp (disch := omega) only [setM_ne, setM_hit, true_and, and_true]); omega) (by (try simp (disch := omega) only [setM_ne, setM_hit, true_and, and_true]); omega) (fun h => ?_) (fun h1 h2 => ?_)) <;> (try simp (disch := omega) only [setM_ne, setM_hit, true_and, and_true] at h) <;> (try simp (disch := omega) only [setM_ne, setM_hit, true_and, and_true] at h1) <;> (try simp (disch := omega) only [setM_ne, setM_hit, true_and, and_true] at h2) <;> (try (exfalso; omega))
    | (with_reducible refine wp_isNoTrip (by (try simp (disch := omega) only [setM_ne, setM_hit, true_and, and_true]); omega) (by (try simp (disch := omega) only [setM_ne, setM_hit, true_and, and_true]); omega) (fun h => ?_) (fun h1 h2 => ?_)) <;> (try simp (disch := omega) only [setM_ne, setM_hit, true_and, and_true] at h) <;> (try simp (disch := omega) only [setM_ne, setM_hit, true_and, and_true] at h1) <;> (try simp (disch := omega) only [setM_ne, setM_hit, true_and, and_true] at h2) <;> (try (exfalso; omega))
    | (with_reducible refine wp_isNoDay (fun h => ?_) (fun h1 h2 => ?_)) <;> (try (exfalso; omega))
    | with_reducible refine wp_isThrown1 ?_
    | with_reducible refine wp_isThrown0 ?_
    | (with_reducible refine wp_isThrownI (fun h => ?_) (fun h => ?_)) <;> (try simp (disch := omega) only [setM_ne, setM_hit, true_and, and_true] at h) <;> (try simp only [isIn0] at h) <;> (try (exfalso; omega))
    | with_reducible refine ok_grd (by (try simp (disch := omega) only [setM_ne, setM_hit, true_and, and_true]); (try unfold InR); omega) ?_
    | (with_reducible refine ok_some ?_) <;> (try dsimp only)
    | (with_reducible refine ok_ite (fun h => ?_) (fun h => ?_)) <;> (try dsimp only at h) <;> (try simp (disch := omega) only [setM_ne, setM_hit, true_and, and_true] at h) <;> (try simp only [isIn0, i01] at h) <;> (try (exfalso; first | exact h trivial | omega)))
    refine agp_ok e2 ?_ ?_
    · (try dsimp only); (first | omega | (simp (disch := omega) only [setM_ne, setM_hit, true_and, and_true]; done) | (simp (disch := omega) only [setM_ne, setM_hit, true_and, and_true]; omega))
    · refine ⟨?_, IV_fr b (by intro c i h; unfold cV at h; first | rfl | (simp (disch := omega) only [setM_ne, setM_hit, true_and, and_true])) (by intro c i h; unfold mV at h; rw [ff c i (by omega)]; first | rfl | (simp (disch := omega) only [setM_ne, setM_hit, true_and, and_true])), ?_, ID_fr d (by intro c i h; unfold cD at h; first | rfl | (simp (disch := omega) only [setM_ne, setM_hit, true_and, and_true])) (by intro c i h; unfold mD at h; rw [ff c i (by omega)]; first | rfl | (simp (disch := omega) only [setM_ne, setM_hit, true_and, and_true])), IR_fr e (by intro c i h; unfold cR at h; first | rfl | (simp (disch := omega) only [setM_ne, setM_hit, true_and, and_true])) (by intro c i h; unfold mR at h; rw [ff c i (by omega)]; first | rfl | (simp (disch := omega) only [setM_ne, setM_hit, true_and, and_true])), IC_fr f (by intro c i h; unfold cK at h; first | rfl | (simp (disch := omega) only [setM_ne, setM_hit, true_and, and_true])) (by intro c i h; unfold mK at h; rw [ff c i (by omega)]; first | rfl | (simp (disch := omega) only [setM_ne, setM_hit, true_and, and_true])), IW_fr g (by intro c i h; unfold cW at h; first | rfl | (simp (disch := omega) only [setM_ne, setM_hit, true_and, and_true])) (by intro c i h; unfold mW at h; rw [ff c i (by omega)]; first | rfl | (simp (disch := omega) only [setM_ne, setM_hit, true_and, and_true]))⟩
      · refine ⟨?_, ?_, ?_, ?_, ?_, fun x hx => ?_, fun x y hx hy => ?_, fun x y hx hy => ?_⟩
        · (try dsimp only); (first | omega | (simp (disch := omega) only [setM_ne, setM_hit, true_and, and_true]; done) | (simp (disch := omega) only [setM_ne, setM_hit, true_and, and_true]; omega))
        · (try dsimp only); (first | omega | (simp (disch := omega) only [setM_ne, setM_hit, true_and, and_true]; done) | (simp (disch := omega) only [setM_ne, setM_hit, true_and, and_true]; omega))
        · (try dsimp only); (first | omega | (simp (disch := omega) only [setM_ne, setM_hit, true_and, and_true]; done) | (simp (disch := omega) only [setM_ne, setM_hit, true_and, and_true]; omega))
        · (try dsimp only); (first | omega | (simp (disch := omega) only [setM_ne, setM_hit, true_and, and_true]; done) | (simp (disch := omega) only [setM_ne, setM_hit, true_and, and_true]; omega))
        · rw [ff 0 5 (by omega)]
          (try dsimp only); (first | omega | (simp (disch := omega) only [setM_ne, setM_hit, true_and, and_true]; done) | (simp (disch := omega) only [setM_ne, setM_hit, true_and, and_true]; omega))
        · simp (disch := omega) only [setM_ne, setM_hit, true_and, and_true] at hx
          rw [ff 1 x (by omega)]
          by_cases hh : x = (mc 1 0).toNat
          · simp (disch := omega) only [setM_ne, setM_hit, true_and, and_true]
            omega
          · have q := i6 x (by omega)
            simp (disch := omega) only [setM_ne, setM_hit, true_and, and_true]
            exact q
        · rw [ff 2 _ (by omega)]
          have q := i7 x y hx hy
          simp (disch := omega) only [setM_ne, setM_hit, true_and, and_true]
          exact q
        · simp (disch := omega) only [setM_ne, setM_hit, true_and, and_true] at hx
          simp (disch := omega) only [setM_ne, setM_hit, true_and, and_true] at hy
          rw [ww x y (by omega) (by omega)]
          unfold dg
          congr 1
          have e5 : (mm 0 5) = -1 := i5
          simp (disch := omega) only [setM_ne, setM_hit, true_and, and_true]
          have e3 : (mc 1 0 + 1).toNat = (mc 1 0).toNat + 1 := by omega
          rw [i5, e3]
          refine fw_congr (fun x y hx hy => ?_) _ _ _ (by omega) (by omega) (by omega)
          unfold toldM told
          simp (disch := omega) only [setM_ne, setM_hit, true_and, and_true]
          exact (i7 x y hx hy).1
      · refine ⟨?_, ?_, ?_, fun t ht => ?_⟩
        · rw [ff 0 8 (by omega)]
          (try dsimp only); (first | omega | (simp (disch := omega) only [setM_ne, setM_hit, true_and, and_true]; done) | (simp (disch := omega) only [setM_ne, setM_hit, true_and, and_true]; omega))
        · (try dsimp only); (first | omega | (simp (disch := omega) only [setM_ne, setM_hit, true_and, and_true]; done) | (simp (disch := omega) only [setM_ne, setM_hit, true_and, and_true]; omega))
        · (try dsimp only); (first | omega | (simp (disch := omega) only [setM_ne, setM_hit, true_and, and_true]; done) | (simp (disch := omega) only [setM_ne, setM_hit, true_and, and_true]; omega))
        · simp (disch := omega) only [setM_ne, setM_hit, true_and, and_true] at ht
          have q := t4 t ht
          rw [ff 5 _ (by omega), ff 6 _ (by omega)]
          refine ⟨?_, ?_, ?_, ?_, ?_, ?_, fun x hx => ?_⟩
          · (try dsimp only); (first | omega | (simp (disch := omega) only [setM_ne, setM_hit, true_and, and_true]; done) | (simp (disch := omega) only [setM_ne, setM_hit, true_and, and_true]; omega))
          · (try dsimp only); (first | omega | (simp (disch := omega) only [setM_ne, setM_hit, true_and, and_true]; done) | (simp (disch := omega) only [setM_ne, setM_hit, true_and, and_true]; omega))
          · (try dsimp only); (first | omega | (simp (disch := omega) only [setM_ne, setM_hit, true_and, and_true]; done) | (simp (disch := omega) only [setM_ne, setM_hit, true_and, and_true]; omega))
          · (try dsimp only); (first | omega | (simp (disch := omega) only [setM_ne, setM_hit, true_and, and_true]; done) | (simp (disch := omega) only [setM_ne, setM_hit, true_and, and_true]; omega))
          · (try dsimp only); (first | omega | (simp (disch := omega) only [setM_ne, setM_hit, true_and, and_true]; done) | (simp (disch := omega) only [setM_ne, setM_hit, true_and, and_true]; omega))
          · (try dsimp only); (first | omega | (simp (disch := omega) only [setM_ne, setM_hit, true_and, and_true]; done) | (simp (disch := omega) only [setM_ne, setM_hit, true_and, and_true]; omega))
          · simp (disch := omega) only [setM_ne, setM_hit, true_and, and_true] at hx
            have r := q.2.2.2.2.2.2 x hx
            unfold ITc at r ⊢
            rw [ff 7 _ (by omega), ff 8 _ (by omega), ff 9 _ (by omega)]
            simp (disch := omega) only [setM_ne, setM_hit, true_and, and_true]
            exact ⟨r.1, r.2.1, by omega, r.2.2.2⟩
theorem st_walk : ST_walk Inv := by
  intro mc mm p0 p1 p2 I _ _ _
  obtain ⟨a, b, c, d, e, f, g⟩ := id I
  obtain ⟨i1, i2, i3, i4, i5, i6, i7, i8⟩ := id a
  refine ag_of ?_
  unfold C_walk
  repeat' (first
    | with_reducible refine ok_ltv ?_
    | with_reducible refine ok_tbd_inl ?_
    | with_reducible refine ok_tbd_inr ?_
    | with_reducible refine wp_bind ?_
    | with_reducible refine wp_bq1 ?_
    | with_reducible refine wp_bq2 ?_
    | (with_reducible refine wp_needNumber (fun _ => ?_) (fun _ _ => ?_)) <;> (try (exfalso; omega))
    | (with_reducible refine wp_needDay (fun _ => ?_) (fun _ _ => ?_)) <;> (try (exfalso; omega))
    | (with_reducible refine wp_needStop (fun _ => ?_) (fun _ _ => ?_)) <;> (try (exfalso; omega))
    | (with_reducible refine wp_needService (fun _ => ?_) (fun _ _ => ?_)) <;> (try (exfalso; omega))
    | (with_reducible refine wp_needTrip (fun _ => ?_) (fun _ _ => ?_)) <;> (try (exfalso; omega))
    | (with_reducible refine wp_needCall (by omega) (fun _ => ?_) (fun _ _ _ _ => ?_)) <;> (try (exfalso; omega))
    | (with_reducible refine wp_needUnlike (fun _ => ?_) (fun _ => ?_)) <;> (try (exfalso; omega))
    | (with_reducible refine wp_needFound (fun _ => ?_) (fun _ => ?_)) <;> (try (exfalso; omega))
    | (with_reducible refine wp_needRoomForTrip (fun _ => ?_) (fun _ => ?_)) <;> (try (exfalso; omega))
    | (with_reducible refine wp_needRoomForSigns (by unfold InR; omega) (fun _ => ?_) (fun _ => ?_)) <;> (try (exfalso; omega))
    | (with_reducible refine wp_isNoStop (by (try simp (disch := omega) only [setM_ne, setM_hit, true_and, and_true]); omega) (by (try simp (disch := omega) only [setM_ne, setM_hit, true_and, and_true]); omega) (fun h => ?_) (fun h1 h2 => ?_)) <;> (try simp (disch := omega) only [setM_ne, setM_hit, true_and, and_true] at h) <;> (try simp (disch := omega) only [setM_ne, setM_hit, true_and, and_true] at h1) <;> (try simp (disch := omega) only [setM_ne, setM_hit, true_and, and_true] at h2) <;> (try (exfalso; omega))
    | (with_reducible refine wp_isNoService (by (try simp (disch := omega) only [setM_ne, setM_hit, true_and, and_true]); omega) (by (try simp (disch := omega) only [setM_ne, setM_hit, true_and, and_true]); omega) (fun h => ?_) (fun h1 h2 => ?_)) <;> (try simp (disch := omega) only [setM_ne, setM_hit, true_and, and_true] at h) <;> (try simp (disch := omega) only [setM_ne, setM_hit, true_and, and_true] at h1) <;> (try simp (disch := omega) only [setM_ne, setM_hit, true_and, and_true] at h2) <;> (try (exfalso; omega))
    | (with_reducible refine wp_isNoTrip (by (try simp (disch := omega) only [setM_ne, setM_hit, true_and, and_true]); omega) (by (try simp (disch := omega) only [setM_ne, setM_hit, true_and, and_true]); omega) (fun h => ?_) (fun h1 h2 => ?_)) <;> (try simp (disch := omega) only [setM_ne, setM_hit, true_and, and_true] at h) <;> (try simp (disch := omega) only [setM_ne, setM_hit, true_and, and_true] at h1) <;> (try simp (disch := omega) only [setM_ne, setM_hit, true_and, and_true] at h2) <;> (try (exfalso; omega))
    | (with_reducible refine wp_isNoDay (fun h => ?_) (fun h1 h2 => ?_)) <;> (try (exfalso; omega))
    | with_reducible refine wp_isThrown1 ?_
    | with_reducible refine wp_isThrown0 ?_
    | (with_reducible refine wp_isThrownI (fun h => ?_) (fun h => ?_)) <;> (try simp (disch := omega) only [setM_ne, setM_hit, true_and, and_true] at h) <;> (try simp only [isIn0] at h) <;> (try (exfalso; omega))
    | with_reducible refine ok_grd (by (try simp (disch := omega) only [setM_ne, setM_hit, true_and, and_true]); (try unfold InR); omega) ?_
    | (with_reducible refine ok_some ?_) <;> (try dsimp only)
    | (with_reducible refine ok_ite (fun h => ?_) (fun h => ?_)) <;> (try dsimp only at h) <;> (try simp (disch := omega) only [setM_ne, setM_hit, true_and, and_true] at h) <;> (try simp only [isIn0, i01] at h) <;> (try (exfalso; first | exact h trivial | omega)))
  all_goals unfold M_walk
  all_goals repeat' (first
    | with_reducible refine ok_ltv ?_
    | with_reducible refine ok_tbd_inl ?_
    | with_reducible refine ok_tbd_inr ?_
    | with_reducible refine wp_bind ?_
    | with_reducible refine wp_bq1 ?_
    | with_reducible refine wp_bq2 ?_
    | (with_reducible refine wp_needNumber (fun _ => ?_) (fun _ _ => ?_)) <;> (try (exfalso; omega))
    | (with_reducible refine wp_needDay (fun _ => ?_) (fun _ _ => ?_)) <;> (try (exfalso; omega))
    | (with_reducible refine wp_needStop (fun _ => ?_) (fun _ _ => ?_)) <;> (try (exfalso; omega))
    | (with_reducible refine wp_needService (fun _ => ?_) (fun _ _ => ?_)) <;> (try (exfalso; omega))
    | (with_reducible refine wp_needTrip (fun _ => ?_) (fun _ _ => ?_)) <;> (try (exfalso; omega))
    | (with_reducible refine wp_needCall (by omega) (fun _ => ?_) (fun _ _ _ _ => ?_)) <;> (try (exfalso; omega))
    | (with_reducible refine wp_needUnlike (fun _ => ?_) (fun _ => ?_)) <;> (try (exfalso; omega))
    | (with_reducible refine wp_needFound (fun _ => ?_) (fun _ => ?_)) <;> (try (exfalso; omega))
    | (with_reducible refine wp_needRoomForTrip (fun _ => ?_) (fun _ => ?_)) <;> (try (exfalso; omega))
    | (with_reducible refine wp_needRoomForSigns (by unfold InR; omega) (fun _ => ?_) (fun _ => ?_)) <;> (try (exfalso; omega))
    | (with_reducible refine wp_isNoStop (by (try simp (disch := omega) only [setM_ne, setM_hit, true_and, and_true]); omega) (by (try simp (disch := omega) only [setM_ne, setM_hit, true_and, and_true]); omega) (fun h => ?_) (fun h1 h2 => ?_)) <;> (try simp (disch := omega) only [setM_ne, setM_hit, true_and, and_true] at h) <;> (try simp (disch := omega) only [setM_ne, setM_hit, true_and, and_true] at h1) <;> (try simp (disch := omega) only [setM_ne, setM_hit, true_and, and_true] at h2) <;> (try (exfalso; omega))
    | (with_reducible refine wp_isNoService (by (try simp (disch := omega) only [setM_ne, setM_hit, true_and, and_true]); omega) (by (try simp (disch := omega) only [setM_ne, setM_hit, true_and, and_true]); omega) (fun h => ?_) (fun h1 h2 => ?_)) <;> (try simp (disch := omega) only [setM_ne, setM_hit, true_and, and_true] at h) <;> (try simp (disch := omega) only [setM_ne, setM_hit, true_and, and_true] at h1) <;> (try simp (disch := omega) only [setM_ne, setM_hit, true_and, and_true] at h2) <;> (try (exfalso; omega))
    | (with_reducible refine wp_isNoTrip (by (try simp (disch := omega) only [setM_ne, setM_hit, true_and, and_true]); omega) (by (try simp (disch := omega) only [setM_ne, setM_hit, true_and, and_true]); omega) (fun h => ?_) (fun h1 h2 => ?_)) <;> (try simp (disch := omega) only [setM_ne, setM_hit, true_and, and_true] at h) <;> (try simp (disch := omega) only [setM_ne, setM_hit, true_and, and_true] at h1) <;> (try simp (disch := omega) only [setM_ne, setM_hit, true_and, and_true] at h2) <;> (try (exfalso; omega))
    | (with_reducible refine wp_isNoDay (fun h => ?_) (fun h1 h2 => ?_)) <;> (try (exfalso; omega))
    | with_reducible refine wp_isThrown1 ?_
    | with_reducible refine wp_isThrown0 ?_
    | (with_reducible refine wp_isThrownI (fun h => ?_) (fun h => ?_)) <;> (try simp (disch := omega) only [setM_ne, setM_hit, true_and, and_true] at h) <;> (try simp only [isIn0] at h) <;> (try (exfalso; omega))
    | with_reducible refine ok_grd (by (try simp (disch := omega) only [setM_ne, setM_hit, true_and, and_true]); (try unfold InR); omega) ?_
    | (with_reducible refine ok_some ?_) <;> (try dsimp only)
    | (with_reducible refine ok_ite (fun h => ?_) (fun h => ?_)) <;> (try dsimp only at h) <;> (try simp (disch := omega) only [setM_ne, setM_hit, true_and, and_true] at h) <;> (try simp only [isIn0, i01] at h) <;> (try (exfalso; first | exact h trivial | omega)))
  · (refine agp_er ?_ ?_ ?_); decide; (first | (rw [setM_same]; rfl) | (dsimp only; simp (disch := omega) only [setM_ne, setM_hit, true_and, and_true]; rfl))
    repeat (first | exact I | with_reducible refine Inv_thr ?_ _)
  · (refine agp_er ?_ ?_ ?_); decide; (first | (rw [setM_same]; rfl) | (dsimp only; simp (disch := omega) only [setM_ne, setM_hit, true_and, and_true]; rfl))
    repeat (first | exact I | with_reducible refine Inv_thr ?_ _)
  · (refine agp_er ?_ ?_ ?_); decide; (first | (rw [setM_same]; rfl) | (dsimp only; simp (disch := omega) only [setM_ne, setM_hit, true_and, and_true]; rfl))
    repeat (first | exact I | with_reducible refine Inv_thr ?_ _)
  · (refine agp_er ?_ ?_ ?_); decide; (first | (rw [setM_same]; rfl) | (dsimp only; simp (disch := omega) only [setM_ne, setM_hit, true_and, and_true]; rfl))
    repeat (first | exact I | with_reducible refine Inv_thr ?_ _)
  · have hne : p0.toNat ≠ p1.toNat := by omega
    have ix : (12 * p0 + p1).toNat = 12 * p0.toNat + p1.toNat := by omega
    have ix2 : (12 * p1 + p0).toNat = 12 * p1.toNat + p0.toNat := by omega
    have rd : ∀ x y : Nat, x < 12 → y < 12 → setM (setM (setM (setM (setM mm 0 0 0) 0 0 0) 0 0 0) 2 (12 * p0 + p1).toNat p2) 2 (12 * p1 + p0).toNat p2 2 (12 * x + y) = setM (setM mc (4 + p0.toNat) p1.toNat p2) (4 + p1.toNat) p0.toNat p2 (4 + x) y ∧ 0 ≤ setM (setM mc (4 + p0.toNat) p1.toNat p2) (4 + p1.toNat) p0.toNat p2 (4 + x) y ∧ setM (setM mc (4 + p0.toNat) p1.toNat p2) (4 + p1.toNat) p0.toNat p2 (4 + x) y ≤ 60 ∧ (x = y → setM (setM mc (4 + p0.toNat) p1.toNat p2) (4 + p1.toNat) p0.toNat p2 (4 + x) y = 0) := by
      intro x y hx hy
      have q := i7 x y hx hy
      by_cases h1 : x = p1.toNat ∧ y = p0.toNat
      · simp (disch := omega) only [setM_ne, setM_hit, true_and, and_true]
        omega
      · by_cases h2 : x = p0.toNat ∧ y = p1.toNat
        · simp (disch := omega) only [setM_ne, setM_hit, true_and, and_true]
          omega
        · simp (disch := omega) only [setM_ne, setM_hit, true_and, and_true]
          exact q
    refine wp_walks (n := (mc 1 0).toNat) (by (try dsimp only); (first | omega | (simp (disch := omega) only [setM_ne, setM_hit, true_and, and_true]; done) | (simp (disch := omega) only [setM_ne, setM_hit, true_and, and_true]; omega))) (by omega) (fun x y hx hy => ?_) (fun m' ff ww => ?_)
    · unfold toldM
      have := rd x y hx hy
      rw [this.1]
      exact this.2
    · have e2 : m' 0 0 = 0 := by rw [ff 0 0 (by omega)]; simp (disch := omega) only [setM_ne, setM_hit, true_and, and_true]
      repeat' (first
    | with_reducible refine ok_ltv ?_
    | with_reducible refine ok_tbd_inl ?_
    | with_reducible refine ok_tbd_inr ?_
    | with_reducible refine wp_bind ?_
    | with_reducible refine wp_bq1 ?_
    | with_reducible refine wp_bq2 ?_
    | (with_reducible refine wp_needNumber (fun _ => ?_) (fun _ _ => ?_)) <;> (try (exfalso; omega))
    | (with_reducible refine wp_needDay (fun _ => ?_) (fun _ _ => ?_)) <;> (try (exfalso; omega))
    | (with_reducible refine wp_needStop (fun _ => ?_) (fun _ _ => ?_)) <;> (try (exfalso; omega))
    | (with_reducible refine wp_needService (fun _ => ?_) (fun _ _ => ?_)) <;> (try (exfalso; omega))
    | (with_reducible refine wp_needTrip (fun _ => ?_) (fun _ _ => ?_)) <;> (try (exfalso; omega))
    | (with_reducible refine wp_needCall (by omega) (fun _ => ?_) (fun _ _ _ _ => ?_)) <;> (try (exfalso; omega))
    | (with_reducible refine wp_needUnlike (fun _ => ?_) (fun _ => ?_)) <;> (try (exfalso; omega))
    | (with_reducible refine wp_needFound (fun _ => ?_) (fun _ => ?_)) <;> (try (exfalso; omega))
    | (with_reducible refine wp_needRoomForTrip (fun _ => ?_) (fun _ => ?_)) <;> (try (exfalso; omega))
    | (with_reducible refine wp_needRoomForSigns (by unfold InR; omega) (fun _ => ?_) (fun _ => ?_)) <;> (try (exfalso; omega))
    | (with_reducible refine wp_isNoStop (by (try simp (disch := omega) only [setM_ne, setM_hit, true_and, and_true]); omega) (by (try simp (disch := omega) only [setM_ne, setM_hit, true_and, and_true]); omega) (fun h => ?_) (fun h1 h2 => ?_)) <;> (try simp (disch := omega) only [setM_ne, setM_hit, true_and, and_true] at h) <;> (try simp (disch := omega) only [setM_ne, setM_hit, true_and, and_true] at h1) <;> (try simp (disch := omega) only [setM_ne, setM_hit, true_and, and_true] at h2) <;> (try (exfalso; omega))
    | (with_reducible refine wp_isNoService (by (try simp (disch := omega) only [setM_ne, setM_hit, true_and, and_true]); omega) (by (try simp (disch := omega) only [setM_ne, setM_hit, true_and, and_true]); omega) (fun h => ?_) (fun h1 h2 => ?_)) <;> (try simp (disch := omega) only [setM_ne, setM_hit, true_and, and_true] at h) <;> (try simp (disch := omega) only [setM_ne, setM_hit, true_and, and_true] at h1) <;> (try simp (disch := omega) only [setM_ne, setM_hit, true_and, and_true] at h2) <;> (try (exfalso; omega))
    | (with_reducible refine wp_isNoTrip (by (try simp (disch := omega) only [setM_ne, setM_hit, true_and, and_true]); omega) (by (try simp (disch := omega) only [setM_ne, setM_hit, true_and, and_true]); omega) (fun h => ?_) (fun h1 h2 => ?_)) <;> (try simp (disch := omega) only [setM_ne, setM_hit, true_and, and_true] at h) <;> (try simp (disch := omega) only [setM_ne, setM_hit, true_and, and_true] at h1) <;> (try simp (disch := omega) only [setM_ne, setM_hit, true_and, and_true] at h2) <;> (try (exfalso; omega))
    | (with_reducible refine wp_isNoDay (fun h => ?_) (fun h1 h2 => ?_)) <;> (try (exfalso; omega))
    | with_reducible refine wp_isThrown1 ?_
    | with_reducible refine wp_isThrown0 ?_
    | (with_reducible refine wp_isThrownI (fun h => ?_) (fun h => ?_)) <;> (try simp (disch := omega) only [setM_ne, setM_hit, true_and, and_true] at h) <;> (try simp only [isIn0] at h) <;> (try (exfalso; omega))
    | with_reducible refine ok_grd (by (try simp (disch := omega) only [setM_ne, setM_hit, true_and, and_true]); (try unfold InR); omega) ?_
    | (with_reducible refine ok_some ?_) <;> (try dsimp only)
    | (with_reducible refine ok_ite (fun h => ?_) (fun h => ?_)) <;> (try dsimp only at h) <;> (try simp (disch := omega) only [setM_ne, setM_hit, true_and, and_true] at h) <;> (try simp only [isIn0, i01] at h) <;> (try (exfalso; first | exact h trivial | omega)))
      refine agp_ok e2 ?_ ?_
      · have q := i7 p0.toNat p1.toNat (by omega) (by omega)
        rw [ix]
        simp (disch := omega) only [setM_ne, setM_hit, true_and, and_true]
        exact q.1
      · refine ⟨?_, IV_fr b (by intro c i h; unfold cV at h; first | rfl | (simp (disch := omega) only [setM_ne, setM_hit, true_and, and_true])) (by intro c i h; unfold mV at h; rw [ff c i (by omega)]; first | rfl | (simp (disch := omega) only [setM_ne, setM_hit, true_and, and_true])), IT_fr c (by intro c i h; unfold cT at h; first | rfl | (simp (disch := omega) only [setM_ne, setM_hit, true_and, and_true])) (by intro c i h; unfold mT at h; rw [ff c i (by omega)]; first | rfl | (simp (disch := omega) only [setM_ne, setM_hit, true_and, and_true])), ID_fr d (by intro c i h; unfold cD at h; first | rfl | (simp (disch := omega) only [setM_ne, setM_hit, true_and, and_true])) (by intro c i h; unfold mD at h; rw [ff c i (by omega)]; first | rfl | (simp (disch := omega) only [setM_ne, setM_hit, true_and, and_true])), IR_fr e (by intro c i h; unfold cR at h; first | rfl | (simp (disch := omega) only [setM_ne, setM_hit, true_and, and_true])) (by intro c i h; unfold mR at h; rw [ff c i (by omega)]; first | rfl | (simp (disch := omega) only [setM_ne, setM_hit, true_and, and_true])), IC_fr f (by intro c i h; unfold cK at h; first | rfl | (simp (disch := omega) only [setM_ne, setM_hit, true_and, and_true])) (by intro c i h; unfold mK at h; rw [ff c i (by omega)]; first | rfl | (simp (disch := omega) only [setM_ne, setM_hit, true_and, and_true])), IW_fr g (by intro c i h; unfold cW at h; first | rfl | (simp (disch := omega) only [setM_ne, setM_hit, true_and, and_true])) (by intro c i h; unfold mW at h; rw [ff c i (by omega)]; first | rfl | (simp (disch := omega) only [setM_ne, setM_hit, true_and, and_true]))⟩
        refine ⟨?_, ?_, ?_, ?_, ?_, fun x hx => ?_, fun x y hx hy => ?_, fun x y hx hy => ?_⟩
        · rw [ff 0 1 (by omega)]
          (try dsimp only); (first | omega | (simp (disch := omega) only [setM_ne, setM_hit, true_and, and_true]; done) | (simp (disch := omega) only [setM_ne, setM_hit, true_and, and_true]; omega))
        · (try dsimp only); (first | omega | (simp (disch := omega) only [setM_ne, setM_hit, true_and, and_true]; done) | (simp (disch := omega) only [setM_ne, setM_hit, true_and, and_true]; omega))
        · (try dsimp only); (first | omega | (simp (disch := omega) only [setM_ne, setM_hit, true_and, and_true]; done) | (simp (disch := omega) only [setM_ne, setM_hit, true_and, and_true]; omega))
        · (try dsimp only); (first | omega | (simp (disch := omega) only [setM_ne, setM_hit, true_and, and_true]; done) | (simp (disch := omega) only [setM_ne, setM_hit, true_and, and_true]; omega))
        · rw [ff 0 5 (by omega)]
          (try dsimp only); (first | omega | (simp (disch := omega) only [setM_ne, setM_hit, true_and, and_true]; done) | (simp (disch := omega) only [setM_ne, setM_hit, true_and, and_true]; omega))
        · simp (disch := omega) only [setM_ne, setM_hit, true_and, and_true] at hx
          rw [ff 1 x (by omega)]
          have q := i6 x (by omega)
          simp (disch := omega) only [setM_ne, setM_hit, true_and, and_true]
          exact q
        · rw [ff 2 _ (by omega)]
          exact rd x y hx hy
        · simp (disch := omega) only [setM_ne, setM_hit, true_and, and_true] at hx
          simp (disch := omega) only [setM_ne, setM_hit, true_and, and_true] at hy
          rw [ww x y (by omega) (by omega)]
          unfold dg
          congr 1
          have e5 : setM (setM (setM (setM (setM mm 0 0 0) 0 0 0) 0 0 0) 2 (12 * p0 + p1).toNat p2) 2 (12 * p1 + p0).toNat p2 0 5 = -1 := by (try dsimp only); (first | omega | (simp (disch := omega) only [setM_ne, setM_hit, true_and, and_true]; done) | (simp (disch := omega) only [setM_ne, setM_hit, true_and, and_true]; omega))
          have e6 : setM (setM mc (4 + p0.toNat) p1.toNat p2) (4 + p1.toNat) p0.toNat p2 1 0 = mc 1 0 := by simp (disch := omega) only [setM_ne, setM_hit, true_and, and_true]
          rw [e5, e6]
          exact fw_congr (fun x y hx hy => (rd x y hx hy).1) _ _ _ (by omega) (by omega) (by omega)
/-- the class's walks, laid anew, are the reference's -/
theorem link_of {mc mm : Mem} (I : Inv mc mm) : Ok (C_Stops_link (-1) mc) (fun m => (∀ c i, ¬ (17 ≤ c ∧ c ≤ 28) → m c i = mc c i) ∧ ∀ a b : Nat, (a : Int) < mc 1 0 → (b : Int) < mc 1 0 → m (17 + a) b = fw (told mc) (-1) (mc 1 0).toNat a b) := by
  obtain ⟨i1, i2, i3, i4, i5, i6, i7, i8⟩ := id I.1
  refine (link_ok (n := (mc 1 0).toNat) (without := -1) (by omega) (by omega) (IS_TB I.1)).mono (fun m h => ⟨fun c i hc => ?_, fun x y hx hy => h.2.2 x y (by omega) (by omega)⟩)
  by_cases hh : c = 1 ∧ i = 4
  · rw [hh.1, hh.2, h.2.1, i4]
  · exact h.1 c i hc hh
theorem Inv_sc {mc mm mc' : Mem} (I : Inv mc mm) (h : ∀ c i, pC c i → mc' c i = mc c i) : Inv mc' mm := Inv_fr I h (fun _ _ _ => rfl)
theorem st_walkTime : ST_walkTime Inv := by
  intro mc mm p0 p1 I _ _
  obtain ⟨a, b, c, d, e, f, g⟩ := id I
  obtain ⟨i1, i2, i3, i4, i5, i6, i7, i8⟩ := id a
  refine ag_of ?_
  unfold C_walkTime
  by_cases hp : 0 ≤ p0 ∧ p0 < mc 1 0 ∧ 0 ≤ p1 ∧ p1 < mc 1 0
  case neg =>
    repeat' (first
    | with_reducible refine ok_ltv ?_
    | with_reducible refine ok_tbd_inl ?_
    | with_reducible refine ok_tbd_inr ?_
    | with_reducible refine wp_bind ?_
    | with_reducible refine wp_bq1 ?_
    | with_reducible refine wp_bq2 ?_
    | (with_reducible refine wp_needNumber (fun _ => ?_) (fun _ _ => ?_)) <;> (try (exfalso; omega))
    | (with_reducible refine wp_needDay (fun _ => ?_) (fun _ _ => ?_)) <;> (try (exfalso; omega))
    | (with_reducible refine wp_needStop (fun _ => ?_) (fun _ _ => ?_)) <;> (try (exfalso; omega))
    | (with_reducible refine wp_needService (fun _ => ?_) (fun _ _ => ?_)) <;> (try (exfalso; omega))
    | (with_reducible refine wp_needTrip (fun _ => ?_) (fun _ _ => ?_)) <;> (try (exfalso; omega))
    | (with_reducible refine wp_needCall (by omega) (fun _ => ?_) (fun _ _ _ _ => ?_)) <;> (try (exfalso; omega))
    | (with_reducible refine wp_needUnlike (fun _ => ?_) (fun _ => ?_)) <;> (try (exfalso; omega))
    | (with_reducible refine wp_needFound (fun _ => ?_) (fun _ => ?_)) <;> (try (exfalso; omega))
    | (with_reducible refine wp_needRoomForTrip (fun _ => ?_) (fun _ => ?_)) <;> (try (exfalso; omega))
    | (with_reducible refine wp_needRoomForSigns (by unfold InR; omega) (fun _ => ?_) (fun _ => ?_)) <;> (try (exfalso; omega))
    | (with_reducible refine wp_isNoStop (by (try simp (disch := omega) only [setM_ne, setM_hit, true_and, and_true]); omega) (by (try simp (disch := omega) only [setM_ne, setM_hit, true_and, and_true]); omega) (fun h => ?_) (fun h1 h2 => ?_)) <;> (try simp (disch := omega) only [setM_ne, setM_hit, true_and, and_true] at h) <;> (try simp (disch := omega) only [setM_ne, setM_hit, true_and, and_true] at h1) <;> (try simp (disch := omega) only [setM_ne, setM_hit, true_and, and_true] at h2) <;> (try (exfalso; omega))
    | (with_reducible refine wp_isNoService (by (try simp (disch := omega) only [setM_ne, setM_hit, true_and, and_true]); omega) (by (try simp (disch := omega) only [setM_ne, setM_hit, true_and, and_true]); omega) (fun h => ?_) (fun h1 h2 => ?_)) <;> (try simp (disch := omega) only [setM_ne, setM_hit, true_and, and_true] at h) <;> (try simp (disch := omega) only [setM_ne, setM_hit, true_and, and_true] at h1) <;> (try simp (disch := omega) only [setM_ne, setM_hit, true_and, and_true] at h2) <;> (try (exfalso; omega))
    | (with_reducible refine wp_isNoTrip (by (try simp (disch := omega) only [setM_ne, setM_hit, true_and, and_true]); omega) (by (try simp (disch := omega) only [setM_ne, setM_hit, true_and, and_true]); omega) (fun h => ?_) (fun h1 h2 => ?_)) <;> (try simp (disch := omega) only [setM_ne, setM_hit, true_and, and_true] at h) <;> (try simp (disch := omega) only [setM_ne, setM_hit, true_and, and_true] at h1) <;> (try simp (disch := omega) only [setM_ne, setM_hit, true_and, and_true] at h2) <;> (try (exfalso; omega))
    | (with_reducible refine wp_isNoDay (fun h => ?_) (fun h1 h2 => ?_)) <;> (try (exfalso; omega))
    | with_reducible refine wp_isThrown1 ?_
    | with_reducible refine wp_isThrown0 ?_
    | (with_reducible refine wp_isThrownI (fun h => ?_) (fun h => ?_)) <;> (try simp (disch := omega) only [setM_ne, setM_hit, true_and, and_true] at h) <;> (try simp only [isIn0] at h) <;> (try (exfalso; omega))
    | with_reducible refine ok_grd (by (try simp (disch := omega) only [setM_ne, setM_hit, true_and, and_true]); (try unfold InR); omega) ?_
    | (with_reducible refine ok_some ?_) <;> (try dsimp only)
    | (with_reducible refine ok_ite (fun h => ?_) (fun h => ?_)) <;> (try dsimp only at h) <;> (try simp (disch := omega) only [setM_ne, setM_hit, true_and, and_true] at h) <;> (try simp only [isIn0, i01] at h) <;> (try (exfalso; first | exact h trivial | omega)))
    all_goals unfold M_walkTime
    all_goals repeat' (first
    | with_reducible refine ok_ltv ?_
    | with_reducible refine ok_tbd_inl ?_
    | with_reducible refine ok_tbd_inr ?_
    | with_reducible refine wp_bind ?_
    | with_reducible refine wp_bq1 ?_
    | with_reducible refine wp_bq2 ?_
    | (with_reducible refine wp_needNumber (fun _ => ?_) (fun _ _ => ?_)) <;> (try (exfalso; omega))
    | (with_reducible refine wp_needDay (fun _ => ?_) (fun _ _ => ?_)) <;> (try (exfalso; omega))
    | (with_reducible refine wp_needStop (fun _ => ?_) (fun _ _ => ?_)) <;> (try (exfalso; omega))
    | (with_reducible refine wp_needService (fun _ => ?_) (fun _ _ => ?_)) <;> (try (exfalso; omega))
    | (with_reducible refine wp_needTrip (fun _ => ?_) (fun _ _ => ?_)) <;> (try (exfalso; omega))
    | (with_reducible refine wp_needCall (by omega) (fun _ => ?_) (fun _ _ _ _ => ?_)) <;> (try (exfalso; omega))
    | (with_reducible refine wp_needUnlike (fun _ => ?_) (fun _ => ?_)) <;> (try (exfalso; omega))
    | (with_reducible refine wp_needFound (fun _ => ?_) (fun _ => ?_)) <;> (try (exfalso; omega))
    | (with_reducible refine wp_needRoomForTrip (fun _ => ?_) (fun _ => ?_)) <;> (try (exfalso; omega))
    | (with_reducible refine wp_needRoomForSigns (by unfold InR; omega) (fun _ => ?_) (fun _ => ?_)) <;> (try (exfalso; omega))
    | (with_reducible refine wp_isNoStop (by (try simp (disch := omega) only [setM_ne, setM_hit, true_and, and_true]); omega) (by (try simp (disch := omega) only [setM_ne, setM_hit, true_and, and_true]); omega) (fun h => ?_) (fun h1 h2 => ?_)) <;> (try simp (disch := omega) only [setM_ne, setM_hit, true_and, and_true] at h) <;> (try simp (disch := omega) only [setM_ne, setM_hit, true_and, and_true] at h1) <;> (try simp (disch := omega) only [setM_ne, setM_hit, true_and, and_true] at h2) <;> (try (exfalso; omega))
    | (with_reducible refine wp_isNoService (by (try simp (disch := omega) only [setM_ne, setM_hit, true_and, and_true]); omega) (by (try simp (disch := omega) only [setM_ne, setM_hit, true_and, and_true]); omega) (fun h => ?_) (fun h1 h2 => ?_)) <;> (try simp (disch := omega) only [setM_ne, setM_hit, true_and, and_true] at h) <;> (try simp (disch := omega) only [setM_ne, setM_hit, true_and, and_true] at h1) <;> (try simp (disch := omega) only [setM_ne, setM_hit, true_and, and_true] at h2) <;> (try (exfalso; omega))
    | (with_reducible refine wp_isNoTrip (by (try simp (disch := omega) only [setM_ne, setM_hit, true_and, and_true]); omega) (by (try simp (disch := omega) only [setM_ne, setM_hit, true_and, and_true]); omega) (fun h => ?_) (fun h1 h2 => ?_)) <;> (try simp (disch := omega) only [setM_ne, setM_hit, true_and, and_true] at h) <;> (try simp (disch := omega) only [setM_ne, setM_hit, true_and, and_true] at h1) <;> (try simp (disch := omega) only [setM_ne, setM_hit, true_and, and_true] at h2) <;> (try (exfalso; omega))
    | (with_reducible refine wp_isNoDay (fun h => ?_) (fun h1 h2 => ?_)) <;> (try (exfalso; omega))
    | with_reducible refine wp_isThrown1 ?_
    | with_reducible refine wp_isThrown0 ?_
    | (with_reducible refine wp_isThrownI (fun h => ?_) (fun h => ?_)) <;> (try simp (disch := omega) only [setM_ne, setM_hit, true_and, and_true] at h) <;> (try simp only [isIn0] at h) <;> (try (exfalso; omega))
    | with_reducible refine ok_grd (by (try simp (disch := omega) only [setM_ne, setM_hit, true_and, and_true]); (try unfold InR); omega) ?_
    | (with_reducible refine ok_some ?_) <;> (try dsimp only)
    | (with_reducible refine ok_ite (fun h => ?_) (fun h => ?_)) <;> (try dsimp only at h) <;> (try simp (disch := omega) only [setM_ne, setM_hit, true_and, and_true] at h) <;> (try simp only [isIn0, i01] at h) <;> (try (exfalso; first | exact h trivial | omega)))
    all_goals (refine agp_er ?_ ?_ ?_); decide; (first | (rw [setM_same]; rfl) | (dsimp only; simp (disch := omega) only [setM_ne, setM_hit, true_and, and_true]; rfl))
    all_goals repeat (first | exact I | with_reducible refine Inv_thr ?_ _)
  case pos =>
    have q := i8 p0.toNat p1.toNat (by omega) (by omega)
    have ix : 12 * p0.toNat + p1.toNat = (12 * p0 + p1).toNat := by omega
    rw [ix] at q
    refine wp_bind (wp_needStop (fun _ => by omega) (fun _ _ => ok_tbd_inl (wp_bind (wp_needStop (fun _ => by omega) (fun _ _ => ok_tbd_inl (ok_ite (fun h => ok_some ?_) (fun h => ok_bind (link_of I) (fun m hm => ok_grd (by omega) (wp_bind (wp_needFound (fun h => ok_tbd_inr ?_) (fun h => ok_tbd_inl (ok_some ?_))))))))))))
    · rw [if_pos (by omega)] at q
      unfold M_walkTime
      repeat' (first
    | with_reducible refine ok_ltv ?_
    | with_reducible refine ok_tbd_inl ?_
    | with_reducible refine ok_tbd_inr ?_
    | with_reducible refine wp_bind ?_
    | with_reducible refine wp_bq1 ?_
    | with_reducible refine wp_bq2 ?_
    | (with_reducible refine wp_needNumber (fun _ => ?_) (fun _ _ => ?_)) <;> (try (exfalso; omega))
    | (with_reducible refine wp_needDay (fun _ => ?_) (fun _ _ => ?_)) <;> (try (exfalso; omega))
    | (with_reducible refine wp_needStop (fun _ => ?_) (fun _ _ => ?_)) <;> (try (exfalso; omega))
    | (with_reducible refine wp_needService (fun _ => ?_) (fun _ _ => ?_)) <;> (try (exfalso; omega))
    | (with_reducible refine wp_needTrip (fun _ => ?_) (fun _ _ => ?_)) <;> (try (exfalso; omega))
    | (with_reducible refine wp_needCall (by omega) (fun _ => ?_) (fun _ _ _ _ => ?_)) <;> (try (exfalso; omega))
    | (with_reducible refine wp_needUnlike (fun _ => ?_) (fun _ => ?_)) <;> (try (exfalso; omega))
    | (with_reducible refine wp_needFound (fun _ => ?_) (fun _ => ?_)) <;> (try (exfalso; omega))
    | (with_reducible refine wp_needRoomForTrip (fun _ => ?_) (fun _ => ?_)) <;> (try (exfalso; omega))
    | (with_reducible refine wp_needRoomForSigns (by unfold InR; omega) (fun _ => ?_) (fun _ => ?_)) <;> (try (exfalso; omega))
    | (with_reducible refine wp_isNoStop (by (try simp (disch := omega) only [setM_ne, setM_hit, true_and, and_true]); omega) (by (try simp (disch := omega) only [setM_ne, setM_hit, true_and, and_true]); omega) (fun h => ?_) (fun h1 h2 => ?_)) <;> (try simp (disch := omega) only [setM_ne, setM_hit, true_and, and_true] at h) <;> (try simp (disch := omega) only [setM_ne, setM_hit, true_and, and_true] at h1) <;> (try simp (disch := omega) only [setM_ne, setM_hit, true_and, and_true] at h2) <;> (try (exfalso; omega))
    | (with_reducible refine wp_isNoService (by (try simp (disch := omega) only [setM_ne, setM_hit, true_and, and_true]); omega) (by (try simp (disch := omega) only [setM_ne, setM_hit, true_and, and_true]); omega) (fun h => ?_) (fun h1 h2 => ?_)) <;> (try simp (disch := omega) only [setM_ne, setM_hit, true_and, and_true] at h) <;> (try simp (disch := omega) only [setM_ne, setM_hit, true_and, and_true] at h1) <;> (try simp (disch := omega) only [setM_ne, setM_hit, true_and, and_true] at h2) <;> (try (exfalso; omega))
    | (with_reducible refine wp_isNoTrip (by (try simp (disch := omega) only [setM_ne, setM_hit, true_and, and_true]); omega) (by (try simp (disch := omega) only [setM_ne, setM_hit, true_and, and_true]); omega) (fun h => ?_) (fun h1 h2 => ?_)) <;> (try simp (disch := omega) only [setM_ne, setM_hit, true_and, and_true] at h) <;> (try simp (disch := omega) only [setM_ne, setM_hit, true_and, and_true] at h1) <;> (try simp (disch := omega) only [setM_ne, setM_hit, true_and, and_true] at h2) <;> (try (exfalso; omega))
    | (with_reducible refine wp_isNoDay (fun h => ?_) (fun h1 h2 => ?_)) <;> (try (exfalso; omega))
    | with_reducible refine wp_isThrown1 ?_
    | with_reducible refine wp_isThrown0 ?_
    | (with_reducible refine wp_isThrownI (fun h => ?_) (fun h => ?_)) <;> (try simp (disch := omega) only [setM_ne, setM_hit, true_and, and_true] at h) <;> (try simp only [isIn0] at h) <;> (try (exfalso; omega))
    | with_reducible refine ok_grd (by (try simp (disch := omega) only [setM_ne, setM_hit, true_and, and_true]); (try unfold InR); omega) ?_
    | (with_reducible refine ok_some ?_) <;> (try dsimp only)
    | (with_reducible refine ok_ite (fun h => ?_) (fun h => ?_)) <;> (try dsimp only at h) <;> (try simp (disch := omega) only [setM_ne, setM_hit, true_and, and_true] at h) <;> (try simp only [isIn0, i01] at h) <;> (try (exfalso; first | exact h trivial | omega)))
      (refine agp_ok ?_ ?_ ?_); (first | exact setM_same _ _ _ _ | (focus ((try dsimp only); simp (disch := omega) only [setM_ne, setM_hit, true_and, and_true]; done)) | (focus ((try dsimp only); simp (disch := omega) only [setM_ne, setM_hit, true_and, and_true]; omega)))
      · (try dsimp only); (first | omega | (simp (disch := omega) only [setM_ne, setM_hit, true_and, and_true]; done) | (simp (disch := omega) only [setM_ne, setM_hit, true_and, and_true]; omega))
      · repeat (first | exact I | with_reducible refine Inv_thr ?_ _)
    · have w := hm.2 p0.toNat p1.toNat (by omega) (by omega)
      rw [if_neg (by omega)] at q
      unfold M_walkTime
      repeat' (first
    | with_reducible refine ok_ltv ?_
    | with_reducible refine ok_tbd_inl ?_
    | with_reducible refine ok_tbd_inr ?_
    | with_reducible refine wp_bind ?_
    | with_reducible refine wp_bq1 ?_
    | with_reducible refine wp_bq2 ?_
    | (with_reducible refine wp_needNumber (fun _ => ?_) (fun _ _ => ?_)) <;> (try (exfalso; omega))
    | (with_reducible refine wp_needDay (fun _ => ?_) (fun _ _ => ?_)) <;> (try (exfalso; omega))
    | (with_reducible refine wp_needStop (fun _ => ?_) (fun _ _ => ?_)) <;> (try (exfalso; omega))
    | (with_reducible refine wp_needService (fun _ => ?_) (fun _ _ => ?_)) <;> (try (exfalso; omega))
    | (with_reducible refine wp_needTrip (fun _ => ?_) (fun _ _ => ?_)) <;> (try (exfalso; omega))
    | (with_reducible refine wp_needCall (by omega) (fun _ => ?_) (fun _ _ _ _ => ?_)) <;> (try (exfalso; omega))
    | (with_reducible refine wp_needUnlike (fun _ => ?_) (fun _ => ?_)) <;> (try (exfalso; omega))
    | (with_reducible refine wp_needFound (fun _ => ?_) (fun _ => ?_)) <;> (try (exfalso; omega))
    | (with_reducible refine wp_needRoomForTrip (fun _ => ?_) (fun _ => ?_)) <;> (try (exfalso; omega))
    | (with_reducible refine wp_needRoomForSigns (by unfold InR; omega) (fun _ => ?_) (fun _ => ?_)) <;> (try (exfalso; omega))
    | (with_reducible refine wp_isNoStop (by (try simp (disch := omega) only [setM_ne, setM_hit, true_and, and_true]); omega) (by (try simp (disch := omega) only [setM_ne, setM_hit, true_and, and_true]); omega) (fun h => ?_) (fun h1 h2 => ?_)) <;> (try simp (disch := omega) only [setM_ne, setM_hit, true_and, and_true] at h) <;> (try simp (disch := omega) only [setM_ne, setM_hit, true_and, and_true] at h1) <;> (try simp (disch := omega) only [setM_ne, setM_hit, true_and, and_true] at h2) <;> (try (exfalso; omega))
    | (with_reducible refine wp_isNoService (by (try simp (disch := omega) only [setM_ne, setM_hit, true_and, and_true]); omega) (by (try simp (disch := omega) only [setM_ne, setM_hit, true_and, and_true]); omega) (fun h => ?_) (fun h1 h2 => ?_)) <;> (try simp (disch := omega) only [setM_ne, setM_hit, true_and, and_true] at h) <;> (try simp (disch := omega) only [setM_ne, setM_hit, true_and, and_true] at h1) <;> (try simp (disch := omega) only [setM_ne, setM_hit, true_and, and_true] at h2) <;> (try (exfalso; omega))
    | (with_reducible refine wp_isNoTrip (by (try simp (disch := omega) only [setM_ne, setM_hit, true_and, and_true]); omega) (by (try simp (disch := omega) only [setM_ne, setM_hit, true_and, and_true]); omega) (fun h => ?_) (fun h1 h2 => ?_)) <;> (try simp (disch := omega) only [setM_ne, setM_hit, true_and, and_true] at h) <;> (try simp (disch := omega) only [setM_ne, setM_hit, true_and, and_true] at h1) <;> (try simp (disch := omega) only [setM_ne, setM_hit, true_and, and_true] at h2) <;> (try (exfalso; omega))
    | (with_reducible refine wp_isNoDay (fun h => ?_) (fun h1 h2 => ?_)) <;> (try (exfalso; omega))
    | with_reducible refine wp_isThrown1 ?_
    | with_reducible refine wp_isThrown0 ?_
    | (with_reducible refine wp_isThrownI (fun h => ?_) (fun h => ?_)) <;> (try simp (disch := omega) only [setM_ne, setM_hit, true_and, and_true] at h) <;> (try simp only [isIn0] at h) <;> (try (exfalso; omega))
    | with_reducible refine ok_grd (by (try simp (disch := omega) only [setM_ne, setM_hit, true_and, and_true]); (try unfold InR); omega) ?_
    | (with_reducible refine ok_some ?_) <;> (try dsimp only)
    | (with_reducible refine ok_ite (fun h => ?_) (fun h => ?_)) <;> (try dsimp only at h) <;> (try simp (disch := omega) only [setM_ne, setM_hit, true_and, and_true] at h) <;> (try simp only [isIn0, i01] at h) <;> (try (exfalso; first | exact h trivial | omega)))
      (refine agp_er ?_ ?_ ?_); decide; (first | (rw [setM_same]; rfl) | (dsimp only; simp (disch := omega) only [setM_ne, setM_hit, true_and, and_true]; rfl))
      have I2 := Inv_sc I (mc' := m) (fun c i h => hm.1 c i (by unfold pC at h; omega))
      repeat (first | exact I2 | with_reducible refine Inv_thr ?_ _)
    · have w := hm.2 p0.toNat p1.toNat (by omega) (by omega)
      rw [if_neg (by omega)] at q
      unfold M_walkTime
      repeat' (first
    | with_reducible refine ok_ltv ?_
    | with_reducible refine ok_tbd_inl ?_
    | with_reducible refine ok_tbd_inr ?_
    | with_reducible refine wp_bind ?_
    | with_reducible refine wp_bq1 ?_
    | with_reducible refine wp_bq2 ?_
    | (with_reducible refine wp_needNumber (fun _ => ?_) (fun _ _ => ?_)) <;> (try (exfalso; omega))
    | (with_reducible refine wp_needDay (fun _ => ?_) (fun _ _ => ?_)) <;> (try (exfalso; omega))
    | (with_reducible refine wp_needStop (fun _ => ?_) (fun _ _ => ?_)) <;> (try (exfalso; omega))
    | (with_reducible refine wp_needService (fun _ => ?_) (fun _ _ => ?_)) <;> (try (exfalso; omega))
    | (with_reducible refine wp_needTrip (fun _ => ?_) (fun _ _ => ?_)) <;> (try (exfalso; omega))
    | (with_reducible refine wp_needCall (by omega) (fun _ => ?_) (fun _ _ _ _ => ?_)) <;> (try (exfalso; omega))
    | (with_reducible refine wp_needUnlike (fun _ => ?_) (fun _ => ?_)) <;> (try (exfalso; omega))
    | (with_reducible refine wp_needFound (fun _ => ?_) (fun _ => ?_)) <;> (try (exfalso; omega))
    | (with_reducible refine wp_needRoomForTrip (fun _ => ?_) (fun _ => ?_)) <;> (try (exfalso; omega))
    | (with_reducible refine wp_needRoomForSigns (by unfold InR; omega) (fun _ => ?_) (fun _ => ?_)) <;> (try (exfalso; omega))
    | (with_reducible refine wp_isNoStop (by (try simp (disch := omega) only [setM_ne, setM_hit, true_and, and_true]); omega) (by (try simp (disch := omega) only [setM_ne, setM_hit, true_and, and_true]); omega) (fun h => ?_) (fun h1 h2 => ?_)) <;> (try simp (disch := omega) only [setM_ne, setM_hit, true_and, and_true] at h) <;> (try simp (disch := omega) only [setM_ne, setM_hit, true_and, and_true] at h1) <;> (try simp (disch := omega) only [setM_ne, setM_hit, true_and, and_true] at h2) <;> (try (exfalso; omega))
    | (with_reducible refine wp_isNoService (by (try simp (disch := omega) only [setM_ne, setM_hit, true_and, and_true]); omega) (by (try simp (disch := omega) only [setM_ne, setM_hit, true_and, and_true]); omega) (fun h => ?_) (fun h1 h2 => ?_)) <;> (try simp (disch := omega) only [setM_ne, setM_hit, true_and, and_true] at h) <;> (try simp (disch := omega) only [setM_ne, setM_hit, true_and, and_true] at h1) <;> (try simp (disch := omega) only [setM_ne, setM_hit, true_and, and_true] at h2) <;> (try (exfalso; omega))
    | (with_reducible refine wp_isNoTrip (by (try simp (disch := omega) only [setM_ne, setM_hit, true_and, and_true]); omega) (by (try simp (disch := omega) only [setM_ne, setM_hit, true_and, and_true]); omega) (fun h => ?_) (fun h1 h2 => ?_)) <;> (try simp (disch := omega) only [setM_ne, setM_hit, true_and, and_true] at h) <;> (try simp (disch := omega) only [setM_ne, setM_hit, true_and, and_true] at h1) <;> (try simp (disch := omega) only [setM_ne, setM_hit, true_and, and_true] at h2) <;> (try (exfalso; omega))
    | (with_reducible refine wp_isNoDay (fun h => ?_) (fun h1 h2 => ?_)) <;> (try (exfalso; omega))
    | with_reducible refine wp_isThrown1 ?_
    | with_reducible refine wp_isThrown0 ?_
    | (with_reducible refine wp_isThrownI (fun h => ?_) (fun h => ?_)) <;> (try simp (disch := omega) only [setM_ne, setM_hit, true_and, and_true] at h) <;> (try simp only [isIn0] at h) <;> (try (exfalso; omega))
    | with_reducible refine ok_grd (by (try simp (disch := omega) only [setM_ne, setM_hit, true_and, and_true]); (try unfold InR); omega) ?_
    | (with_reducible refine ok_some ?_) <;> (try dsimp only)
    | (with_reducible refine ok_ite (fun h => ?_) (fun h => ?_)) <;> (try dsimp only at h) <;> (try simp (disch := omega) only [setM_ne, setM_hit, true_and, and_true] at h) <;> (try simp only [isIn0, i01] at h) <;> (try (exfalso; first | exact h trivial | omega)))
      (refine agp_ok ?_ ?_ ?_); (first | exact setM_same _ _ _ _ | (focus ((try dsimp only); simp (disch := omega) only [setM_ne, setM_hit, true_and, and_true]; done)) | (focus ((try dsimp only); simp (disch := omega) only [setM_ne, setM_hit, true_and, and_true]; omega)))
      · (try dsimp only); (first | omega | (simp (disch := omega) only [setM_ne, setM_hit, true_and, and_true]; done) | (simp (disch := omega) only [setM_ne, setM_hit, true_and, and_true]; omega))
      · have I2 := Inv_sc I (mc' := m) (fun c i h => hm.1 c i (by unfold pC at h; omega))
        repeat (first | exact I2 | with_reducible refine Inv_thr ?_ _)
