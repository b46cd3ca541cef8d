/-! ===== vehicles by times, on both sides ===== -/
section VEH
variable {mc mm m m0 : Mem} {day : Int}
theorem alen436 : alen SHC 436 = 48 := by rfl
theorem alen437 : alen SHC 437 = 48 := by rfl
theorem countAt_ok {n v : Nat} (I : CI mc) (hv : v < 12) (e1 : m0 431 0 = n) (n24 : n ≤ 24) (F : FltP mc day m0 n) : Ok (C_Fleet_countAt v m0) (fun r => (∀ c i, ¬ (c = 436 ∨ c = 437) → r.2 c i = m0 c i) ∧ DefP (Dv mc day v) r.1 ∧ r.1 ≤ 48) := by
  have nn := CI_n I
  unfold C_Fleet_countAt
  refine ok_ltv (ok_ltv (ok_bq3 (Q := fun (x : Int × Int × Mem) => ∃ f : Nat, x.1 = f ∧ f ≤ 48 ∧ (∀ c i, ¬ c = 436 → x.2.2 c i = m0 c i) ∧ (∀ G : Int → Int, sI (fun j => G (x.2.2 436 j)) f = sI (fun i => (if m0 433 i = v then G (2 * m0 435 i) else 0) + (if m0 432 i = v then G (2 * m0 434 i + 1) else 0)) n) ∧ ∀ j, j < f → 0 ≤ x.2.2 436 j ∧ x.2.2 436 j < ((6000 : Nat) : Int)) ?_ (fun fz _ m5 h => ?_)))
  · refine ok_loop (fun x => ∃ f k : Nat, x.1 = f ∧ x.2.1 = k ∧ k ≤ n ∧ f ≤ 2 * k ∧ (∀ c i, ¬ c = 436 → x.2.2 c i = m0 c i) ∧ (∀ G : Int → Int, sI (fun j => G (x.2.2 436 j)) f = sI (fun i => (if m0 433 i = v then G (2 * m0 435 i) else 0) + (if m0 432 i = v then G (2 * m0 434 i + 1) else 0)) k) ∧ ∀ j, j < f → 0 ≤ x.2.2 436 j ∧ x.2.2 436 j < ((6000 : Nat) : Int)) (fun x => n - x.2.1.toNat) ⟨0, 0, rfl, rfl, Nat.zero_le _, Nat.zero_le _, fun _ _ _ => rfl, fun _ => rfl, fun j h => by omega⟩ ?_
    rintro ⟨ff, kk, m⟩ ⟨f, k, a1, a2, a3, a4, a5, a6, a7⟩
    dsimp only at a1 a2 a5 a6 a7 ⊢
    subst a1
    subst a2
    unfold C_Fleet_countAt_b1
    rw [a5 431 0 (by omega), e1]
    refine ok_ite (fun hk => ok_ltv ?_) (fun hk => ok_some ⟨f, rfl, by omega, a5, fun G => ?_, a7⟩)
    · have bd := F.2 k (by omega)
      -- the beginning, behind the end
      have second : ∀ (f2 : Nat) (fz : Int) (m2 : Mem), fz = f2 → f2 ≤ 2 * k + 1 → (∀ c i, ¬ c = 436 → m2 c i = m0 c i) → (∀ G : Int → Int, sI (fun j => G (m2 436 j)) f2 = sI (fun i => (if m0 433 i = v then G (2 * m0 435 i) else 0) + (if m0 432 i = v then G (2 * m0 434 i + 1) else 0)) k + (if m0 433 k = v then G (2 * m0 435 k) else 0)) → (∀ j, j < f2 → 0 ≤ m2 436 j ∧ m2 436 j < ((6000 : Nat) : Int)) → Ok (grd (0 ≤ (k : Int) ∧ (k : Int) < 24) <| if m2 432 ((k : Int)).toNat = v then grd (0 ≤ fz ∧ fz < 48 ∧ InR (2 * (m2 434 ((k : Int)).toNat)) ∧ InR (2 * (m2 434 ((k : Int)).toNat) + 1)) <| ltv (setM m2 436 fz.toNat (2 * (m2 434 ((k : Int)).toNat) + 1)) fun m_4 => grd (InR (fz + 1)) <| ltv (fz + 1) fun found_5 => grd (InR ((k : Int) + 1)) <| ltv ((k : Int) + 1) fun trip_4 => some (Sum.inl (found_5, trip_4, m_4)) else grd (InR ((k : Int) + 1)) <| ltv ((k : Int) + 1) fun trip_3 => some (Sum.inl (fz, trip_3, m2) : (Int × Int × Mem) ⊕ (Int × Int × Mem))) (fun x => ∃ t : Int × Int × Mem, x = .inl t ∧ (∃ f k : Nat, t.1 = f ∧ t.2.1 = k ∧ k ≤ n ∧ f ≤ 2 * k ∧ (∀ c i, ¬ c = 436 → t.2.2 c i = m0 c i) ∧ (∀ G : Int → Int, sI (fun j => G (t.2.2 436 j)) f = sI (fun i => (if m0 433 i = v then G (2 * m0 435 i) else 0) + (if m0 432 i = v then G (2 * m0 434 i + 1) else 0)) k) ∧ ∀ j, j < f → 0 ≤ t.2.2 436 j ∧ t.2.2 436 j < ((6000 : Nat) : Int)) ∧ n - t.2.1.toNat < n - k) := by
        intro f2 fz m2 b0 b1 b2 b3 b4
        subst b0
        rw [Int.toNat_natCast, b2 432 k (by omega), b2 434 k (by omega)]
        refine ok_grd (by omega) (ok_ite (fun hh => ok_grd (by unfold InR; omega) (ok_ltv (ok_grd (by unfold InR; omega) (ok_ltv (ok_grd (by unfold InR; omega) (ok_ltv (ok_some ?_))))))) (fun hh => ok_grd (by unfold InR; omega) (ok_ltv (ok_some ?_))))
        · rw [Int.toNat_natCast]
          refine ⟨_, rfl, ⟨f2 + 1, k + 1, by dsimp only; omega, by dsimp only; omega, by omega, by omega, fun c i h => ?_, fun G => ?_, fun j hj => ?_⟩, by dsimp only; omega⟩
          · dsimp only
            rw [setM_ne (by omega)]
            exact b2 c i h
          · dsimp only [sI]
            rw [setM_same, if_pos hh, ← Int.add_assoc, ← b3 G]
            congr 1
            exact sI_congr (fun j hj => by rw [setM_ne (by omega)])
          · dsimp only
            by_cases hjf : j = f2
            · rw [hjf, setM_same]
              omega
            · rw [setM_ne (by omega)]
              exact b4 j (by omega)
        · refine ⟨_, rfl, ⟨f2, k + 1, rfl, by dsimp only; omega, by omega, by omega, b2, fun G => ?_, b4⟩, by dsimp only; omega⟩
          dsimp only [sI]
          rw [if_neg hh, b3 G]
          omega
      refine ok_grd (by omega) (ok_ite (fun hh => ok_grd (by rw [a5 435 _ (by omega), Int.toNat_natCast]; unfold InR; omega) (ok_ltv (ok_grd (by unfold InR; omega) (ok_ltv ?_)))) (fun hh => ?_))
      · rw [Int.toNat_natCast, a5 433 k (by omega)] at hh
        have := second (f + 1) ((f : Int) + 1) (setM m 436 f (2 * m0 435 k)) (by omega) (by omega) (fun c i h => by rw [setM_ne (by omega)]; exact a5 c i h) (fun G => by
          simp only [sI]
          rw [setM_same, if_pos hh, ← a6 G]
          congr 1
          exact sI_congr (fun j hj => by rw [setM_ne (by omega)])) (fun j hj => by
          by_cases hjf : j = f
          · rw [hjf, setM_same]
            omega
          · rw [setM_ne (by omega)]
            exact a7 j (by omega))
        rw [a5 435 _ (by omega), Int.toNat_natCast, Int.toNat_natCast]
        rw [Int.toNat_natCast] at this
        refine Ok.mono this (fun x hx => ?_)
        obtain ⟨t, rfl, t1, t2⟩ := hx
        exact ⟨t1, by (try rw [Int.toNat_natCast]); exact t2⟩
      · rw [Int.toNat_natCast, a5 433 k (by omega)] at hh
        refine Ok.mono (second f f m rfl (by omega) a5 (fun G => by rw [a6 G, if_neg hh]; omega) a7) (fun x hx => ?_)
        obtain ⟨t, rfl, t1, t2⟩ := hx
        exact ⟨t1, by (try rw [Int.toNat_natCast]); exact t2⟩
    · have : k = n := by omega
      rw [this] at a6
      exact a6 G
  · dsimp only at h
    obtain ⟨f, rfl, f48, b1, b2, b3⟩ := h
    refine ok_bind (sortUp_ok (k := 436) (s := 437) (n := f) (by omega) (by rw [alen436]; omega) (by rw [alen437]; omega) (by omega)) (fun m6 h6 => ok_ltv (ok_ltv (ok_ltv ?_)))
    obtain ⟨s1, s2, s3⟩ := h6
    have b3' : ∀ j, j < f → 0 ≤ m6 436 j ∧ m6 436 j < ((6000 : Nat) : Int) := by
      intro j hj
      have a := (cI_pos (f := m6 436) (v := m6 436 j) (lo := 0) (n := f)).mpr ⟨j, by omega, by omega, rfl⟩
      rw [s3] at a
      obtain ⟨i, -, i2, i3⟩ := cI_pos.mp a
      have := b3 i (by omega)
      omega
    have su := cI_same b3 b3' s3
    refine ok_bq3 (Q := fun (x : Int × Int × Int) => 0 ≤ x.2.1 ∧ x.2.1 ≤ f ∧ (∀ j, j ≤ f → sI (fun i => sg (m6 436 i)) j ≤ x.2.1) ∧ (x.2.1 ≤ 0 ∨ ∃ j, j < f ∧ m6 436 j % 2 = 1 ∧ x.2.1 ≤ sI (fun i => sg (m6 436 i)) (j + 1))) ?_ (fun _ fr _ h => ok_some ?_)
    · refine ok_loop (fun x => ∃ k : Nat, x.2.2 = k ∧ k ≤ f ∧ 0 ≤ x.1 ∧ x.1 ≤ k ∧ 0 ≤ x.2.1 ∧ x.2.1 ≤ k ∧ x.2.1 - x.1 = sI (fun i => sg (m6 436 i)) k ∧ (∀ j, j ≤ k → sI (fun i => sg (m6 436 i)) j ≤ x.2.1) ∧ (x.2.1 ≤ 0 ∨ ∃ j, j < k ∧ m6 436 j % 2 = 1 ∧ x.2.1 ≤ sI (fun i => sg (m6 436 i)) (j + 1))) (fun x => f - x.2.2.toNat) ⟨0, rfl, Nat.zero_le _, Int.le_refl _, Int.le_refl _, Int.le_refl _, Int.le_refl _, rfl, fun j hj => ?_, Or.inl (Int.le_refl _)⟩ ?_
      · have : j = 0 := by omega
        rw [this]
        exact Int.le_refl _
      · rintro ⟨id, fr, kk⟩ ⟨k, d1, d2, d3, d4, d5, d6, d7, d8, d9⟩
        dsimp only at d1 d3 d4 d5 d6 d7 d8 d9 ⊢
        subst d1
        unfold C_Fleet_countAt_b2
        refine ok_ite (fun hk => ?_) (fun hk => ok_some ?_)
        · have bk := b3' k (by omega)
          have S1 : sI (fun i => sg (m6 436 i)) (k + 1) = sI (fun i => sg (m6 436 i)) k + sg (m6 436 k) := rfl
          have tm : (m6 436 k).tmod 2 = m6 436 k % 2 := Int.tmod_eq_emod_of_nonneg bk.1
          have up : ∀ fr', fr ≤ fr' → sI (fun i => sg (m6 436 i)) (k + 1) ≤ fr' → ∀ j, j ≤ k + 1 → sI (fun i => sg (m6 436 i)) j ≤ fr' := by
            intro fr' g1 g2 j hj
            by_cases hjk : j = k + 1
            · rw [hjk]; exact g2
            · have := d8 j (by omega); omega
          have keep : fr ≤ 0 ∨ ∃ j, j < k + 1 ∧ m6 436 j % 2 = 1 ∧ fr ≤ sI (fun i => sg (m6 436 i)) (j + 1) := by
            rcases d9 with z | ⟨j, j1, j2⟩
            · exact Or.inl z
            · exact Or.inr ⟨j, by omega, j2⟩
          rw [Int.toNat_natCast, tm]
          refine ok_grd (by omega) (ok_ite (fun hp => ?_) (fun hp => ok_ite (fun hi => ?_) (fun hi => ?_)))
          · have e : sg (m6 436 k) = -1 := if_neg (by omega)
            refine ok_grd (by unfold InR; omega) (ok_ltv (ok_grd (by unfold InR; omega) (ok_ltv (ok_some ⟨⟨k + 1, by dsimp only; omega, by omega, by dsimp only; omega, by dsimp only; omega, d5, by dsimp only; omega, by dsimp only; omega, up fr (Int.le_refl _) (by omega), keep⟩, by dsimp only; omega⟩))))
          · have e : sg (m6 436 k) = 1 := if_pos (by omega)
            refine ok_grd (by unfold InR; omega) (ok_ltv (ok_grd (by unfold InR; omega) (ok_ltv (ok_some ⟨⟨k + 1, by dsimp only; omega, by omega, by dsimp only; omega, by dsimp only; omega, d5, by dsimp only; omega, by dsimp only; omega, up fr (Int.le_refl _) (by omega), keep⟩, by dsimp only; omega⟩))))
          · have e : sg (m6 436 k) = 1 := if_pos (by omega)
            refine ok_grd (by unfold InR; omega) (ok_ltv (ok_grd (by unfold InR; omega) (ok_ltv (ok_some ⟨⟨k + 1, by dsimp only; omega, by omega, by dsimp only; omega, by dsimp only; omega, by dsimp only; omega, by dsimp only; omega, by dsimp only; omega, up (fr + 1) (by omega) (by omega), Or.inr ⟨k, by omega, by omega, by dsimp only; omega⟩⟩, by dsimp only; omega⟩))))
        · have : k = f := by omega
          rw [this] at d6 d8 d9
          exact ⟨d5, d6, d8, d9⟩
    · dsimp only at h
      obtain ⟨h1, h2, h3, h4⟩ := h
      refine ⟨fun c i hc => ?_, ?_, by dsimp only; omega⟩
      · dsimp only
        rw [s1 c i (by omega) (by omega)]
        exact b1 c i (by omega)
      · have sw := sweep s2 h1 h3 h4
        have e : (fun t => sI (fun i => if m6 436 i ≤ 2 * t + 1 then sg (m6 436 i) else 0) f) = Dv mc day v := by
          funext t
          have q := su (fun x => if x ≤ 2 * t + 1 then sg x else 0)
          (try dsimp only at q)
          rw [q, b2 (fun x => if x ≤ 2 * t + 1 then sg x else 0)]
          unfold Dv
          rw [← F.1]
          refine sI_congr (fun i hi => ?_)
          (try dsimp only)
          have g1 : sg (2 * m0 435 i) = -1 := if_neg (by omega)
          have g2 : sg (2 * m0 434 i + 1) = 1 := if_pos (by omega)
          rw [g1, g2]
          split <;> split <;> split <;> (try split) <;> (try split) <;> omega
        rw [e] at sw
        exact sw
theorem byTimes_ok {n : Nat} (I : CI mc) (e1 : m0 431 0 = n) (n24 : n ≤ 24) (F : FltP mc day m0 n) : Ok (C_Fleet_countByTimes (nC mc) m0) (fun r => (∀ c i, ¬ (c = 436 ∨ c = 437) → r.2 c i = m0 c i) ∧ ∃ x : Nat → Int, (∀ v, v < nC mc → DefP (Dv mc day v) (x v)) ∧ r.1 = sI x (nC mc)) := by
  have nn := CI_n I
  unfold C_Fleet_countByTimes
  refine ok_ltv (ok_ltv (ok_bq3 (Q := fun (r : Int × Int × Mem) => (∀ c i, ¬ (c = 436 ∨ c = 437) → r.2.2 c i = m0 c i) ∧ ∃ x : Nat → Int, (∀ v, v < nC mc → DefP (Dv mc day v) (x v)) ∧ r.1 = sI x (nC mc)) ?_ (fun _ _ _ h => ok_some h)))
  refine ok_loop (fun r => ∃ k : Nat, r.2.1 = k ∧ k ≤ nC mc ∧ 0 ≤ r.1 ∧ r.1 ≤ 48 * k ∧ (∀ c i, ¬ (c = 436 ∨ c = 437) → r.2.2 c i = m0 c i) ∧ ∃ x : Nat → Int, (∀ v, v < k → DefP (Dv mc day v) (x v)) ∧ r.1 = sI x k) (fun r => nC mc - r.2.1.toNat) ⟨0, rfl, Nat.zero_le _, Int.le_refl _, Int.le_refl _, fun _ _ _ => rfl, fun _ => 0, fun v h => by omega, rfl⟩ ?_
  rintro ⟨s, kk, m⟩ ⟨k, a1, a2, a3, a4, a5, x, a6, a7⟩
  dsimp only at a1 a3 a4 a5 a7 ⊢
  subst a1
  unfold C_Fleet_countByTimes_b1
  have Fm : FltP mc day m n := by
    unfold FltP
    rw [show m 432 = m0 432 from funext fun i => a5 _ _ (by omega), show m 433 = m0 433 from funext fun i => a5 _ _ (by omega), show m 434 = m0 434 from funext fun i => a5 _ _ (by omega), show m 435 = m0 435 from funext fun i => a5 _ _ (by omega)]
    exact F
  refine ok_ite (fun hk => ok_bq2 (countAt_ok I (by omega) (by rw [a5 431 0 (by omega)]; exact e1) n24 Fm) (fun r m2 h => ?_)) (fun hk => ok_some ?_)
  · dsimp only at h
    obtain ⟨g1, g2, g3⟩ := h
    have g0 := g2.1
    refine ok_grd (by unfold InR; omega) (ok_ltv (ok_grd (by unfold InR; omega) (ok_ltv (ok_some ⟨⟨k + 1, by dsimp only; omega, by omega, by dsimp only; omega, by dsimp only; omega, fun c i h => ?_, fun v => if v = k then r else x v, fun v hv => ?_, ?_⟩, by dsimp only; omega⟩))))
    · dsimp only
      rw [g1 c i h]
      exact a5 c i h
    · dsimp only
      by_cases hvk : v = k
      · rw [if_pos hvk, hvk]; exact g2
      · rw [if_neg hvk]; exact a6 v (by omega)
    · dsimp only [sI]
      rw [if_pos rfl, a7]
      congr 1
      exact sI_congr (fun v hv => by rw [if_neg (by omega)])
  · have : k = nC mc := by omega
    rw [this] at a6 a7
    exact ⟨a5, x, a6, a7⟩
end VEH
