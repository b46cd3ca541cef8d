/-! ===== readRow: the trip is made, and the statement ===== -/
section RWT
variable {mc mm m m' m0 m1 : Mem}
/-- a trip with these calls, in the class -/
def TrC (m0 m : Mem) (T c : Nat) (S : Int) (P A D : Nat → Int) : Prop := (∀ x i, ¬ (x = 31 ∧ i = 0) → ¬ ((x = 32 ∨ x = 33) ∧ i = T) → ¬ (x = 35 + T ∨ x = 60 + T ∨ x = 85 + T) → m x i = m0 x i) ∧ m 31 0 = ((T + 1 : Nat) : Int) ∧ m 32 T = S ∧ m 33 T = c ∧ ∀ i, i < c → m (35 + T) i = P i ∧ m (60 + T) i = A i ∧ m (85 + T) i = D i
def TrM (m0 m : Mem) (T c : Nat) (S : Int) (P A D : Nat → Int) : Prop := (∀ x i, ¬ (x = 0 ∧ i = 8) → ¬ ((x = 5 ∨ x = 6) ∧ i = T) → ¬ ((x = 7 ∨ x = 8 ∨ x = 9) ∧ 8 * T ≤ i ∧ i < 8 * T + 8) → m x i = m0 x i) ∧ m 0 8 = ((T + 1 : Nat) : Int) ∧ m 5 T = S ∧ m 6 T = c ∧ ∀ i, i < c → m 7 (8 * T + i) = P i ∧ m 8 (8 * T + i) = A i ∧ m 9 (8 * T + i) = D i
theorem tadd_ok {T c : Nat} {p a d : Int} (hT : T < 24) (hc : c < 8) (h33 : m0 33 T = c) : Ok (C_Trips_add T p a d m0) (fun m => (∀ x i, ¬ (x = 33 ∧ i = T) → ¬ ((x = 35 + T ∨ x = 60 + T ∨ x = 85 + T) ∧ i = c) → m x i = m0 x i) ∧ m 33 T = ((c + 1 : Nat) : Int) ∧ m (35 + T) c = p ∧ m (60 + T) c = a ∧ m (85 + T) c = d) := by
  unfold C_Trips_add
  rw [Int.toNat_natCast, h33]
  refine ok_grd (by omega) (ok_ltv (ok_grd (by omega) (ok_ltv (ok_ltv (ok_ltv ?_)))))
  rw [Int.toNat_natCast]
  rw [setM_ne (by omega), setM_ne (by omega), setM_ne (by omega), h33]
  refine ok_grd (by unfold InR; omega) (ok_ltv (ok_some ⟨fun x i h1 h2 => ?_, ?_, ?_, ?_, ?_⟩))
  · rw [setM_ne (by omega), setM_ne (by omega), setM_ne (by omega), setM_ne (by omega)]
  · rw [setM_same]
    omega
  · rw [setM_ne (by omega), setM_ne (by omega), setM_ne (by omega), setM_same]
  · rw [setM_ne (by omega), setM_ne (by omega), setM_same]
  · rw [setM_ne (by omega), setM_same]
theorem tripC_ok {T c : Nat} {S : Int} {P A D : Nat → Int} (hT : T < 24) (c1 : 1 ≤ c) (c8 : c ≤ 8) (h31 : m0 31 0 = T) (h4 : m0 114 4 = c) (hP : ∀ i, i < c → m0 116 i = P i ∧ m0 117 i = A i ∧ m0 118 i = D i) (h0 : A 0 = D 0) : Ok (bq2 (C_Trips_begin S (m0 116 0) (m0 118 0) m0) fun r_3 m_3 => ltv (r_3 : Int) fun trip_ => ltv (1 : Int) fun call_ => bq2 (loop (fun s => C_readRow_b1 trip_ s.1 s.2) (call_, m_3)) fun _ m_6 => bq2 (C_Row_empty m_6) fun _ m_7 => some ((.inl trip_ : Int ⊕ Nat), m_7)) (fun r => r.1 = .inl (T : Int) ∧ ∃ m6, TrC m0 m6 T c S P A D ∧ r.2 = setM m6 114 1 0) := by
  have q0 := hP 0 (by omega)
  rw [q0.1, q0.2.2]
  have hb : Ok (C_Trips_begin S (P 0) (D 0) m0) (fun r => r.1 = (T : Int) ∧ TrC m0 r.2 T 1 S P A D) := by
    unfold C_Trips_begin
    rw [h31, Int.toNat_natCast]
    refine ok_grd (by omega) (ok_ltv ?_)
    have e1 : setM m0 32 T S 31 0 = T := by rw [setM_ne (by omega)]; exact h31
    rw [e1, Int.toNat_natCast]
    refine ok_grd (by omega) (ok_ltv ?_)
    obtain ⟨m2, hm2⟩ : ∃ m2, m2 = setM (setM m0 32 T S) 33 T 0 := ⟨_, rfl⟩
    rw [← hm2]
    have e2 : m2 31 0 = T := by rw [hm2, setM_ne (by omega)]; exact e1
    rw [e2]
    refine ok_bind (tadd_ok (c := 0) hT (by omega) (by rw [hm2, setM_same]; rfl)) (fun m3 h3 => ?_)
    obtain ⟨f3, g1, g2, g3, g4⟩ := h3
    have e3 : m3 31 0 = T := by rw [f3 31 0 (by omega) (by omega)]; exact e2
    rw [e3]
    refine ok_grd (by unfold InR; omega) (ok_ltv ?_)
    rw [setM_same]
    refine ok_grd (by unfold InR; omega) (ok_some ⟨by dsimp only; omega, fun x i y1 y2 y3 => ?_, ?_, ?_, ?_, fun i hi => ?_⟩)
    · dsimp only
      rw [setM_ne (by omega), f3 x i (by omega) (by omega), hm2, setM_ne (by omega), setM_ne (by omega)]
    · dsimp only
      rw [setM_same]
      omega
    · dsimp only
      rw [setM_ne (by omega), f3 32 T (by omega) (by omega), hm2, setM_ne (by omega), setM_same]
    · dsimp only
      rw [setM_ne (by omega), g1]
    · have : i = 0 := by omega
      dsimp only
      rw [this, setM_ne (by omega), setM_ne (by omega), setM_ne (by omega)]
      exact ⟨g2, by rw [h0]; exact g3, g4⟩
  refine ok_bq2 hb (fun t m3 h3 => ok_ltv (ok_ltv ?_))
  dsimp only at h3
  obtain ⟨rfl, h3⟩ := h3
  refine ok_bq2 (Q := fun (x : Int × Mem) => TrC m0 x.2 T c S P A D) ?_ (fun _ m6 h6 => ?_)
  · refine ok_loop (fun x => ∃ j : Nat, x.1 = j ∧ 1 ≤ j ∧ j ≤ c ∧ TrC m0 x.2 T j S P A D) (fun x => 9 - x.1.toNat) ⟨1, rfl, Nat.le_refl _, c1, h3⟩ ?_
    rintro ⟨jj, m4⟩ ⟨j, a1, a2, a3, f, g1, g2, g3, g4⟩
    dsimp only at a1 f g1 g2 g3 g4 ⊢
    subst a1
    unfold C_readRow_b1
    rw [f 114 4 (by omega) (by omega) (by omega), h4]
    refine ok_ite (fun hj => ok_grd (by omega) ?_) (fun hj => ok_some ?_)
    · have qj := hP j (by omega)
      rw [Int.toNat_natCast, f 116 j (by omega) (by omega) (by omega), f 117 j (by omega) (by omega) (by omega), f 118 j (by omega) (by omega) (by omega), qj.1, qj.2.1, qj.2.2]
      refine ok_bind (tadd_ok (c := j) hT (by omega) g3) (fun m5 h5 => ok_grd (by unfold InR; omega) (ok_ltv (ok_some ?_)))
      obtain ⟨f5, k1, k2, k3, k4⟩ := h5
      refine ⟨⟨j + 1, by dsimp only; omega, by omega, by omega, fun x i y1 y2 y3 => ?_, ?_, ?_, k1, fun i hi => ?_⟩, by dsimp only; omega⟩
      · dsimp only
        rw [f5 x i (by omega) (by omega)]
        exact f x i y1 y2 y3
      · dsimp only
        rw [f5 31 0 (by omega) (by omega)]
        exact g1
      · dsimp only
        rw [f5 32 T (by omega) (by omega)]
        exact g2
      · dsimp only
        by_cases hij : i = j
        · rw [hij]
          exact ⟨k2, k3, k4⟩
        · rw [f5 _ i (by omega) (by omega), f5 _ i (by omega) (by omega), f5 _ i (by omega) (by omega)]
          exact g4 i (by omega)
    · have : j = c := by omega
      rw [this] at g3 g4
      exact ⟨f, g1, g2, g3, g4⟩
  · unfold C_Row_empty
    exact ok_bq2 (Q := fun r => r.2 = setM m6 114 1 0) (ok_ltv (ok_ltv (ok_some rfl))) (fun _ m7 h7 => ok_some ⟨rfl, m6, h6, h7⟩)
theorem tripM_ok {T c : Nat} {S : Int} {P A D : Nat → Int} (hT : T < 24) (c1 : 1 ≤ c) (c8 : c ≤ 8) (h8 : m0 0 8 = T) (hR : RoE c S P A D m0) (h0 : A 0 = D 0) : Ok (bq2 (M_added (m0 31 0) (m0 31 1) (m0 31 2) m0) fun r_6 m_7 => ltv (r_6 : Int) fun trip_ => ltv (4 : Int) fun at_ => bq2 (loop (fun s => M_readRow_b1 trip_ s.1 s.2) (at_, m_7)) fun _ m_13 => ltv (setM m_13 0 19 0) fun m_14 => some (trip_, m_14)) (fun r => r.1 = (T : Int) ∧ ∃ m6, TrM m0 m6 T c S P A D ∧ r.2 = setM m6 0 19 0) := by
  obtain ⟨r0, r45, -, r4⟩ := hR
  have r45 := r45 (by omega)
  have q0 := r4 0 (by omega) (by omega)
  have q1 : m0 31 1 = P 0 := q0.1
  have q2 : m0 31 2 = A 0 := q0.2.1
  rw [r0, q1, q2]
  have hb : Ok (M_added S (P 0) (A 0) m0) (fun r => r.1 = (T : Int) ∧ TrM m0 r.2 T 1 S P A D) := by
    unfold M_added
    rw [h8, Int.toNat_natCast]
    refine ok_grd (by omega) (ok_ltv ?_)
    have e1 : setM m0 5 T S 0 8 = T := by rw [setM_ne (by omega)]; exact h8
    rw [e1, Int.toNat_natCast]
    refine ok_grd (by omega) (ok_ltv ?_)
    have e2 : setM (setM m0 5 T S) 6 T 1 0 8 = T := by rw [setM_ne (by omega)]; exact e1
    have ei : (8 * (T : Int)).toNat = 8 * T := by omega
    rw [e2, ei]
    refine ok_grd (by unfold InR; omega) (ok_ltv ?_)
    have e3 : setM (setM (setM m0 5 T S) 6 T 1) 7 (8 * T) (P 0) 0 8 = T := by rw [setM_ne (by omega)]; exact e2
    rw [e3, ei]
    refine ok_grd (by unfold InR; omega) (ok_ltv ?_)
    have e4 : setM (setM (setM (setM m0 5 T S) 6 T 1) 7 (8 * T) (P 0)) 8 (8 * T) (A 0) 0 8 = T := by rw [setM_ne (by omega)]; exact e3
    rw [e4, ei]
    refine ok_grd (by unfold InR; omega) (ok_ltv ?_)
    obtain ⟨m5, hm5⟩ : ∃ m5, m5 = setM (setM (setM (setM (setM m0 5 T S) 6 T 1) 7 (8 * T) (P 0)) 8 (8 * T) (A 0)) 9 (8 * T) (A 0) := ⟨_, rfl⟩
    rw [← hm5]
    have e5 : m5 0 8 = T := by rw [hm5, setM_ne (by omega)]; exact e4
    rw [e5]
    refine ok_grd (by unfold InR; omega) (ok_ltv ?_)
    rw [setM_same]
    refine ok_grd (by unfold InR; omega) (ok_some ⟨by dsimp only; omega, fun x i y1 y2 y3 => ?_, ?_, ?_, ?_, fun i hi => ?_⟩)
    · dsimp only
      rw [setM_ne (by omega), hm5, setM_ne (by omega), setM_ne (by omega), setM_ne (by omega), setM_ne (by omega), setM_ne (by omega)]
    · dsimp only
      rw [setM_same]
      omega
    · dsimp only
      rw [setM_ne (by omega), hm5, setM_ne (by omega), setM_ne (by omega), setM_ne (by omega), setM_ne (by omega), setM_same]
    · dsimp only
      rw [setM_ne (by omega), hm5, setM_ne (by omega), setM_ne (by omega), setM_ne (by omega), setM_same]
      rfl
    · have : i = 0 := by omega
      dsimp only
      rw [this, Nat.add_zero, setM_ne (by omega), setM_ne (by omega), setM_ne (by omega), hm5]
      refine ⟨?_, ?_, ?_⟩
      · rw [setM_ne (by omega), setM_ne (by omega), setM_same]
      · rw [setM_ne (by omega), setM_same]
      · rw [setM_same]
        exact h0
  refine ok_bq2 hb (fun t m3 h3 => ok_ltv (ok_ltv ?_))
  dsimp only at h3
  obtain ⟨rfl, h3⟩ := h3
  refine ok_bq2 (Q := fun (x : Int × Mem) => TrM m0 x.2 T c S P A D) ?_ (fun _ m6 h6 => ok_ltv (ok_some ⟨rfl, m6, h6, rfl⟩))
  refine ok_loop (fun x => ∃ j : Nat, x.1 = 1 + 3 * (j : Int) ∧ 1 ≤ j ∧ j ≤ c ∧ TrM m0 x.2 T j S P A D) (fun x => 40 - x.1.toNat) ⟨1, rfl, Nat.le_refl _, c1, h3⟩ ?_
  rintro ⟨jj, m4⟩ ⟨j, a1, a2, a3, f, g1, g2, g3, g4⟩
  dsimp only at a1 f g1 g2 g3 g4 ⊢
  subst a1
  unfold M_readRow_b1
  rw [f 0 45 (by omega) (by omega) (by omega), r45, Int.toNat_natCast, g3]
  refine ok_ite (fun hj => ok_grd (by unfold InR; omega) (ok_ltv ?_)) (fun hj => ok_some ?_)
  · have rj := r4 j (by omega) (by omega)
    have i0 : (1 + 3 * (j : Int)).toNat = 1 + 3 * j := by omega
    have i1 : (1 + 3 * (j : Int) + 1).toNat = 2 + 3 * j := by omega
    have i2 : (1 + 3 * (j : Int) + 2).toNat = 3 + 3 * j := by omega
    have ic : (8 * (T : Int) + (j : Int)).toNat = 8 * T + j := by omega
    rw [i0, i1, i2, ic, f 31 _ (by omega) (by omega) (by omega), rj.1]
    refine ok_grd (by omega) (ok_ltv ?_)
    rw [setM_ne (by omega), f 31 _ (by omega) (by omega) (by omega), rj.2.1]
    refine ok_grd (by unfold InR; omega) (ok_ltv ?_)
    rw [setM_ne (by omega), setM_ne (by omega), f 31 _ (by omega) (by omega) (by omega), rj.2.2]
    refine ok_grd (by unfold InR; omega) (ok_ltv ?_)
    obtain ⟨m5, hm5⟩ : ∃ m5, m5 = setM (setM (setM m4 7 (8 * T + j) (P j)) 8 (8 * T + j) (A j)) 9 (8 * T + j) (D j) := ⟨_, rfl⟩
    rw [← hm5]
    have e6 : m5 6 T = j := by rw [hm5, setM_ne (by omega), setM_ne (by omega), setM_ne (by omega)]; exact g3
    rw [e6]
    refine ok_grd (by unfold InR; omega) (ok_ltv (ok_grd (by unfold InR; omega) (ok_ltv (ok_some ?_))))
    have fr : ∀ x i, ¬ ((x = 7 ∨ x = 8 ∨ x = 9) ∧ i = 8 * T + j) → m5 x i = m4 x i := fun x i h => by rw [hm5, setM_ne (by omega), setM_ne (by omega), setM_ne (by omega)]
    refine ⟨⟨j + 1, by dsimp only; omega, by omega, by omega, fun x i y1 y2 y3 => ?_, ?_, ?_, ?_, fun i hi => ?_⟩, by dsimp only; omega⟩
    · dsimp only
      rw [setM_ne (by omega), fr x i (by omega)]
      exact f x i y1 y2 y3
    · dsimp only
      rw [setM_ne (by omega), fr 0 8 (by omega)]
      exact g1
    · dsimp only
      rw [setM_ne (by omega), fr 5 T (by omega)]
      exact g2
    · dsimp only
      rw [setM_same]
      omega
    · dsimp only
      rw [setM_ne (by omega), setM_ne (by omega), setM_ne (by omega)]
      by_cases hij : i = j
      · rw [hij, hm5]
        refine ⟨?_, ?_, ?_⟩
        · rw [setM_ne (by omega), setM_ne (by omega), setM_same]
        · rw [setM_ne (by omega), setM_same]
        · rw [setM_same]
      · rw [fr 7 _ (by omega), fr 8 _ (by omega), fr 9 _ (by omega)]
        exact g4 i (by omega)
  · have : j = c := by omega
    rw [this] at g3 g4
    exact ⟨f, g1, g2, g3, g4⟩
theorem Inv_row {T c : Nat} {S : Int} {P A D : Nat → Int} {n1 n2 : Mem} (I : Inv mc mm) (hT : mc 31 0 = T) (T24 : T < 24) (c1 : 1 ≤ c) (hS : 0 ≤ S) (hK : OkR mc c S P A D) (hpos : ∀ i, i < c → 0 ≤ P i ∧ 0 ≤ A i) (h0 : A 0 = D 0) (fc : ∀ x i, ¬ (x = 114 ∧ (i = 3 ∨ i = 4 ∨ i = 8 ∨ i = 9)) → ¬ (116 ≤ x ∧ x ≤ 118) → m0 x i = mc x i) (hc : TrC m0 n1 T c S P A D) (fm : ∀ x i, ¬ x = 31 → ¬ (x = 0 ∧ (i = 45 ∨ i = 0)) → m1 x i = mm x i) (hm : TrM m1 n2 T c S P A D) : Inv (setM n1 114 1 0) (setM n2 0 19 0) := by
  obtain ⟨a, b, cc, d, e, f, g⟩ := id I
  obtain ⟨k1, k2, k3⟩ := hK
  obtain ⟨F1, x31, x32, x33, xi⟩ := hc
  obtain ⟨F2, y8, y5, y6, yi⟩ := hm
  have fC : ∀ x i, ¬ (x = 31 ∧ i = 0) → ¬ ((x = 32 ∨ x = 33) ∧ i = T) → ¬ (x = 35 + T ∨ x = 60 + T ∨ x = 85 + T) → ¬ (x = 114 ∧ (i = 1 ∨ i = 3 ∨ i = 4 ∨ i = 8 ∨ i = 9)) → ¬ (116 ≤ x ∧ x ≤ 118) → setM n1 114 1 0 x i = mc x i := fun x i h1 h2 h3 h4 h5 => by
    rw [setM_ne (by omega), F1 x i h1 h2 h3]
    exact fc x i (by omega) h5
  have fM : ∀ x i, ¬ (x = 0 ∧ (i = 8 ∨ i = 19 ∨ i = 45 ∨ i = 0)) → ¬ ((x = 5 ∨ x = 6) ∧ i = T) → ¬ ((x = 7 ∨ x = 8 ∨ x = 9) ∧ 8 * T ≤ i ∧ i < 8 * T + 8) → ¬ x = 31 → setM n2 0 19 0 x i = mm x i := fun x i h1 h2 h3 h4 => by
    rw [setM_ne (by omega), F2 x i (by omega) h2 h3]
    exact fm x i h4 (by omega)
  have e1 : mc 1 0 = setM n1 114 1 0 1 0 := (fC 1 0 (by omega) (by omega) (by omega) (by omega) (by omega)).symm
  refine ⟨IS_fr a (fun x i h => fC x i (by unfold cS at h; omega) (by unfold cS at h; omega) (by unfold cS at h; omega) (by unfold cS at h; omega) (by unfold cS at h; omega)) (fun x i h => fM x i (by unfold mS at h; omega) (by unfold mS at h; omega) (by unfold mS at h; omega) (by unfold mS at h; omega)), IV_fr b (fun x i h => fC x i (by unfold cV at h; omega) (by unfold cV at h; omega) (by unfold cV at h; omega) (by unfold cV at h; omega) (by unfold cV at h; omega)) (fun x i h => fM x i (by unfold mV at h; omega) (by unfold mV at h; omega) (by unfold mV at h; omega) (by unfold mV at h; omega)), ?_, ID_fr d (fun x i h => fC x i (by unfold cD at h; omega) (by unfold cD at h; omega) (by unfold cD at h; omega) (by unfold cD at h; omega) (by unfold cD at h; omega)) (fun x i h => fM x i (by unfold mD at h; omega) (by unfold mD at h; omega) (by unfold mD at h; omega) (by unfold mD at h; omega)), ?_, IC_fr f (fun x i h => fC x i (by unfold cK at h; omega) (by unfold cK at h; omega) (by unfold cK at h; omega) (by unfold cK at h; omega) (by unfold cK at h; omega)) (fun x i h => fM x i (by unfold mK at h; omega) (by unfold mK at h; omega) (by unfold mK at h; omega) (by unfold mK at h; omega)), ?_⟩
  · obtain ⟨t1, t2, t3, t4⟩ := cc
    have z31 : setM n1 114 1 0 31 0 = ((T + 1 : Nat) : Int) := by rw [setM_ne (by omega)]; exact x31
    have z8 : setM n2 0 19 0 0 8 = ((T + 1 : Nat) : Int) := by rw [setM_ne (by omega)]; exact y8
    have e29 : setM n1 114 1 0 29 0 = mc 29 0 := fC 29 0 (by omega) (by omega) (by omega) (by omega) (by omega)
    refine ⟨by rw [z31, z8], by rw [z31]; omega, by rw [z31]; omega, fun t ht => ?_⟩
    rw [z31] at ht
    by_cases htT : t = T
    · rw [htT]
      have u5 : setM n2 0 19 0 5 T = S := by rw [setM_ne (by omega)]; exact y5
      have u6 : setM n2 0 19 0 6 T = c := by rw [setM_ne (by omega)]; exact y6
      have w32 : setM n1 114 1 0 32 T = S := by rw [setM_ne (by omega)]; exact x32
      have w33 : setM n1 114 1 0 33 T = c := by rw [setM_ne (by omega)]; exact x33
      rw [u5, u6, w32, w33, e29]
      refine ⟨rfl, hS, k1, rfl, by omega, by omega, fun i hi => ?_⟩
      have X := xi i (by omega)
      have Y := yi i (by omega)
      have K := k3 i (by omega)
      have p := hpos i (by omega)
      have cell : ∀ j, setM n1 114 1 0 (35 + T) j = n1 (35 + T) j ∧ setM n1 114 1 0 (60 + T) j = n1 (60 + T) j ∧ setM n1 114 1 0 (85 + T) j = n1 (85 + T) j := fun j => ⟨setM_ne (by omega), setM_ne (by omega), setM_ne (by omega)⟩
      have celM : setM n2 0 19 0 7 (8 * T + i) = n2 7 (8 * T + i) ∧ setM n2 0 19 0 8 (8 * T + i) = n2 8 (8 * T + i) ∧ setM n2 0 19 0 9 (8 * T + i) = n2 9 (8 * T + i) := ⟨setM_ne (by omega), setM_ne (by omega), setM_ne (by omega)⟩
      unfold ITc
      rw [celM.1, celM.2.1, celM.2.2, (cell i).1, (cell i).2.1, (cell i).2.2, (cell (i + 1)).2.1, w33, X.1, X.2.1, X.2.2, Y.1, Y.2.1, Y.2.2, ← e1]
      refine ⟨rfl, p.1, K.1, rfl, rfl, p.2, K.2.2.1, K.2.2.2, fun hi0 => by rw [hi0]; exact h0, fun hi1 => ?_⟩
      have X1 := xi (i + 1) (by omega)
      have K1 := (k3 (i + 1) (by omega)).2.1 (by omega)
      rw [X1.2.1]
      rw [show i + 1 - 1 = i by omega] at K1
      exact K1.2
    · have tT : t < T := by omega
      have q := t4 t (by omega)
      have w32 : setM n1 114 1 0 32 t = mc 32 t := fC 32 t (by omega) (by omega) (by omega) (by omega) (by omega)
      have w33 : setM n1 114 1 0 33 t = mc 33 t := fC 33 t (by omega) (by omega) (by omega) (by omega) (by omega)
      have u5 : setM n2 0 19 0 5 t = mm 5 t := fM 5 t (by omega) (by omega) (by omega) (by omega)
      have u6 : setM n2 0 19 0 6 t = mm 6 t := fM 6 t (by omega) (by omega) (by omega) (by omega)
      rw [w32, w33, u5, u6, e29]
      refine ⟨q.1, q.2.1, q.2.2.1, q.2.2.2.1, q.2.2.2.2.1, q.2.2.2.2.2.1, fun i hi => ?_⟩
      have r := q.2.2.2.2.2.2 i hi
      have cell : ∀ j, setM n1 114 1 0 (35 + t) j = mc (35 + t) j ∧ setM n1 114 1 0 (60 + t) j = mc (60 + t) j ∧ setM n1 114 1 0 (85 + t) j = mc (85 + t) j := fun j => ⟨fC _ _ (by omega) (by omega) (by omega) (by omega) (by omega), fC _ _ (by omega) (by omega) (by omega) (by omega) (by omega), fC _ _ (by omega) (by omega) (by omega) (by omega) (by omega)⟩
      have celM : setM n2 0 19 0 7 (8 * t + i) = mm 7 (8 * t + i) ∧ setM n2 0 19 0 8 (8 * t + i) = mm 8 (8 * t + i) ∧ setM n2 0 19 0 9 (8 * t + i) = mm 9 (8 * t + i) := ⟨fM _ _ (by omega) (by omega) (by omega) (by omega), fM _ _ (by omega) (by omega) (by omega) (by omega), fM _ _ (by omega) (by omega) (by omega) (by omega)⟩
      unfold ITc at r ⊢
      rw [celM.1, celM.2.1, celM.2.2, (cell i).1, (cell i).2.1, (cell i).2.2, (cell (i + 1)).2.1, w33, ← e1]
      exact r
  · obtain ⟨r1, r2, r3, r4, r5⟩ := e
    have z1 : setM n1 114 1 0 114 1 = 0 := setM_same _ _ _ _
    have z19 : setM n2 0 19 0 0 19 = 0 := setM_same _ _ _ _
    have z2 : setM n1 114 1 0 114 2 = mc 114 2 := fC _ _ (by omega) (by omega) (by omega) (by omega) (by omega)
    have z21 : setM n2 0 19 0 0 21 = mm 0 21 := fM _ _ (by omega) (by omega) (by omega) (by omega)
    refine ⟨by omega, by omega, by omega, by omega, fun k hk => by omega⟩
  · obtain ⟨w1, w2, w3, w4⟩ := g
    have z4 : setM n1 114 1 0 400 4 = mc 400 4 := fC _ _ (by omega) (by omega) (by omega) (by omega) (by omega)
    have z36 : setM n2 0 19 0 0 36 = mm 0 36 := fM _ _ (by omega) (by omega) (by omega) (by omega)
    have z31 : setM n1 114 1 0 31 0 = ((T + 1 : Nat) : Int) := by rw [setM_ne (by omega)]; exact x31
    refine ⟨by omega, by omega, by omega, fun k hk => ?_⟩
    have q := w4 k (by omega)
    have u : ∀ x, 24 ≤ x → x ≤ 28 → setM n2 0 19 0 x k = mm x k := fun x h1 h2 => fM _ _ (by omega) (by omega) (by omega) (by omega)
    have v : ∀ x, 401 ≤ x → x ≤ 405 → setM n1 114 1 0 x k = mc x k := fun x h1 h2 => fC _ _ (by omega) (by omega) (by omega) (by omega) (by omega)
    rw [u 24 (by omega) (by omega), u 25 (by omega) (by omega), u 26 (by omega) (by omega), u 27 (by omega) (by omega), u 28 (by omega) (by omega), v 401 (by omega) (by omega), v 402 (by omega) (by omega), v 403 (by omega) (by omega), v 404 (by omega) (by omega), v 405 (by omega) (by omega), z31]
    have p33 : ∀ x : Int, 0 ≤ x → x < mc 31 0 → setM n1 114 1 0 33 x.toNat = mc 33 x.toNat := fun x h1 h2 => fC _ _ (by omega) (by omega) (by omega) (by omega) (by omega)
    rw [p33 (mc 401 k) (by omega) (by omega), p33 (mc 403 k) (by omega) (by omega)]
    omega
theorem st_readRow : ST_readRow Inv := by
  intro mc mm I
  obtain ⟨a, b, cc, d, e, f, g⟩ := id I
  obtain ⟨t1, t2, t3, t4⟩ := id cc
  obtain ⟨r1, r2, r3, r4, r5⟩ := id e
  obtain ⟨n, hn⟩ : ∃ n : Nat, mc 114 1 = n := ⟨(mc 114 1).toNat, by omega⟩
  have hS : SgC n (mc 115) mc := ⟨hn, fun _ _ => rfl⟩
  have hM : RdM n (mc 115) mm := ⟨by rw [r1, hn], fun i hi => (r5 i (by omega)).1⟩
  refine ag_of ?_
  unfold C_readRow
  refine ok_bq2 (read_ok hS (by omega) (fun i hi => (r5 i (by omega)).2) hM) (fun z m1 h1 => ?_)
  dsimp only at h1
  obtain ⟨F1, h1⟩ := h1
  rcases h1 with ⟨rfl, e2, c, m'', c1, c80, RC, hR, fR, ro⟩ | ⟨rfl, k, m'', kn, e2, hR, fR⟩
  · -- a row
    have fc : ∀ x i, ¬ (x = 114 ∧ (i = 3 ∨ i = 4 ∨ i = 8 ∨ i = 9)) → ¬ (116 ≤ x ∧ x ≤ 118) → m1 x i = mc x i := fun x i h1 h2 => by
      by_cases hh : x = 114 ∧ i = 2
      · rw [hh.1, hh.2]; exact e2
      · exact F1 x i (by omega) h2
    have I1 : Inv m1 mm := Inv_fr I (fun x i q => fc x i (by unfold pC at q; omega) (by unfold pC at q; omega)) (fun _ _ _ => rfl)
    have J : Inv m1 m'' := Inv_fr I1 (fun _ _ _ => rfl) (fun x i q => fR x i (by unfold pM at q; omega) (by unfold pM at q; omega))
    -- the reference's head
    obtain ⟨mz, hmz⟩ : ∃ mz, mz = setM m'' 0 0 0 := ⟨_, rfl⟩
    have Jz : Inv m1 mz := by rw [hmz]; exact Inv_thr J 0
    have xz : ∀ x i, ¬ (x = 0 ∧ i = 0) → mz x i = m'' x i := fun x i h => by rw [hmz]; exact setM_ne h
    have roz : RoE c (m1 114 3) (m1 116) (m1 117) (m1 118) mz := by
      obtain ⟨q1, q2, q3, q4⟩ := ro
      refine ⟨by rw [xz 31 0 (by omega)]; exact q1, fun h => by rw [xz 0 45 (by omega)]; exact q2 h, fun h => by rw [xz 0 45 (by omega)]; exact q3 h, fun i h1 h2 => ?_⟩
      rw [xz 31 _ (by omega), xz 31 _ (by omega), xz 31 _ (by omega)]
      exact q4 i h1 h2
    have e29 : m1 29 0 = mc 29 0 := fc 29 0 (by omega) (by omega)
    have e10 : m1 1 0 = mc 1 0 := fc 1 0 (by omega) (by omega)
    have e31 : m1 31 0 = mc 31 0 := fc 31 0 (by omega) (by omega)
    have wr := rowWrong_ok (mc := mc) roz c1 (by rw [Jz.2.1.1]; exact e29) (by rw [Jz.1.1]; exact e10)
    have mside : ∀ P' : Int × Mem → Prop, (¬ OkR mc c (m1 114 3) (m1 116) (m1 117) (m1 118) → ∀ mm', Inv m1 mm' → mm' 0 0 = 2 → P' (0, mm')) → (OkR mc c (m1 114 3) (m1 116) (m1 117) (m1 118) → 24 ≤ mc 31 0 → ∀ mm', Inv m1 mm' → mm' 0 0 = 3 → P' (0, mm')) → (OkR mc c (m1 114 3) (m1 116) (m1 117) (m1 118) → mc 31 0 < 24 → ∀ m6 m7, (∀ x i, ¬ x = 31 → ¬ (x = 0 ∧ (i = 45 ∨ i = 0)) → m6 x i = mm x i) → m6 0 0 = 0 → TrM m6 m7 (mc 31 0).toNat c (m1 114 3) (m1 116) (m1 117) (m1 118) → P' (((mc 31 0).toNat : Int), setM m7 0 19 0)) → Ok (M_readRow mm) P' := by
      intro P' hP1 hP2 hP3
      unfold M_readRow
      rw [hR]
      refine ok_bq2 (ok_some rfl) (fun pl m2 h2 => ok_ltv (ok_ltv ?_))
      cases h2
      refine ok_ite (fun q => absurd rfl q) (fun _ => ?_)
      refine wp_bq2 (wp_isThrownI (fun q => absurd rfl q) (fun _ => ok_ite (fun q => absurd rfl q) (fun _ => ?_)))
      dsimp only
      rw [← hmz]
      refine ok_bind wr (fun w hw => wp_bq2 ?_)
      rcases hw with ⟨rfl, hok⟩ | ⟨rfl, hno⟩
      · refine wp_isThrown0 (ok_ite (fun q => absurd rfl q) (fun _ => wp_bq2 (wp_isThrownI (fun q => ok_ite (fun _ => ok_some (hP2 hok ?_ _ (Inv_thr (Inv_thr Jz _) _) (by dsimp only; exact setM_same _ _ _ _))) (fun q => absurd Int.one_ne_zero q)) (fun q => ok_ite (fun q => absurd rfl q) (fun _ => ?_)))))
        · dsimp only at q
          rw [setM_ne (by omega), Jz.2.2.1.1, e31] at q
          omega
        · dsimp only at q ⊢
          rw [setM_ne (by omega), Jz.2.2.1.1, e31] at q
          obtain ⟨m6, hm6⟩ : ∃ m6, m6 = setM (setM mz 0 0 0) 0 0 0 := ⟨_, rfl⟩
          rw [← hm6]
          have x6 : ∀ x i, ¬ (x = 0 ∧ i = 0) → m6 x i = mz x i := fun x i h => by rw [hm6, setM_ne h, setM_ne h]
          have ro6 : RoE c (m1 114 3) (m1 116) (m1 117) (m1 118) m6 := by
            obtain ⟨q1, q2, q3, q4⟩ := roz
            refine ⟨by rw [x6 31 0 (by omega)]; exact q1, fun h => by rw [x6 0 45 (by omega)]; exact q2 h, fun h => by rw [x6 0 45 (by omega)]; exact q3 h, fun i h1 h2 => ?_⟩
            rw [x6 31 _ (by omega), x6 31 _ (by omega), x6 31 _ (by omega)]
            exact q4 i h1 h2
          refine (tripM_ok (T := (mc 31 0).toNat) (by omega) c1 hok.2.1 (by rw [x6 0 8 (by omega), Jz.2.2.1.1, e31]; omega) ro6 RC.2.2.2).mono (fun r hr => ?_)
          obtain ⟨⟨v1, v2⟩⟩ : ∃ v : Int × Mem, v = r := ⟨_, rfl⟩
          obtain ⟨g1, m7, g2, g3⟩ := hr
          have := hP3 hok (by omega) m6 m7 (fun x i y1 y2 => by
            rw [x6 x i (by omega), xz x i (by omega)]
            exact fR x i y1 (by omega)) (by rw [hm6, setM_same]) g2
          rw [← g1, ← g3] at this
          exact this
      · exact wp_isThrown1 (ok_ite (fun _ => ok_some (hP1 hno _ (Inv_thr Jz _) (by dsimp only; exact setM_same _ _ _ _))) (fun q => absurd Int.one_ne_zero q))
    refine ok_ite (fun _ => ok_bind (rowFits_ok (mc := mc) RC c1 c80 e29 e10) (fun z hz => ?_)) (fun q => absurd Int.one_ne_zero q)
    rcases hz with ⟨rfl, hok⟩ | ⟨rfl, hno⟩
    · refine ok_ite (fun _ => wp_bind (wp_needRoomForTrip (fun q => ok_tbd_inr ?_) (fun q => ok_tbd_inl ?_))) (fun q => absurd Int.one_ne_zero q)
      · refine mside _ (fun q2 => absurd hok q2) (fun _ _ mm' J' e0 => ?_) (fun _ q2 => by omega)
        exact agp_er (by decide) (by rw [e0]; rfl) J'
      · have b := RC.2.2.1
        have c8 := hok.2.1
        refine (tripC_ok (S := m1 114 3) (P := m1 116) (A := m1 117) (D := m1 118) (T := (mc 31 0).toNat) (by omega) c1 c8 (by omega) RC.1 (fun _ _ => ⟨rfl, rfl, rfl⟩) RC.2.2.2).mono (fun r hr => ?_)
        obtain ⟨r1', r2'⟩ := r
        dsimp only at hr
        obtain ⟨rfl, m6, h6, rfl⟩ := hr
        refine mside _ (fun q2 => absurd hok q2) (fun _ q2 => by omega) (fun _ _ n6 n7 fn z0 tr => ?_)
        refine agp_ok ?_ rfl ?_
        · rw [setM_ne (by omega), tr.1 0 0 (by omega) (by omega) (by omega)]
          exact z0
        · exact Inv_row I (by omega) (by omega) c1 RC.2.1 hok (fun i hi => by have := b i hi (by omega); omega) RC.2.2.2 fc h6 fn tr
    · refine ok_ite (fun q => absurd rfl q) (fun _ => ok_some ?_)
      refine mside _ (fun _ mm' J' e0 => ?_) (fun q => absurd q hno) (fun q => absurd q hno)
      exact agp_er (by decide) (by rw [e0]; rfl) J'
  · -- no row
    refine ok_ite (fun q => absurd rfl q) (fun _ => ok_some ?_)
    unfold M_readRow
    rw [hR]
    refine ok_bq2 (ok_some rfl) (fun pl m2 h2 => ok_ltv (ok_ltv ?_))
    cases h2
    refine ok_ite (fun _ => ok_ltv ?_) (fun q => absurd (fun h => by omega) q)
    refine wp_bq2 (wp_isThrownI (fun _ => ok_ite (fun _ => ok_some ?_) (fun q => absurd Int.one_ne_zero q)) (fun q => absurd (fun h => by omega) q))
    refine agp_er (by decide) (by dsimp only; rw [setM_same]; rfl) ?_
    dsimp only
    refine Inv_thr ?_ _
    have fcx : ∀ x i, ¬ (x = 114 ∧ (i = 2 ∨ i = 3 ∨ i = 4 ∨ i = 8 ∨ i = 9)) → ¬ (116 ≤ x ∧ x ≤ 118) → m1 x i = mc x i := F1
    have fmx : ∀ x i, ¬ x = 31 → ¬ (x = 0 ∧ (i = 45 ∨ i = 21)) → setM m'' 0 21 (k : Int) x i = mm x i := fun x i h1 h2 => by
      rw [setM_ne (by omega)]
      exact fR x i h1 (by omega)
    refine ⟨IS_fr a (fun x i h => fcx x i (by unfold cS at h; omega) (by unfold cS at h; omega)) (fun x i h => fmx x i (by unfold mS at h; omega) (by unfold mS at h; omega)), IV_fr b (fun x i h => fcx x i (by unfold cV at h; omega) (by unfold cV at h; omega)) (fun x i h => fmx x i (by unfold mV at h; omega) (by unfold mV at h; omega)), IT_fr cc (fun x i h => fcx x i (by unfold cT at h; omega) (by unfold cT at h; omega)) (fun x i h => fmx x i (by unfold mT at h; omega) (by unfold mT at h; omega)), ID_fr d (fun x i h => fcx x i (by unfold cD at h; omega) (by unfold cD at h; omega)) (fun x i h => fmx x i (by unfold mD at h; omega) (by unfold mD at h; omega)), ?_, IC_fr f (fun x i h => fcx x i (by unfold cK at h; omega) (by unfold cK at h; omega)) (fun x i h => fmx x i (by unfold mK at h; omega) (by unfold mK at h; omega)), IW_fr g (fun x i h => fcx x i (by unfold cW at h; omega) (by unfold cW at h; omega)) (fun x i h => fmx x i (by unfold mW at h; omega) (by unfold mW at h; omega))⟩
    have z1 : m1 114 1 = mc 114 1 := fcx _ _ (by omega) (by omega)
    have z19 : setM m'' 0 21 (k : Int) 0 19 = mm 0 19 := fmx _ _ (by omega) (by omega)
    have z21 : setM m'' 0 21 (k : Int) 0 21 = k := setM_same _ _ _ _
    refine ⟨by omega, by omega, by omega, by omega, fun j hj => ?_⟩
    rw [fmx 14 j (by omega) (by omega), fcx 115 j (by omega) (by omega)]
    exact r5 j (by omega)
end RWT
