/-! ===== typeNumber ===== -/
section TNU
variable {mc mm m m0 : Mem}
def pw (i : Nat) : Int := if i = 0 then 1 else if i = 1 then 10 else if i = 2 then 100 else if i = 3 then 1000 else 10000
def dv (v : Int) (i : Nat) : Int := 48 + (v / pw i) % 10
theorem dv_bd (v : Int) (i : Nat) : 48 ≤ dv v i ∧ dv v i ≤ 57 := by
  unfold dv
  omega
def lenN (v : Int) (n : Nat) : Prop := (n = 4 ∧ 999 < v) ∨ (n = 3 ∧ 99 < v ∧ v ≤ 999) ∨ (n = 2 ∧ 9 < v ∧ v ≤ 99) ∨ (n = 1 ∧ v ≤ 9)
theorem td_e {a b : Int} (h : 0 ≤ a) : a.tdiv b = a / b := Int.tdiv_eq_ediv_of_nonneg h
theorem tm_e {a b : Int} (h : 0 ≤ a) : a.tmod b = a % b := Int.tmod_eq_emod_of_nonneg h
/-- k of n digits stand behind A signs -/
def PDI (v : Int) (n A : Nat) (m0 : Mem) (k : Nat) (m : Mem) : Prop := m 114 1 = ((A + k : Nat) : Int) ∧ (∀ c i, ¬ (c = 114 ∧ i = 1) → ¬ (c = 115 ∧ A ≤ i) → m c i = m0 c i) ∧ ∀ i : Nat, i < n → n - 1 - i < k → m 115 (A + (n - 1 - i)) = dv v i
theorem pdi_step {v w : Int} {n A k : Nat} (hv : 0 ≤ v) (h : PDI v n A m0 k m) (hk : k < n) (hA : A + n ≤ 80) (hw : w = v.tdiv (pw (n - 1 - k))) : Ok (C_Row_putDigit w m) (fun x => x.1 = ((A + (k + 1) : Nat) : Int) ∧ PDI v n A m0 (k + 1) x.2) := by
  obtain ⟨h1, h2, h3⟩ := h
  have p0 : 0 < pw (n - 1 - k) := by
    unfold pw
    split
    · omega
    · split
      · omega
      · split
        · omega
        · split <;> omega
  have q0 : 0 ≤ v / pw (n - 1 - k) := Int.ediv_nonneg hv (by omega)
  have val : 48 + w.tmod 10 = dv v (n - 1 - k) := by
    rw [hw, td_e hv, tm_e q0]
    rfl
  have db := dv_bd v (n - 1 - k)
  have val2 : (48 + w.tmod 10) % 65536 = dv v (n - 1 - k) := by
    rw [val]
    omega
  unfold C_Row_putDigit
  refine ok_grd (by unfold InR; omega) (ok_bq2 (Q := fun z => z.1 = ((A + (k + 1) : Nat) : Int) ∧ z.2 = setM (setM m 115 (A + k) (dv v (n - 1 - k))) 114 1 ((A + (k + 1) : Nat) : Int)) ?_ (fun _ m3 h3' => ok_some ?_))
  · unfold C_Row_put
    rw [val2]
    refine ok_grd (by omega) (ok_ltv (ok_grd (by rw [setM_ne (by omega)]; unfold InR; omega) (ok_ltv (ok_some ?_))))
    dsimp only
    rw [setM_same, setM_ne (c' := 114) (by omega), h1, Int.toNat_natCast]
    exact ⟨by omega, by congr 1 <;> omega⟩
  · dsimp only at h3' ⊢
    obtain ⟨e1, rfl⟩ := h3'
    refine ⟨e1, setM_same _ _ _ _, fun c i w1 w2 => ?_, fun i hi hq => ?_⟩
    · rw [setM_ne (by omega), setM_ne (by omega)]
      exact h2 c i w1 w2
    · rw [setM_ne (by omega)]
      by_cases hh : i = n - 1 - k
      · rw [setM_hit (by omega), hh]
      · rw [setM_ne (by omega)]
        exact h3 i hi (by omega)
theorem putNum_ok {v : Int} {n A : Nat} (hv : 0 ≤ v ∧ v ≤ 9999) (hn : lenN v n) (ha : m0 114 1 = A) (hA : A + n ≤ 80) : Ok (C_Row_putNumber v m0) (fun x => x.1 = ((A + n : Nat) : Int) ∧ x.2 114 1 = ((A + n : Nat) : Int) ∧ (∀ c i, ¬ (c = 114 ∧ i = 1) → ¬ (c = 115 ∧ A ≤ i) → x.2 c i = m0 c i) ∧ ∀ i : Nat, i < n → x.2 115 (A + (n - 1 - i)) = dv v i) := by
  have P0 : PDI v n A m0 0 m0 := ⟨ha, fun _ _ _ _ => rfl, fun i _ h => absurd h (by omega)⟩
  have fin : ∀ m, PDI v n A m0 n m → m 114 1 = ((A + n : Nat) : Int) ∧ (∀ c i, ¬ (c = 114 ∧ i = 1) → ¬ (c = 115 ∧ A ≤ i) → m c i = m0 c i) ∧ ∀ i : Nat, i < n → m 115 (A + (n - 1 - i)) = dv v i := fun m h => ⟨h.1, h.2.1, fun i hi => h.2.2 i hi (by omega)⟩
  have t1 : v = v.tdiv (pw 0) := by
    rw [show pw 0 = 1 from rfl, td_e hv.1]
    omega
  unfold C_Row_putNumber
  rcases hn with ⟨rfl, h⟩ | ⟨rfl, h, h'⟩ | ⟨rfl, h, h'⟩ | ⟨rfl, h⟩
  · refine ok_ltv (ok_ite (fun _ => ok_bq2 (pdi_step hv.1 P0 (by omega) hA rfl) (fun _ m1 h1 => ok_ltv (ok_ite (fun _ => ok_bq2 (pdi_step hv.1 h1.2 (by omega) hA rfl) (fun _ m2 h2 => ok_ltv (ok_ite (fun _ => ok_bq2 (pdi_step hv.1 h2.2 (by omega) hA rfl) (fun _ m3 h3 => ok_bq2 (pdi_step hv.1 h3.2 (by omega) hA t1) (fun _ m4 h4 => ok_some ⟨h4.1, fin _ h4.2⟩))) (fun q => absurd (by omega) q)))) (fun q => absurd (by omega) q)))) (fun q => absurd (by omega) q))
  · refine ok_ltv (ok_ite (fun q => absurd q (by omega)) (fun _ => ok_ltv (ok_ite (fun _ => ok_bq2 (pdi_step hv.1 P0 (by omega) hA rfl) (fun _ m2 h2 => ok_ltv (ok_ite (fun _ => ok_bq2 (pdi_step hv.1 h2.2 (by omega) hA rfl) (fun _ m3 h3 => ok_bq2 (pdi_step hv.1 h3.2 (by omega) hA t1) (fun _ m4 h4 => ok_some ⟨h4.1, fin _ h4.2⟩))) (fun q => absurd (by omega) q)))) (fun q => absurd (by omega) q))))
  · refine ok_ltv (ok_ite (fun q => absurd q (by omega)) (fun _ => ok_ltv (ok_ite (fun q => absurd q (by omega)) (fun _ => ok_ltv (ok_ite (fun _ => ok_bq2 (pdi_step hv.1 P0 (by omega) hA rfl) (fun _ m3 h3 => ok_bq2 (pdi_step hv.1 h3.2 (by omega) hA t1) (fun _ m4 h4 => ok_some ⟨h4.1, fin _ h4.2⟩))) (fun q => absurd (by omega) q))))))
  · refine ok_ltv (ok_ite (fun q => absurd q (by omega)) (fun _ => ok_ltv (ok_ite (fun q => absurd q (by omega)) (fun _ => ok_ltv (ok_ite (fun q => absurd q (by omega)) (fun _ => ok_bq2 (pdi_step hv.1 P0 (by omega) hA t1) (fun _ m4 h4 => ok_some ⟨h4.1, fin _ h4.2⟩)))))))
theorem tnM_ok {v : Int} {n A : Nat} (hv : 0 ≤ v ∧ v ≤ 9999) (hn : lenN v n) (ha : m0 0 19 = A) (hA : A + n ≤ 80) : Ok (loop (fun s => M_typeNumber_b1 s.1 s.2.1 s.2.2) (v, (n : Int) - 1, m0)) (fun x => (∀ c i, ¬ (c = 14 ∧ A ≤ i) → x.2.2 c i = m0 c i) ∧ ∀ i : Nat, i < n → x.2.2 14 (A + (n - 1 - i)) = dv v i) := by
  unfold lenN at hn
  refine ok_loop (fun x => ∃ j : Nat, j ≤ n ∧ x.2.1 = (n : Int) - 1 - j ∧ x.1 = v / pw j ∧ (∀ c i, ¬ (c = 14 ∧ A ≤ i) → x.2.2 c i = m0 c i) ∧ ∀ i : Nat, i < j → x.2.2 14 (A + (n - 1 - i)) = dv v i) (fun x => (x.2.1 + 1).toNat) ⟨0, by omega, by dsimp only; omega, by dsimp only [pw]; rw [if_pos rfl]; omega, fun _ _ _ => rfl, fun i h => by omega⟩ ?_
  rintro ⟨x, y, m⟩ ⟨j, e0, e1, e2, f, g⟩
  dsimp only at e1 e2 f g ⊢
  subst e1
  unfold M_typeNumber_b1
  rw [f 0 19 (by omega), ha]
  have p0 : 0 < pw j := by
    unfold pw
    split
    · omega
    · split
      · omega
      · split
        · omega
        · split <;> omega
  have q0 : 0 ≤ v / pw j := Int.ediv_nonneg hv.1 (by omega)
  have val : 48 + x.tmod 10 = dv v j := by
    rw [e2, tm_e q0]
    rfl
  have db := dv_bd v j
  refine ok_ite (fun hk => ok_grd (by unfold InR; omega) (ok_ltv (ok_ltv (ok_grd (by unfold InR; omega) (ok_ltv (ok_some ⟨⟨j + 1, by omega, by dsimp only; omega, ?_, fun c i w => ?_, fun i hi => ?_⟩, by dsimp only; omega⟩)))))) (fun hk => ok_some ⟨f, fun i hi => g i (by omega)⟩)
  · dsimp only
    rw [e2, td_e q0]
    obtain rfl | rfl | rfl | rfl : j = 0 ∨ j = 1 ∨ j = 2 ∨ j = 3 := by omega
    · rw [show pw 0 = 1 from rfl, show pw (0 + 1) = 10 from rfl]; omega
    · rw [show pw 1 = 10 from rfl, show pw (1 + 1) = 100 from rfl]; omega
    · rw [show pw 2 = 100 from rfl, show pw (2 + 1) = 1000 from rfl]; omega
    · rw [show pw 3 = 1000 from rfl, show pw (3 + 1) = 10000 from rfl]; omega
  · dsimp only
    rw [setM_ne (by omega)]
    exact f c i w
  · dsimp only
    by_cases hh : i = j
    · rw [setM_hit (by omega), val, hh]
    · rw [setM_ne (by omega)]
      exact g i (by omega)
theorem st_typeNumber : ST_typeNumber Inv := by
  intro mc mm p0 I _ _ hp
  obtain ⟨a, b, c, d, e, f, g⟩ := id I
  obtain ⟨i1, i2, i3, i4, i5⟩ := id e
  refine ag_of ?_
  unfold C_typeNumber
  have L : ∃ n : Nat, (0 ≤ p0 → p0 ≤ 9999 → lenN p0 n) ∧ (if 999 < p0 then (4 : Int) else (if 99 < p0 then 3 else (if 9 < p0 then 2 else 1))) = n ∧ 1 ≤ n ∧ n ≤ 4 := by
    unfold lenN
    split
    · exact ⟨4, fun _ _ => by omega, rfl, by omega, by omega⟩
    · split
      · exact ⟨3, fun _ _ => by omega, rfl, by omega, by omega⟩
      · split
        · exact ⟨2, fun _ _ => by omega, rfl, by omega, by omega⟩
        · exact ⟨1, fun _ _ => by omega, rfl, by omega, by omega⟩
  obtain ⟨n, hn, hl, n1, n4⟩ := L
  rw [hl]
  obtain ⟨A, hA⟩ : ∃ A : Nat, mc 114 1 = A := ⟨(mc 114 1).toNat, by omega⟩
  refine wp_bind (wp_needNumber (fun w => ok_tbd_inr ?_) (fun w1 w2 => ok_tbd_inl (wp_bind (wp_needRoomForSigns (by unfold InR; omega) (fun w => ok_tbd_inr ?_) (fun w3 => ok_tbd_inl ?_)))))
  · unfold M_typeNumber
    rw [hl]
    refine ok_ltv (wp_bq2 (wp_isThrownI (fun _ => ok_ite (fun _ => ok_some ?_) (fun q => absurd Int.one_ne_zero q)) (fun q => absurd (isIn0.mpr (by omega)) q)))
    (refine agp_er ?_ ?_ ?_); decide; (first | (rw [setM_same]; rfl) | (dsimp only; simp (disch := omega) only [setM_ne, setM_hit, true_and, and_true]; rfl))
    repeat (first | exact I | with_reducible refine Inv_thr ?_ _)
  · unfold M_typeNumber
    rw [hl]
    refine ok_ltv (wp_bq2 (wp_isThrownI (fun q => absurd (isIn0.mp q) (by omega)) (fun _ => ok_ite (fun q => absurd rfl q) (fun _ => ?_))))
    dsimp only
    have e19 : setM mm 0 0 0 0 19 = mc 114 1 := by rw [setM_ne (by omega), i1]
    simp only [e19]
    refine ok_grd (by unfold InR; omega) (wp_bq2 (wp_isThrownI (fun _ => ok_ite (fun _ => ok_some ?_) (fun q => absurd Int.one_ne_zero q)) (fun q => absurd w q)))
    (refine agp_er ?_ ?_ ?_); decide; (first | (rw [setM_same]; rfl) | (dsimp only; simp (disch := omega) only [setM_ne, setM_hit, true_and, and_true]; rfl))
    repeat (first | exact I | with_reducible refine Inv_thr ?_ _)
  · refine ok_bq2 (putNum_ok (n := n) (A := A) (by omega) (hn w1 w2) hA (by omega)) (fun v m' h => ok_some ?_)
    dsimp only at h
    obtain ⟨h1, h2, h3, h4⟩ := h
    unfold M_typeNumber
    rw [hl]
    refine ok_ltv (wp_bq2 (wp_isThrownI (fun q => absurd (isIn0.mp q) (by omega)) (fun _ => ok_ite (fun q => absurd rfl q) (fun _ => ?_))))
    dsimp only
    have e19 : setM mm 0 0 0 0 19 = mc 114 1 := by rw [setM_ne (by omega), i1]
    simp only [e19]
    refine ok_grd (by unfold InR; omega) (wp_bq2 (wp_isThrownI (fun q => by omega) (fun _ => ok_ite (fun q => absurd rfl q) (fun _ => ok_ltv (ok_grd (by unfold InR; omega) (ok_ltv (ok_bq3 (tnM_ok (n := n) (A := A) (by omega) (hn w1 w2) (by simp (disch := omega) only [setM_ne, setM_hit, true_and, and_true]; omega) (by omega)) (fun _ _ m5 h5 => ?_))))))))
    dsimp only at h5
    obtain ⟨g1, g2⟩ := h5
    have g19 : m5 0 19 = A := by rw [g1 _ _ (by omega)]; simp (disch := omega) only [setM_ne, setM_hit, true_and, and_true]; omega
    rw [g19]
    refine ok_grd (by unfold InR; omega) (ok_ltv (ok_some ?_))
    have fm : ∀ c i, ¬ (c = 14 ∧ A ≤ i) → ¬ (c = 0 ∧ (i = 0 ∨ i = 19)) → setM m5 0 19 ((A : Int) + n) c i = mm c i := fun c i x y => by
      rw [setM_ne (by omega), g1 c i x]
      simp (disch := omega) only [setM_ne, setM_hit, true_and, and_true]
    refine agp_ok ?_ ?_ ?_
    · rw [setM_ne (by omega), g1 _ _ (by omega)]
      exact setM_same _ _ _ _
    · rw [setM_same, h1]
      omega
    · refine ⟨IS_fr a (fun c i w => h3 c i (by unfold cS at w; omega) (by unfold cS at w; omega)) (fun c i w => fm c i (by unfold mS at w; omega) (by unfold mS at w; omega)), IV_fr b (fun c i w => h3 c i (by unfold cV at w; omega) (by unfold cV at w; omega)) (fun c i w => fm c i (by unfold mV at w; omega) (by unfold mV at w; omega)), IT_fr c (fun c i w => h3 c i (by unfold cT at w; omega) (by unfold cT at w; omega)) (fun c i w => fm c i (by unfold mT at w; omega) (by unfold mT at w; omega)), ID_fr d (fun c i w => h3 c i (by unfold cD at w; omega) (by unfold cD at w; omega)) (fun c i w => fm c i (by unfold mD at w; omega) (by unfold mD at w; omega)), ?_, IC_fr f (fun c i w => h3 c i (by unfold cK at w; omega) (by unfold cK at w; omega)) (fun c i w => fm c i (by unfold mK at w; omega) (by unfold mK at w; omega)), IW_fr g (fun c i w => h3 c i (by unfold cW at w; omega) (by unfold cW at w; omega)) (fun c i w => fm c i (by unfold mW at w; omega) (by unfold mW at w; omega))⟩
      refine ⟨?_, by omega, by omega, ?_, fun k hk => ?_⟩
      · rw [setM_same, h2]
        omega
      · rw [fm 0 21 (by omega) (by omega), h3 114 2 (by omega) (by omega)]
        exact i4
      · rw [h2] at hk
        by_cases hh : k < A
        · rw [fm 14 k (by omega) (by omega), h3 115 k (by omega) (by omega)]
          exact i5 k (by omega)
        · obtain ⟨i, hi, rfl⟩ : ∃ i : Nat, i < n ∧ k = A + (n - 1 - i) := ⟨n - 1 - (k - A), by omega, by omega⟩
          have := dv_bd p0 i
          rw [setM_ne (by omega), g2 i hi, h4 i hi]
          omega
end TNU
