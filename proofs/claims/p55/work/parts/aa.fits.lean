/-! ===== readRow: a row that fits makes a trip ===== -/
def OkR (mc : Mem) (c : Nat) (S : Int) (P A D : Nat → Int) : Prop := S < mc 29 0 ∧ c ≤ 8 ∧ ∀ i, i < c → P i < mc 1 0 ∧ (0 < i → P i ≠ P (i - 1) ∧ D (i - 1) < A i) ∧ A i ≤ D i ∧ D i ≤ 2879
section RRW
variable {mc mm m m' m0 m1 : Mem}
theorem has_svc {x : Int} : Ok (C_Services_has x m) (fun z => z = if (0 ≤ x) ∧ (x < m 29 0) then 1 else 0) := ok_some rfl
theorem has_stp {x : Int} : Ok (C_Stops_has x m) (fun z => z = if (0 ≤ x) ∧ (x < m 1 0) then 1 else 0) := ok_some rfl
theorem rowFits_ok {c : Nat} (h : RoCc c m) (c1 : 1 ≤ c) (c80 : c ≤ 80) (e29 : m 29 0 = mc 29 0) (e1 : m 1 0 = mc 1 0) : Ok (C_rowFits m) (fun z => (z = 1 ∧ OkR mc c (m 114 3) (m 116) (m 117) (m 118)) ∨ (z = 0 ∧ ¬ OkR mc c (m 114 3) (m 116) (m 117) (m 118))) := by
  obtain ⟨h4, h3, hb, hz⟩ := h
  unfold C_rowFits
  refine ok_bind has_svc (fun z hz1 => ?_)
  rw [e29] at hz1
  refine ok_ite (fun q => ?_) (fun q => ok_some (Or.inr ⟨rfl, fun k => ?_⟩))
  case refine_2 =>
    rw [if_pos ⟨h3, k.1⟩] at hz1
    exact q (by rw [hz1]; exact Int.one_ne_zero)
  have s0 : m 114 3 < mc 29 0 := by
    apply Classical.byContradiction
    intro hn
    rw [if_neg (fun k => hn k.2)] at hz1
    exact q hz1
  rw [h4]
  refine ok_ite (fun q8 => ok_some (Or.inr ⟨rfl, fun k => by have := k.2.1; omega⟩)) (fun q8 => ok_ltv ?_)
  refine ok_br1 (Q := fun x => match x with | .inl _ => OkR mc c (m 114 3) (m 116) (m 117) (m 118) | .inr z => z = 0 ∧ ¬ OkR mc c (m 114 3) (m 116) (m 117) (m 118)) ?_ (fun _ h => ok_some (Or.inl ⟨rfl, h⟩)) (fun z h => ok_some (Or.inr h))
  refine ok_loop (fun s => ∃ k : Nat, s = k ∧ k ≤ c ∧ ∀ i, i < k → m 116 i < mc 1 0 ∧ (0 < i → m 116 i ≠ m 116 (i - 1) ∧ m 118 (i - 1) < m 117 i) ∧ m 117 i ≤ m 118 i ∧ m 118 i ≤ 2879) (fun s => c - s.toNat) ⟨0, rfl, Nat.zero_le _, fun i hi => by omega⟩ ?_
  rintro kk ⟨k, a1, a2, a3⟩
  subst a1
  unfold C_rowFits_b1
  rw [h4]
  refine ok_ite (fun hk => ok_grd (by omega) (ok_bind has_stp (fun z hz2 => ?_))) (fun hk => ok_some ⟨s0, by omega, fun i hi => a3 i (by omega)⟩)
  have bk := hb k (by omega) (by omega)
  have ek : ((k : Int) - 1).toNat = k - 1 := by omega
  rw [Int.toNat_natCast, e1] at hz2
  rw [Int.toNat_natCast, ek]
  refine ok_ite (fun q2 => ok_grd (by unfold InR; omega) (ok_ite (fun q3 => ok_some ⟨rfl, fun K => ?_⟩) (fun q3 => ok_grd (by unfold InR; omega) (ok_ltv (ok_ite (fun q4 => ok_some ⟨rfl, fun K => ?_⟩) (fun q4 => ok_grd (by unfold InR; omega) (ok_ltv (ok_some ⟨⟨k + 1, by omega, by omega, fun i hi => ?_⟩, by omega⟩)))))))) (fun q2 => ok_some ⟨rfl, fun K => ?_⟩)
  · exact ((K.2.2 k (by omega)).2.1 (by omega)).1 q3.2
  · have kk := K.2.2 k (by omega)
    unfold C_goesOn at q4
    rw [i01] at q4
    apply q4
    by_cases k0 : k = 0
    · rw [if_pos (by omega)]
      exact ⟨⟨by omega, kk.2.2.1⟩, by omega⟩
    · rw [if_neg (by omega)]
      exact ⟨⟨(kk.2.1 (by omega)).2, kk.2.2.1⟩, by omega⟩
  · by_cases hik : i = k
    · rw [hik]
      unfold C_goesOn at q4
      rw [i01] at q4
      have q4 := Classical.not_not.mp q4
      have sp : m 116 k < mc 1 0 := by
        apply Classical.byContradiction
        intro hn
        rw [if_neg (fun z => hn z.2)] at hz2
        exact q2 hz2
      refine ⟨sp, fun h0 => ⟨fun z => q3 ⟨by omega, z⟩, ?_⟩, q4.1.2, by omega⟩
      have := q4.1.1
      rw [if_neg (by omega)] at this
      exact this
    · exact a3 i (by omega)
  · rw [if_pos ⟨bk.1, (K.2.2 k (by omega)).1⟩] at hz2
    exact q2 (by rw [hz2]; exact Int.one_ne_zero)
theorem jior01 {a b : Int} (ha : a = 0 ∨ a = 1) (hb : b = 0 ∨ b = 1) : jior a b = if a = 0 ∧ b = 0 then 0 else 1 := by
  rcases ha with rfl | rfl <;> rcases hb with rfl | rfl <;> decide
theorem rowWrong_ok {c : Nat} {S : Int} {P A D : Nat → Int} (h : RoE c S P A D m) (c1 : 1 ≤ c) (e6 : m 0 6 = mc 29 0) (e1 : m 0 1 = mc 1 0) : Ok (M_isRowWrong m) (fun z => (z = 0 ∧ OkR mc c S P A D) ∨ (z = 1 ∧ ¬ OkR mc c S P A D)) := by
  obtain ⟨h0, h2, h3, h4⟩ := h
  obtain ⟨mn, hmn⟩ : ∃ mn : Nat, mn = if c ≤ 9 then c else 9 := ⟨_, rfl⟩
  have em : (m 0 45 - 1).tdiv 3 = mn := by
    by_cases h9 : c ≤ 9
    · rw [h2 h9, hmn, if_pos h9, Int.tdiv_eq_ediv_of_nonneg (by omega)]
      omega
    · rw [h3 (by omega), hmn, if_neg h9]
      rfl
  have b45 : InR (m 0 45 - 1) := by
    by_cases h9 : c ≤ 9
    · rw [h2 h9]; unfold InR; omega
    · rw [h3 (by omega)]; unfold InR; omega
  have mn9 : mn ≤ 9 ∧ mn ≤ c ∧ (c ≤ 8 ↔ mn ≤ 8) ∧ (c ≤ 8 → mn = c) := by
    by_cases h9 : c ≤ 9
    · rw [if_pos h9] at hmn; omega
    · rw [if_neg h9] at hmn; omega
  unfold M_isRowWrong
  rw [em, h0, e6]
  refine ok_grd b45 (ok_ltv (ok_ltv (ok_ltv (ok_bq2 (Q := fun (s : Int × Int) => (s.1 = 0 ∧ OkR mc c S P A D) ∨ (s.1 = 1 ∧ ¬ OkR mc c S P A D)) ?_ (fun z _ hz => ok_grd (by dsimp only at hz; omega) (ok_some hz))))))
  refine ok_loop (fun s => ∃ k : Nat, s.2 = k ∧ k ≤ mn ∧ k ≤ 8 ∧ (s.1 = 0 ∨ s.1 = 1) ∧ (s.1 = 0 ↔ (S < mc 29 0 ∧ mn ≤ 8) ∧ ∀ i, i < k → P i < mc 1 0 ∧ (0 < i → P i ≠ P (i - 1) ∧ D (i - 1) < A i) ∧ A i ≤ D i ∧ D i ≤ 2879)) (fun s => 8 - s.2.toNat) ⟨0, rfl, Nat.zero_le _, Nat.zero_le _, ?_, ?_⟩ ?_
  · dsimp only
    split <;> omega
  · dsimp only
    by_cases q : (mc 29 0 ≤ S) ∨ ((8 : Int) < mn)
    · rw [if_pos q]
      exact ⟨fun z => absurd z Int.one_ne_zero, fun z => by omega⟩
    · rw [if_neg q]
      exact ⟨fun _ => ⟨by omega, fun i hi => by omega⟩, fun _ => rfl⟩
  · rintro ⟨z, kk⟩ ⟨k, a1, a2, a3, a4, a5⟩
    dsimp only at a1 a4 a5 ⊢
    subst a1
    unfold M_isRowWrong_b1
    refine ok_ite (fun q => ?_) (fun q => ok_some ?_)
    · have r := h4 k (by omega) (by omega)
      have i0 : (1 + 3 * (k : Int)).toNat = 1 + 3 * k := by omega
      have i1 : (1 + 3 * (k : Int) + 1).toNat = 2 + 3 * k := by omega
      have i2 : (1 + 3 * (k : Int) + 2).toNat = 3 + 3 * k := by omega
      have rp : 0 < k → m 31 (1 + 3 * (k : Int) - 1).toNat = D (k - 1) ∧ m 31 (1 + 3 * (k : Int) - 3).toNat = P (k - 1) := fun h => by
        have r' := h4 (k - 1) (by omega) (by omega)
        rw [show (1 + 3 * (k : Int) - 1).toNat = 3 + 3 * (k - 1) by omega, show (1 + 3 * (k : Int) - 3).toNat = 1 + 3 * (k - 1) by omega]
        exact ⟨r'.2.2, r'.1⟩
      refine ok_grd (by unfold InR; omega) (ok_ltv ?_)
      rw [i0, i1, i2, r.1, r.2.1, r.2.2, e1]
      refine ok_grd (by unfold InR; omega) (ok_ltv (ok_grd (by unfold InR; omega) (ok_ltv (ok_grd (by unfold InR; omega) (ok_ltv (ok_some ?_))))))
      obtain ⟨B1, hB1⟩ : ∃ B1 : Prop, B1 = ((((mc 1 0 ≤ P k) ∨ (2879 < A k)) ∨ (2879 < D k)) ∨ (D k < A k)) := ⟨_, rfl⟩
      obtain ⟨u, hu⟩ : ∃ u : Int, u = if (((mc 1 0 ≤ P k) ∨ (2879 < A k)) ∨ (2879 < D k)) ∨ (D k < A k) then 1 else 0 := ⟨_, rfl⟩
      obtain ⟨v, hv⟩ : ∃ v : Int, v = if (0 < (k : Int)) ∧ ((A k ≤ m 31 (1 + 3 * (k : Int) - 1).toNat) ∨ (P k = m 31 (1 + 3 * (k : Int) - 3).toNat)) then 1 else 0 := ⟨_, rfl⟩
      rw [← hu, ← hv]
      have u01 : u = 0 ∨ u = 1 := by rw [hu]; split <;> omega
      have v01 : v = 0 ∨ v = 1 := by rw [hv]; split <;> omega
      have j1 := jior01 a4 u01
      have j01 : jior z u = 0 ∨ jior z u = 1 := by rw [j1]; split <;> omega
      have j2 := jior01 j01 v01
      have u0 : u = 0 ↔ (P k < mc 1 0 ∧ A k ≤ D k ∧ D k ≤ 2879) := by
        rw [hu]
        split <;> omega
      have v0 : v = 0 ↔ (0 < k → P k ≠ P (k - 1) ∧ D (k - 1) < A k) := by
        rw [hv]
        by_cases hk0 : 0 < k
        · have e := rp hk0
          rw [e.1, e.2]
          split <;> omega
        · rw [if_neg (by omega)]
          exact ⟨fun _ h => by omega, fun _ => rfl⟩
      refine ⟨⟨k + 1, by dsimp only; omega, by omega, by omega, ?_, ?_⟩, by dsimp only; omega⟩
      · dsimp only
        rw [j2]
        split <;> omega
      · dsimp only
        have e0 : jior (jior z u) v = 0 ↔ (z = 0 ∧ u = 0 ∧ v = 0) := by
          rw [j2, j1]
          constructor
          · intro q
            by_cases q1 : z = 0 ∧ u = 0
            · rw [if_pos q1] at q
              by_cases q2 : v = 0
              · exact ⟨q1.1, q1.2, q2⟩
              · rw [if_neg (fun y => q2 y.2)] at q
                omega
            · rw [if_neg q1, if_neg (by omega)] at q
              omega
          · rintro ⟨q1, q2, q3⟩
            rw [if_pos ⟨if_pos ⟨q1, q2⟩, q3⟩]
        rw [e0, a5, u0, v0]
        constructor
        · rintro ⟨⟨y1, y2⟩, y3, y4⟩
          refine ⟨y1, fun i hi => ?_⟩
          by_cases hik : i = k
          · rw [hik]
            exact ⟨y3.1, y4, y3.2⟩
          · exact y2 i (by omega)
        · rintro ⟨y1, y2⟩
          have y3 := y2 k (by omega)
          exact ⟨⟨y1, fun i hi => y2 i (by omega)⟩, ⟨y3.1, y3.2.2⟩, y3.2.1⟩
    · have hk : mn ≤ 8 → k = c := by omega
      dsimp only
      rcases a4 with y | y
      · left
        have K := a5.mp y
        have kc := hk K.1.2
        rw [kc] at K
        exact ⟨y, K.1.1, by omega, K.2⟩
      · right
        refine ⟨y, fun K => ?_⟩
        have kc := hk (by have := K.2.1; omega)
        have := a5.mpr ⟨⟨K.1, by have := K.2.1; omega⟩, fun i hi => K.2.2 i (by omega)⟩
        omega
end RRW
