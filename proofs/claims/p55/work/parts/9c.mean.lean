/-! ===== meanBetween ===== -/
theorem mean_f {a b : Int32} (hb : b ≠ 0) : vf_n64 (FP.ddiv (FP.i2d a) (FP.i2d b)) ∧ okD (FP.ddiv (FP.i2d a) (FP.i2d b)) := by
  have h := FP.Core.ddiv_out (a := FP.i2d a) (b := FP.i2d b) (FP.Core.i2d_fin a).notNaN (FP.Core.i2d_fin b) (fun z => FP.Core.i2d_ne_zero hb ((FP.Core.zero_bits2 _).mp z))
  refine ⟨?_, ?_⟩
  · have h2 : ¬ 9218868437227405312 < (FP.ddiv (FP.i2d a) (FP.i2d b)).toNat % 2 ^ 63 := fun q => by
      rw [(FP.Core.isNaN_bits _).mpr q] at h
      exact absurd h (by decide)
    unfold vf_n64
    rw [UInt64.le_iff_toNat_le, UInt64.toNat_and]
    rw [show (0x7fffffffffffffff : UInt64).toNat = 2 ^ 63 - 1 from by decide, Nat.and_two_pow_sub_one_eq_mod, show (0x7ff0000000000000 : UInt64).toNat = 9218868437227405312 from by decide]
    omega
  · unfold okD dcmpI
    rw [show FP.dcmp (FP.ddiv (FP.i2d a) (FP.i2d b)) (FP.ddiv (FP.i2d a) (FP.i2d b)) = some .eq from FP.Core.dcmp_self ((FP.Core.notNaN_iff _).mp h)]
    rfl
section MEA
variable {mc mm m m0 : Mem}
def mbG (mc : Mem) (t j : Nat) : Int := if j = 0 then 0 else mc (60 + t) j - mc (85 + t) (j - 1)
def mbS (mc : Mem) (t : Nat) : Int := sI (mbG mc t) (mc 33 t).toNat
def mbN (mc : Mem) (t : Nat) : Int := mc 33 t - 1
theorem mbG_bd {t : Nat} (I : Inv mc mm) (h : (t : Int) < mc 31 0) : ∀ j : Nat, (j : Int) < mc 33 t → 0 ≤ mbG mc t j ∧ mbG mc t j ≤ 2879 := by
  intro j hj
  have q := I.2.2.1.2.2.2 t h
  unfold mbG
  by_cases h0 : j = 0
  · rw [if_pos h0]
    omega
  · rw [if_neg h0]
    have a := q.2.2.2.2.2.2 j hj
    have b := q.2.2.2.2.2.2 (j - 1) (by omega)
    unfold ITc at a b
    have := b.2.2.2.2.2.2.2.2.2 (by omega)
    rw [show j - 1 + 1 = j by omega] at this
    omega
theorem mbS_bd {t : Nat} (I : Inv mc mm) (h : (t : Int) < mc 31 0) : ∀ k : Nat, (k : Int) ≤ mc 33 t → 0 ≤ sI (mbG mc t) k ∧ sI (mbG mc t) k ≤ 24000 := by
  intro k hk
  have q := I.2.2.1.2.2.2 t h
  have := sI_bd (h := mbG mc t) (z := 2879) (by omega) (n := k) (fun j hj => mbG_bd I h j (by omega))
  omega
theorem mbT_bd (I : Inv mc mm) : ∀ k : Nat, (k : Int) ≤ mc 31 0 → (0 ≤ sI (mbS mc) k ∧ sI (mbS mc) k ≤ 576000) ∧ 0 ≤ sI (mbN mc) k ∧ sI (mbN mc) k ≤ 168 := by
  intro k hk
  have t24 := I.2.2.1.2.2.1
  have a := sI_bd (h := mbS mc) (z := 24000) (by omega) (n := k) (fun j hj => mbS_bd I (by omega) _ (by have := I.2.2.1.2.2.2 j (by omega); omega))
  have b := sI_bd (h := mbN mc) (z := 7) (by omega) (n := k) (fun j hj => by have := I.2.2.1.2.2.2 j (by omega); unfold mbN; omega)
  omega
theorem mbC_ok (I : Inv mc mm) : Ok (loop (fun s => C_meanBetween_b1 mc s.1 s.2.1 s.2.2) ((0 : Int), (0 : Int), (0 : Int))) (fun x => x.1 = sI (mbS mc) (mc 31 0).toNat ∧ x.2.1 = sI (mbN mc) (mc 31 0).toNat) := by
  obtain ⟨t1, t2, t3, t4⟩ := id I.2.2.1
  refine ok_loop (fun x => ∃ k : Nat, x.2.2 = k ∧ (k : Int) ≤ mc 31 0 ∧ x.1 = sI (mbS mc) k ∧ x.2.1 = sI (mbN mc) k) (fun x => 24 - x.2.2.toNat) ⟨0, rfl, by omega, rfl, rfl⟩ ?_
  rintro ⟨x, y, w⟩ ⟨k, e1, e2, e3, e4⟩
  dsimp only at e1 e3 e4 ⊢
  subst e1
  have bd := mbT_bd I k e2
  rw [← e3, ← e4] at bd
  unfold C_meanBetween_b1
  refine ok_ite (fun hk => ?_) (fun hk => ok_some ?_)
  · have q := t4 k hk
    refine ok_ltv (ok_bq3 (Q := fun (z : Int × Int × Int) => z.1 = x + mbS mc k ∧ z.2.1 = y + mbN mc k) ?_ (fun z1 z2 _ hz => ok_grd (by unfold InR; omega) (ok_ltv (ok_some ⟨⟨k + 1, by dsimp only; omega, by omega, ?_, ?_⟩, by dsimp only; omega⟩))))
    · refine ok_loop (fun z => ∃ j : Nat, z.2.2 = j ∧ 1 ≤ j ∧ (j : Int) ≤ mc 33 k ∧ z.1 = x + sI (mbG mc k) j ∧ z.2.1 = y + (j - 1)) (fun z => 8 - z.2.2.toNat) ⟨1, rfl, by omega, by omega, by dsimp only [sI, mbG]; rw [if_pos rfl]; omega, by dsimp only; omega⟩ ?_
      rintro ⟨z1, z2, w⟩ ⟨j, q1, q2, q3, q4, q5⟩
      dsimp only at q1 q4 q5 ⊢
      subst q1
      have bj := mbS_bd I hk j q3
      unfold C_meanBetween_b2
      simp only [Int.toNat_natCast]
      refine ok_grd (by omega) (ok_ite (fun hj => ?_) (fun hj => ok_some ?_))
      · have g := mbG_bd I hk j hj
        have e : mc (60 + k) j - mc (85 + k) ((j : Int) - 1).toNat = mbG mc k j := by
          unfold mbG
          rw [if_neg (by omega), show ((j : Int) - 1).toNat = j - 1 by omega]
        rw [e]
        refine ok_grd (by unfold InR; omega) (ok_ltv (ok_grd (by unfold InR; omega) (ok_ltv (ok_grd (by unfold InR; omega) (ok_ltv (ok_some ⟨⟨j + 1, by dsimp only; omega, by omega, by omega, ?_, by dsimp only; omega⟩, by dsimp only; omega⟩))))))
        show z1 + _ = x + (sI _ j + mbG mc k j)
        omega
      · have : j = (mc 33 k).toNat := by omega
        dsimp only
        unfold mbS mbN
        rw [← this]
        omega
    · dsimp only at hz
      show z1 = sI _ k + mbS mc k
      omega
    · dsimp only at hz
      show z2 = sI _ k + mbN mc k
      omega
  · have : k = (mc 31 0).toNat := by omega
    dsimp only
    rw [e3, e4, this]
    exact ⟨rfl, rfl⟩
theorem mbM_ok (I : Inv mc mm) : Ok (loop (fun s => M_meanBetween_b1 mm s.1 s.2.1 s.2.2) ((0 : Int), (0 : Int), (0 : Int))) (fun x => x.1 = sI (mbN mc) (mc 31 0).toNat ∧ x.2.1 = sI (mbS mc) (mc 31 0).toNat) := by
  obtain ⟨t1, t2, t3, t4⟩ := id I.2.2.1
  refine ok_loop (fun x => ∃ k : Nat, x.2.2 = k ∧ (k : Int) ≤ mc 31 0 ∧ x.1 = sI (mbN mc) k ∧ x.2.1 = sI (mbS mc) k) (fun x => 24 - x.2.2.toNat) ⟨0, rfl, by omega, rfl, rfl⟩ ?_
  rintro ⟨x, y, w⟩ ⟨k, e1, e2, e3, e4⟩
  dsimp only at e1 e3 e4 ⊢
  subst e1
  have bd := mbT_bd I k e2
  rw [← e3, ← e4] at bd
  unfold M_meanBetween_b1
  rw [t1]
  refine ok_ite (fun hk => ?_) (fun hk => ok_some ?_)
  · have q := t4 k hk
    refine ok_ltv (ok_bq3 (Q := fun (z : Int × Int × Int) => z.1 = x + mbN mc k ∧ z.2.1 = y + mbS mc k) ?_ (fun z1 z2 _ hz => ok_grd (by unfold InR; omega) (ok_ltv (ok_some ⟨⟨k + 1, by dsimp only; omega, by omega, ?_, ?_⟩, by dsimp only; omega⟩))))
    · refine ok_loop (fun z => ∃ j : Nat, z.2.2 = j ∧ 1 ≤ j ∧ (j : Int) ≤ mc 33 k ∧ z.1 = x + (j - 1) ∧ z.2.1 = y + sI (mbG mc k) j) (fun z => 8 - z.2.2.toNat) ⟨1, rfl, by omega, by omega, by dsimp only; omega, by dsimp only [sI, mbG]; rw [if_pos rfl]; omega⟩ ?_
      rintro ⟨z1, z2, w⟩ ⟨j, q1, q2, q3, q4, q5⟩
      dsimp only at q1 q4 q5 ⊢
      subst q1
      have bj := mbS_bd I hk j q3
      unfold M_meanBetween_b2
      simp only [Int.toNat_natCast, q.2.2.2.1]
      refine ok_grd (by omega) (ok_ite (fun hj => ?_) (fun hj => ok_some ?_))
      · have g := mbG_bd I hk j hj
        have e : mm 8 (8 * (k : Int) + (j : Int)).toNat - mm 9 (8 * (k : Int) + (j : Int) - 1).toNat = mbG mc k j := by
          have a := q.2.2.2.2.2.2 j hj
          have b := q.2.2.2.2.2.2 (j - 1) (by omega)
          unfold ITc at a b
          unfold mbG
          rw [if_neg (by omega), show (8 * (k : Int) + (j : Int) - 1).toNat = 8 * k + (j - 1) by omega, show (8 * (k : Int) + (j : Int)).toNat = 8 * k + j by omega]
          omega
        rw [e]
        refine ok_grd (by unfold InR; omega) (ok_ltv (ok_grd (by unfold InR; omega) (ok_ltv (ok_grd (by unfold InR; omega) (ok_ltv (ok_some ⟨⟨j + 1, by dsimp only; omega, by omega, by omega, by dsimp only; omega, ?_⟩, by dsimp only; omega⟩))))))
        show z2 + _ = y + (sI _ j + mbG mc k j)
        omega
      · have : j = (mc 33 k).toNat := by omega
        dsimp only
        unfold mbS mbN
        rw [← this]
        omega
    · dsimp only at hz
      show z1 = sI _ k + mbN mc k
      omega
    · dsimp only at hz
      show z2 = sI _ k + mbS mc k
      omega
  · have : k = (mc 31 0).toNat := by omega
    dsimp only
    rw [e3, e4, this]
    exact ⟨rfl, rfl⟩
theorem st_meanBetween : ST_meanBetween Inv := by
  intro mc mm I
  have t2 := I.2.2.1.2.1
  have bd := mbT_bd I (mc 31 0).toNat (by omega)
  refine ag_of ?_
  unfold C_meanBetween
  refine ok_ltv (ok_ltv (ok_ltv (ok_bq3 (mbC_ok I) (fun s n _ h => ?_))))
  dsimp only at h
  have mside : ∀ P : UInt64 × Mem → Prop, Ok (bq2 (M_isThrown (if n = 0 then 1 else 0) 1 mm) fun r_ m_ => if ¬ r_ = 0 then some (FP.dconst0, m_) else grd (vf_n64 (FP.ddiv (FP.i2d (i32 s)) (FP.i2d (i32 n)))) <| some (FP.ddiv (FP.i2d (i32 s)) (FP.i2d (i32 n)), m_)) P → Ok (M_meanBetween mm) P := by
    intro P hP
    unfold M_meanBetween
    refine ok_ltv (ok_ltv (ok_ltv (ok_bq3 (mbM_ok I) (fun n2 s2 _ h2 => ?_))))
    dsimp only at h2
    rw [h2.1, h2.2, ← h.1, ← h.2]
    exact hP
  refine ok_ite (fun h0 => ok_some (mside _ ?_)) (fun h0 => ?_)
  · refine wp_bq2 (wp_isThrownI (fun _ => ok_ite (fun _ => ok_some ?_) (fun q => absurd Int.one_ne_zero q)) (fun q => absurd h0 q))
    (refine agp_er ?_ ?_ ?_); decide; (first | (rw [setM_same]; rfl) | (dsimp only; simp (disch := omega) only [setM_ne, setM_hit, true_and, and_true]; rfl))
    repeat (first | exact I | with_reducible refine Inv_thr ?_ _)
  · have ne : i32 n ≠ 0 := fun q => by
      have e : (i32 n).toInt = n := by
        obtain ⟨j, hj⟩ : ∃ j : Nat, n = j := ⟨n.toNat, by omega⟩
        rw [hj]
        exact wr32_nat (by omega)
      rw [q] at e
      exact h0 (e.symm.trans (by decide))
    have mf := mean_f (a := i32 s) ne
    refine ok_grd mf.1 (ok_some (mside _ ?_))
    refine wp_bq2 (wp_isThrownI (fun q => absurd q h0) (fun _ => ok_ite (fun q => absurd rfl q) (fun _ => ok_grd mf.1 (ok_some ⟨?_, rfl, mf.2, ?_⟩))))
    · dsimp only
      exact setM_same _ _ _ _
    · exact Inv_thr I 0
end MEA
