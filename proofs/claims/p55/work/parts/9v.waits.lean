/-! ===== waitCost, bestWaits ===== -/
section WCV
variable {mc mm m m0 ms : Mem} {day mask : Int}
def LeB (mc : Mem) (day mask : Int) (R : Nat → Nat → Int) : Prop := FixW mc day mask R ∧ UnW mc day mask R ∧ ∀ t c : Nat, runT mc day t → c < lnT mc t → 0 ≤ R t c ∧ R t c ≤ 240
noncomputable def vW (mc : Mem) (day mask : Int) : Int := @dite _ (∃ R, LeB mc day mask R) (Classical.propDecidable _) (fun h => costW mc day mask h.choose) (fun _ => 1000000)
theorem vW_yes (I : CI mc) {R : Nat → Nat → Int} (h : LeB mc day mask R) : vW mc day mask = costW mc day mask R := by
  have ex : ∃ R, LeB mc day mask R := ⟨R, h⟩
  unfold vW
  rw [dif_pos ex]
  have k := ex.choose_spec
  exact cost_congr I (k.2.1 R h.1) (h.2.1 _ k.1)
theorem vW_no (I : CI mc) (h : NoW mc day mask) : vW mc day mask = 1000000 := by
  unfold vW
  rw [dif_neg]
  rintro ⟨R, F, U, b⟩
  obtain ⟨w, h1, h2, h3⟩ := h R F
  have f := wish_facts I h1
  have := b (owN mc w) (nwN mc w) h2 (by omega)
  omega
theorem vW_bd (I : CI mc) : 0 ≤ vW mc day mask ∧ vW mc day mask ≤ 1000000 ∧ (vW mc day mask < 1000000 → vW mc day mask ≤ 50000) := by
  by_cases ex : ∃ R, LeB mc day mask R
  · obtain ⟨R, h⟩ := ex
    rw [vW_yes I h]
    have := cost_bd (mask := mask) I h.2.2
    omega
  · unfold vW
    rw [dif_neg ex]
    omega
theorem hr_W (I : Inv mc mm) (hd : 0 ≤ day ∧ day ≤ 27) (mask : Int) : (∃ R, LeB mc day mask R) ∨ NoW mc day mask := by
  obtain ⟨r, -, -, h⟩ := costM_ok (mask := mask) I hd
  rcases h with ⟨R, h1, h2, h3, -⟩ | h
  · exact Or.inl ⟨R, h1, h2, h3⟩
  · exact Or.inr h.2
theorem costMv_ok (I : Inv mc mm) (hd : 0 ≤ day ∧ day ≤ 27) : Ok (M_costOf day mask mm) (fun r => FrW mm r.2 ∧ r.1 = if vW mc day mask < 1000000 then vW mc day mask else -1) := by
  have CI0 : CI mc := ⟨_, I⟩
  refine (costM_ok I hd).mono (fun r h => ⟨h.1, ?_⟩)
  rcases h.2 with ⟨R, h1, h2, h3, h4⟩ | ⟨h4, h5⟩
  · have e := vW_yes CI0 (mask := mask) ⟨h1, h2, h3⟩
    have := cost_bd (mask := mask) CI0 h3
    rw [h4, e, if_pos (by omega)]
  · have e := vW_no CI0 h5
    rw [h4, e, if_neg (by omega)]
theorem spread_ok (I : CI mc) (hd : 0 ≤ day ∧ day ≤ 27) (p : Per mc m0) (HR : (∃ R, LeB mc day mask R) ∨ NoW mc day mask) : Ok (C_Wishes_spread day mask m0) (fun r => FrD m0 r.2 ∧ DsW mc day r.2 200000 ∧ ((r.1 = 1 ∧ LeB mc day mask (xC r.2)) ∨ (r.1 = 0 ∧ NoW mc day mask))) := by
  unfold C_Wishes_spread
  refine ok_bind (tellC_ok (day := day) I p) (fun m1 h1 => ok_ltv (ok_ltv ?_))
  have p1 := FrD_per p h1.1
  have d1 : DsW mc day m1 120 := by
    refine ⟨fun t c x1 x2 => ?_, fun t c x1 x2 => ?_, fun t c x1 _ x2 => h1.2 t c x1 x2⟩
    · rw [h1.2 t c x1 x2]
      have := CI_late I (d := day) (t := (t : Int)) (c := (c : Int))
      omega
    · rw [h1.2 t c x1 (by omega), h1.2 t (c + 1) x1 x2]
      exact CI_lmono I (by omega)
  have U1 : UnW mc day mask (xC m1) := fun Y F t c x1 x2 => by
    rw [h1.2 t c x1.1 x2]
    exact F.1 t c x1 x2
  refine ok_bq3 (spreadLoop_ok I hd p1 d1 U1) (fun mv _ m4 h4 => ?_)
  dsimp only at h4
  obtain ⟨f4, d4, U4, fx, cv⟩ := h4
  have f : FrD m0 m4 := fun c i hc => by rw [f4 c i hc]; exact h1.1 c i hc
  have p4 := FrD_per p f
  -- who doesn't run keeps what was told
  have still : ∀ w : Nat, (w : Int) < mc 400 4 → ¬ runT mc day (owN mc w) → xC m4 (owN mc w) (nwN mc w) ≤ 120 := fun w hw hr => by
    have fw := wish_facts I hw
    rw [d4.2.2 (owN mc w) (nwN mc w) (by omega) hr (by omega)]
    exact (CI_late I).2
  refine ok_ite (fun hz => ok_bind (limit_ok I p4) (fun z hz2 => ?_)) (fun hz => ok_some ⟨f, d4, Or.inr ⟨rfl, ?_⟩⟩)
  · have F4 := fx hz
    rcases hz2 with ⟨z1, z2⟩ | ⟨z1, w, z2, z3⟩
    · rw [z1]
      refine ok_ite (fun _ => ok_some ⟨f, d4, Or.inl ⟨rfl, F4, U4, fun t c x1 x2 => ?_⟩⟩) (fun q => absurd Int.one_ne_zero q)
      have a := F4.1 t c x1 x2
      have l := CI_late I (d := day) (t := (t : Int)) (c := (c : Int))
      have b := fix_lim I F4 U4 (fun w hw _ => z2 w hw) t c x1 x2
      dsimp only
      omega
    · rw [z1]
      refine ok_ite (fun q => absurd rfl q) (fun _ => ok_some ⟨f, d4, Or.inr ⟨rfl, fun Y F => ⟨w, z2, ?_, ?_⟩⟩⟩)
      · apply Classical.byContradiction
        intro hr
        have := still w z2 hr
        omega
      · have hr : runT mc day (owN mc w) := by
          apply Classical.byContradiction
          intro hr
          have := still w z2 hr
          omega
        have fw := wish_facts I z2
        have := U4 Y F (owN mc w) (nwN mc w) hr (by omega)
        omega
  · rcases HR with ⟨R, F, U, -⟩ | h
    · exact absurd (cv ⟨R, F, U⟩) hz
    · exact h
theorem costC_ok (I : CI mc) (hd : 0 ≤ day ∧ day ≤ 27) (p : Per mc m) (d : DsW mc day m 200000) (b : ∀ t c : Nat, runT mc day t → c < lnT mc t → 0 ≤ xC m t c ∧ xC m t c ≤ 240) : Ok (C_Wishes_cost day mask m) (fun z => z = costW mc day mask (xC m)) := by
  have tt := CI_t I
  have w60 : 0 ≤ mc 400 4 ∧ mc 400 4 ≤ 6 := by
    obtain ⟨mm, I⟩ := I
    exact ⟨I.2.2.2.2.2.2.2.1, I.2.2.2.2.2.2.2.2.1⟩
  have q4 : m 400 4 = mc 400 4 := p _ _ ⟨by unfold pC; omega, by omega⟩
  have q31 : m 31 0 = mc 31 0 := p _ _ ⟨by unfold pC; omega, by omega⟩
  unfold C_Wishes_cost
  refine ok_ltv (ok_ltv (ok_bq2 (Q := fun (s : Int × Int) => s.1 = sI (fun t => if 1 < mc 33 t ∧ bit (mc 30 (mc 32 t).toNat) day.toNat = 1 then xC m t (lnT mc t - 2) else 0) (mc 31 0).toNat) ?_ (fun s7 _ h7 => ok_ltv (ok_bq2 (Q := fun (s : Int × Int) => s.1 = costW mc day mask (xC m)) ?_ (fun _ _ h => ok_some h)))))
  · refine ok_loop (fun s => ∃ k : Nat, s.2 = k ∧ (k : Int) ≤ mc 31 0 ∧ 0 ≤ s.1 ∧ s.1 ≤ 240 * k ∧ s.1 = sI (fun t => if 1 < mc 33 t ∧ bit (mc 30 (mc 32 t).toNat) day.toNat = 1 then xC m t (lnT mc t - 2) else 0) k) (fun s => (mc 31 0 - s.2).toNat) ⟨0, rfl, by omega, Int.le_refl _, Int.le_refl _, rfl⟩ ?_
    rintro ⟨s, kk⟩ ⟨k, a1, a2, a3, a4, a5⟩
    dsimp only at a1 a3 a4 a5 ⊢
    subst a1
    unfold C_Wishes_cost_b1
    rw [q31]
    refine ok_ite (fun hk => ?_) (fun hk => ok_some ?_)
    · have l := ln_of I hk
      have b01 := bit_01 (mc 30 (mc 32 k).toNat) day.toNat
      have q33 : m 33 k = mc 33 k := p _ _ ⟨by unfold pC; omega, by omega⟩
      have skip : ¬ (1 < mc 33 k ∧ bit (mc 30 (mc 32 k).toNat) day.toNat = 1) → (∃ k' : Nat, (k : Int) + 1 = k' ∧ (k' : Int) ≤ mc 31 0 ∧ 0 ≤ s ∧ s ≤ 240 * k' ∧ s = sI (fun t => if 1 < mc 33 t ∧ bit (mc 30 (mc 32 t).toNat) day.toNat = 1 then xC m t (lnT mc t - 2) else 0) k') := fun hn => by
        refine ⟨k + 1, by omega, by omega, a3, by omega, ?_⟩
        simp only [sI]
        rw [if_neg hn, a5]
        omega
      simp only [Int.toNat_natCast]
      rw [q33]
      refine ok_grd (by omega) (ok_ltv (ok_ite (fun h1 => ok_bind (isOnP_ok I hd p hk) (fun z hz => ok_ite (fun hz1 => ?_) (fun hz1 => ?_))) (fun h1 => ?_)))
      · clear skip
        have on : bit (mc 30 (mc 32 k).toNat) day.toNat = 1 := by omega
        have ei : (mc 33 k - 2).toNat = lnT mc k - 2 := by omega
        have bb := b k (lnT mc k - 2) ⟨hk, on⟩ (by omega)
        have ex : m (407 + k) (lnT mc k - 2) = xC m k (lnT mc k - 2) := rfl
        rw [ei, ex]
        refine ok_grd (by unfold InR; omega) (ok_ltv (ok_grd (by unfold InR; omega) (ok_ltv (ok_some ⟨⟨k + 1, by dsimp only; omega, by omega, by dsimp only; omega, by dsimp only; omega, ?_⟩, by dsimp only; omega⟩))))
        dsimp only [sI]
        rw [if_pos ⟨h1, on⟩, a5]
      · exact ok_grd (by unfold InR; omega) (ok_ltv (ok_some ⟨skip (fun q => by omega), by dsimp only; omega⟩))
      · exact ok_grd (by unfold InR; omega) (ok_ltv (ok_some ⟨skip (fun q => by omega), by dsimp only; omega⟩))
    · have : k = (mc 31 0).toNat := by omega
      rw [← this]
      exact a5
  · have b7 := sI_bd (h := fun t => if 1 < mc 33 t ∧ bit (mc 30 (mc 32 t).toNat) day.toNat = 1 then xC m t (lnT mc t - 2) else 0) (z := 240) (by omega) (n := (mc 31 0).toNat) (fun t ht => by
      (try dsimp only)
      by_cases z : 1 < mc 33 t ∧ bit (mc 30 (mc 32 t).toNat) day.toNat = 1
      · rw [if_pos z]
        exact b t _ ⟨by omega, z.2⟩ (by unfold lnT; omega)
      · rw [if_neg z]
        omega)
    have b7' : (((mc 31 0).toNat : Nat) : Int) * 240 ≤ 24 * 240 := Int.mul_le_mul_of_nonneg_right (by omega) (by omega)
    dsimp only at h7
    rw [← h7] at b7
    refine ok_loop (fun s => ∃ k : Nat, s.2 = k ∧ (k : Int) ≤ mc 400 4 ∧ 0 ≤ s.1 ∧ s.1 ≤ 5760 + 5940 * k ∧ s.1 = s7 + sI (fun w => @ite _ (jiand (jishr mask w) 1 = 0 ∧ cntW mc day w ∧ xC m (owN mc w) (nwN mc w) < ndW mc (xC m) w) (Classical.propDecidable _) (60 * mc 405 w) 0) k) (fun s => (mc 400 4 - s.2).toNat) ⟨0, rfl, by omega, by dsimp only; omega, by dsimp only; omega, by dsimp only [sI]; omega⟩ ?_
    rintro ⟨s, kk⟩ ⟨k, a1, a2, a3, a4, a5⟩
    dsimp only at a1 a3 a4 a5 ⊢
    subst a1
    unfold C_Wishes_cost_b2
    rw [q4]
    refine ok_ite (fun hk => ok_ltv ?_) (fun hk => ok_some ?_)
    · have f := wish_facts I hk
      obtain ⟨gp, gb⟩ := gap_ok I p hk d (by omega)
      have q5 : m 405 k = mc 405 k := p _ _ ⟨by unfold pC; omega, by omega⟩
      have skip : ¬ (jiand (jishr mask k) 1 = 0 ∧ cntW mc day k ∧ xC m (owN mc k) (nwN mc k) < ndW mc (xC m) k) → (∃ k' : Nat, (k : Int) + 1 = k' ∧ (k' : Int) ≤ mc 400 4 ∧ 0 ≤ s ∧ s ≤ 5760 + 5940 * k' ∧ s = s7 + sI (fun w => @ite _ (jiand (jishr mask w) 1 = 0 ∧ cntW mc day w ∧ xC m (owN mc w) (nwN mc w) < ndW mc (xC m) w) (Classical.propDecidable _) (60 * mc 405 w) 0) k') := fun hn => by
        refine ⟨k + 1, by omega, by omega, a3, by omega, ?_⟩
        simp only [sI]
        rw [if_neg hn, a5]
        omega
      refine ok_ite (fun hmask => ok_bind (isCounted_ok I hd p hk) (fun z hz => ok_ite (fun hz1 => ?_) (fun hz1 => ?_))) (fun hmask => ?_)
      · have hc : cntW mc day k := by
          rcases hz with hz | hz
          · exact hz.2
          · exact absurd hz.1 hz1
        refine ok_ltv (ok_ite (fun _ => ok_bind gp (fun g hg => ?_)) (fun q => absurd Int.one_ne_zero q))
        rw [Int.toNat_natCast, q5]
        refine ok_ite (fun hg0 => ok_grd (by unfold InR; omega) (ok_ltv (ok_grd (by unfold InR; omega) (ok_ltv (ok_some ⟨⟨k + 1, by dsimp only; omega, by omega, by dsimp only; omega, by dsimp only; omega, ?_⟩, by dsimp only; omega⟩))))) (fun hg0 => ok_grd (by unfold InR; omega) (ok_ltv (ok_some ⟨skip (fun q => by omega), by dsimp only; omega⟩)))
        dsimp only [sI]
        rw [if_pos ⟨hmask, hc, by omega⟩, a5]
        omega
      · have hc : ¬ cntW mc day k := by
          rcases hz with hz | hz
          · exact absurd hz.1 (fun q => hz1 (by omega))
          · exact hz.2
        exact ok_ltv (ok_ite (fun q => absurd rfl q) (fun _ => ok_grd (by unfold InR; omega) (ok_ltv (ok_some ⟨skip (fun q => hc q.2.1), by dsimp only; omega⟩))))
      · exact ok_ltv (ok_ite (fun q => absurd rfl q) (fun _ => ok_grd (by unfold InR; omega) (ok_ltv (ok_some ⟨skip (fun q => hmask q.1), by dsimp only; omega⟩))))
    · have : k = (mc 400 4).toNat := by omega
      dsimp only
      rw [a5, h7]
      unfold costW
      rw [this]
theorem costCv_ok (I : Inv mc mm) (hd : 0 ≤ day ∧ day ≤ 27) (p : Per mc m0) : Ok (C_costOfWaits day mask m0) (fun r => FrD m0 r.2 ∧ r.1 = vW mc day mask) := by
  have CI0 : CI mc := ⟨_, I⟩
  unfold C_costOfWaits
  refine ok_bq2 (spread_ok CI0 hd p (hr_W I hd mask)) (fun z m1 h => ?_)
  dsimp only at h
  obtain ⟨f, d, h⟩ := h
  rcases h with ⟨h1, h2⟩ | ⟨h1, h2⟩
  · rw [h1]
    refine ok_ite (fun _ => ok_bind (costC_ok CI0 hd (FrD_per p f) d h2.2.2) (fun v hv => ok_some ⟨f, ?_⟩)) (fun q => absurd Int.one_ne_zero q)
    dsimp only
    rw [hv, vW_yes CI0 h2]
  · rw [h1]
    refine ok_ite (fun q => absurd rfl q) (fun _ => ok_some ⟨f, ?_⟩)
    exact (vW_no CI0 h2).symm
theorem shl_bd {k : Int} (h0 : 0 ≤ k) (h1 : k ≤ 6) : 1 ≤ jishl 1 k ∧ jishl 1 k ≤ 64 := by
  have : k = 0 ∨ k = 1 ∨ k = 2 ∨ k = 3 ∨ k = 4 ∨ k = 5 ∨ k = 6 := by omega
  rcases this with rfl | rfl | rfl | rfl | rfl | rfl | rfl <;> decide
theorem st_waitCost : ST_waitCost Inv := by
  intro mc mm p0 p1 I _ _
  have CI0 : CI mc := ⟨_, I⟩
  have w6 := I.2.2.2.2.2.2.2.2.1
  have w0 := I.2.2.2.2.2.2.2.1
  have ew := I.2.2.2.2.2.2.1
  have sb := shl_bd w0 w6
  have vb := vW_bd (day := p0) (mask := p1) CI0
  refine ag_of ?_
  unfold C_waitCost
  have mside : ∀ P : Int × Mem → Prop, (¬ (0 ≤ p0 ∧ p0 ≤ 27 ∧ 0 ≤ p1 ∧ p1 ≤ jishl 1 (mc 400 4) - 1) → ∀ mm', Inv mc mm' → mm' 0 0 = 1 → P (0, mm')) → (0 ≤ p0 → p0 ≤ 27 → 0 ≤ p1 → p1 ≤ jishl 1 (mc 400 4) - 1 → 1000000 ≤ vW mc p0 p1 → ∀ mm', Inv mc mm' → mm' 0 0 = 2 → P (0, mm')) → (0 ≤ p0 → p0 ≤ 27 → 0 ≤ p1 → p1 ≤ jishl 1 (mc 400 4) - 1 → vW mc p0 p1 < 1000000 → ∀ mm', Inv mc mm' → mm' 0 0 = 0 → P (vW mc p0 p1, mm')) → Ok (M_waitCost p0 p1 mm) P := by
    intro P hP1 hP2 hP3
    unfold M_waitCost
    rw [ew]
    refine ok_grd (fun _ => by unfold InR; omega) (wp_bq2 (wp_isThrownI (fun h => ok_ite (fun _ => ok_some (hP1 (by simp only [isIn0] at h; omega) _ (Inv_thr I _) (by dsimp only; exact setM_same _ _ _ _))) (fun q => absurd Int.one_ne_zero q)) (fun h => ok_ite (fun q => absurd rfl q) (fun _ => ?_))))
    simp only [isIn0] at h
    refine ok_bq2 (costMv_ok (Inv_thr I 0) (by omega)) (fun r m2 hr => ok_ltv ?_)
    dsimp only at hr
    have J : Inv mc m2 := Inv_fr (Inv_thr I 0) (fun _ _ _ => rfl) (fun c i q => hr.1 c i (by unfold pM at q; omega))
    refine wp_bq2 (wp_isThrownI (fun h2 => ok_ite (fun _ => ok_some (hP2 (by omega) (by omega) (by omega) (by omega) ?_ _ (Inv_thr J _) (by dsimp only; exact setM_same _ _ _ _))) (fun q => absurd Int.one_ne_zero q)) (fun h2 => ok_ite (fun q => absurd rfl q) (fun _ => ok_some ?_)))
    · have := hr.2
      split at this <;> omega
    · have e := hr.2
      have hlt : vW mc p0 p1 < 1000000 := by split at e <;> omega
      rw [if_pos hlt] at e
      rw [e]
      exact hP3 (by omega) (by omega) (by omega) (by omega) hlt _ (Inv_thr J _) (by dsimp only; exact setM_same _ _ _ _)
  refine wp_bind (wp_needDay (fun h => ok_tbd_inr ?_) (fun k1 k2 => ok_tbd_inl (ok_grd (by unfold InR; omega) (wp_bind (wp_needNumber (fun h => ok_tbd_inr ?_) (fun k3 k4 => ok_tbd_inl ?_))))))
  · refine mside _ (fun _ mm' J e => ?_) (fun _ _ => by omega) (fun _ _ => by omega)
    exact agp_er (by decide) (by rw [e]; rfl) J
  · refine mside _ (fun _ mm' J e => ?_) (fun _ _ _ _ => by omega) (fun _ _ _ _ => by omega)
    exact agp_er (by decide) (by rw [e]; rfl) J
  · refine ok_bq2 (costCv_ok (mask := p1) I ⟨k1, k2⟩ (Ctx_self I)) (fun v m2 h => ok_ltv ?_)
    dsimp only at h
    obtain ⟨f, rfl⟩ := h
    have tr : ∀ mm', Inv mc mm' → Inv m2 mm' := fun mm' J => Inv_fr J (fun c i q => f c i (by unfold pC at q; omega)) (fun _ _ _ => rfl)
    refine wp_bind (wp_needFound (fun hf => ok_tbd_inr ?_) (fun hf => ok_tbd_inl (ok_some ?_)))
    · refine mside _ (fun q => by omega) (fun _ _ _ _ _ mm' J e => ?_) (fun _ _ _ _ q => by omega)
      exact agp_er (by decide) (by rw [e]; rfl) (tr _ J)
    · refine mside _ (fun q => by omega) (fun _ _ _ _ q => by omega) (fun _ _ _ _ _ mm' J e => ?_)
      exact agp_ok e rfl (tr _ J)
/-- the best of the masks up to one -/
def bwW (V : Int → Int) : Nat → Int × Int
  | 0 => (0, V 0)
  | k + 1 => if V ((k : Int) + 1) < (bwW V k).2 then ((k : Int) + 1, V ((k : Int) + 1)) else bwW V k
theorem bwW_le {V : Int → Int} (h : ∀ z, V z ≤ 1000000) : ∀ k, (bwW V k).2 ≤ 1000000 := by
  intro k
  induction k with
  | zero => exact h 0
  | succ k ih =>
    simp only [bwW]
    split
    · exact h _
    · exact ih
theorem st_bestWaits : ST_bestWaits Inv := by
  intro mc mm p0 I _
  have CI0 : CI mc := ⟨_, I⟩
  have w6 := I.2.2.2.2.2.2.2.2.1
  have w0 := I.2.2.2.2.2.2.2.1
  have sb := shl_bd w0 w6
  have vb : ∀ z, 0 ≤ vW mc p0 z ∧ vW mc p0 z ≤ 1000000 := fun z => by
    have := vW_bd (day := p0) (mask := z) CI0
    omega
  refine ag_of ?_
  unfold C_bestWaits
  refine wp_bind (wp_needDay (fun h => ok_tbd_inr ?_) (fun k1 k2 => ok_tbd_inl (ok_ltv ?_)))
  · unfold M_bestWaits
    repeat' (first
    | with_reducible refine ok_ltv ?_
    | with_reducible refine ok_tbd_inl ?_
    | with_reducible refine ok_tbd_inr ?_
    | with_reducible refine wp_bind ?_
    | with_reducible refine wp_bq1 ?_
    | with_reducible refine wp_bq2 ?_
    | (with_reducible refine wp_needNumber (fun _ => ?_) (fun _ _ => ?_)) <;> (try (exfalso; omega))
    | (with_reducible refine wp_needDay (fun _ => ?_) (fun _ _ => ?_)) <;> (try (exfalso; omega))
    | (with_reducible refine wp_needStop (fun _ => ?_) (fun _ _ => ?_)) <;> (try (exfalso; omega))
    | (with_reducible refine wp_needService (fun _ => ?_) (fun _ _ => ?_)) <;> (try (exfalso; omega))
    | (with_reducible refine wp_needTrip (fun _ => ?_) (fun _ _ => ?_)) <;> (try (exfalso; omega))
    | (with_reducible refine wp_needCall (by omega) (fun _ => ?_) (fun _ _ _ _ => ?_)) <;> (try (exfalso; omega))
    | (with_reducible refine wp_needUnlike (fun _ => ?_) (fun _ => ?_)) <;> (try (exfalso; omega))
    | (with_reducible refine wp_needFound (fun _ => ?_) (fun _ => ?_)) <;> (try (exfalso; omega))
    | (with_reducible refine wp_needRoomForTrip (fun _ => ?_) (fun _ => ?_)) <;> (try (exfalso; omega))
    | (with_reducible refine wp_needRoomForSigns (by unfold InR; omega) (fun _ => ?_) (fun _ => ?_)) <;> (try (exfalso; omega))
    | (with_reducible refine wp_isNoStop (by (try simp (disch := omega) only [setM_ne, setM_hit, true_and, and_true]); omega) (by (try simp (disch := omega) only [setM_ne, setM_hit, true_and, and_true]); omega) (fun h => ?_) (fun h1 h2 => ?_)) <;> (try simp (disch := omega) only [setM_ne, setM_hit, true_and, and_true] at h) <;> (try simp (disch := omega) only [setM_ne, setM_hit, true_and, and_true] at h1) <;> (try simp (disch := omega) only [setM_ne, setM_hit, true_and, and_true] at h2) <;> (try (exfalso; omega))
    | (with_reducible refine wp_isNoService (by (try simp (disch := omega) only [setM_ne, setM_hit, true_and, and_true]); omega) (by (try simp (disch := omega) only [setM_ne, setM_hit, true_and, and_true]); omega) (fun h => ?_) (fun h1 h2 => ?_)) <;> (try simp (disch := omega) only [setM_ne, setM_hit, true_and, and_true] at h) <;> (try simp (disch := omega) only [setM_ne, setM_hit, true_and, and_true] at h1) <;> (try simp (disch := omega) only [setM_ne, setM_hit, true_and, and_true] at h2) <;> (try (exfalso; omega))
    | (with_reducible refine wp_isNoTrip (by (try simp (disch := omega) only [setM_ne, setM_hit, true_and, and_true]); omega) (by (try simp (disch := omega) only [setM_ne, setM_hit, true_and, and_true]); omega) (fun h => ?_) (fun h1 h2 => ?_)) <;> (try simp (disch := omega) only [setM_ne, setM_hit, true_and, and_true] at h) <;> (try simp (disch := omega) only [setM_ne, setM_hit, true_and, and_true] at h1) <;> (try simp (disch := omega) only [setM_ne, setM_hit, true_and, and_true] at h2) <;> (try (exfalso; omega))
    | (with_reducible refine wp_isNoDay (fun h => ?_) (fun h1 h2 => ?_)) <;> (try (exfalso; omega))
    | with_reducible refine wp_isThrown1 ?_
    | with_reducible refine wp_isThrown0 ?_
    | (with_reducible refine wp_isThrownI (fun h => ?_) (fun h => ?_)) <;> (try simp (disch := omega) only [setM_ne, setM_hit, true_and, and_true] at h) <;> (try simp only [isIn0] at h) <;> (try (exfalso; omega))
    | with_reducible refine ok_grd (by (try simp (disch := omega) only [setM_ne, setM_hit, true_and, and_true]); (try unfold InR); omega) ?_
    | (with_reducible refine ok_some ?_) <;> (try dsimp only)
    | (with_reducible refine ok_ite (fun h => ?_) (fun h => ?_)) <;> (try dsimp only at h) <;> (try simp (disch := omega) only [setM_ne, setM_hit, true_and, and_true] at h) <;> (try simp only [isIn0, i01] at h) <;> (try (exfalso; first | exact h trivial | omega)))
    (refine agp_er ?_ ?_ ?_); decide; (first | (rw [setM_same]; rfl) | (dsimp only; simp (disch := omega) only [setM_ne, setM_hit, true_and, and_true]; rfl))
    repeat (first | exact I | with_reducible refine Inv_thr ?_ _)
  · refine ok_bq2 (costCv_ok (mask := 0) I ⟨k1, k2⟩ (Ctx_self I)) (fun v m2 h => ok_ltv (ok_ltv ?_))
    dsimp only at h
    obtain ⟨f2, rfl⟩ := h
    refine ok_bq4 (Q := fun (s : Int × Int × Int × Mem) => FrD mc s.2.2.2 ∧ s.1 = (bwW (vW mc p0) (jishl 1 (mc 400 4) - 1).toNat).1) ?_ (fun b1 _ _ m5 h5 => ok_some ?_)
    · refine ok_loop (fun s => ∃ k : Nat, s.2.2.1 = (k : Int) + 1 ∧ (k : Int) + 1 ≤ jishl 1 (mc 400 4) ∧ FrD mc s.2.2.2 ∧ s.1 = (bwW (vW mc p0) k).1 ∧ s.2.1 = (bwW (vW mc p0) k).2) (fun s => (jishl 1 (mc 400 4) - s.2.2.1).toNat) ⟨0, rfl, by omega, f2, rfl, rfl⟩ ?_
      rintro ⟨bs, ls, mk, m⟩ ⟨k, a1, a2, f, a3, a4⟩
      dsimp only at a1 f a3 a4 ⊢
      subst a1
      have pm := FrD_per (Ctx_self I) f
      have q4 : m 400 4 = mc 400 4 := pm _ _ ⟨by unfold pC; omega, by omega⟩
      unfold C_bestWaits_b1
      rw [q4]
      refine ok_ite (fun hk => ok_bq2 (costCv_ok (mask := (k : Int) + 1) I ⟨k1, k2⟩ pm) (fun v m4 h => ok_ltv ?_)) (fun hk => ok_some ⟨f, ?_⟩)
      · dsimp only at h
        obtain ⟨f4, rfl⟩ := h
        have f' : FrD mc m4 := fun c i hc => by rw [f4 c i hc]; exact f c i hc
        rw [a4]
        refine ok_ite (fun hlt => ok_ltv (ok_ltv (ok_grd (by unfold InR; omega) (ok_ltv (ok_some ⟨⟨k + 1, by dsimp only; omega, by omega, f', ?_, ?_⟩, by dsimp only; omega⟩))))) (fun hlt => ok_grd (by unfold InR; omega) (ok_ltv (ok_some ⟨⟨k + 1, by dsimp only; omega, by omega, f', ?_, ?_⟩, by dsimp only; omega⟩)))
        · dsimp only [bwW]
          rw [if_pos hlt]
        · dsimp only [bwW]
          rw [if_pos hlt]
        · dsimp only [bwW]
          rw [if_neg hlt]
          exact a3
        · dsimp only [bwW]
          rw [if_neg hlt]
      · have : k = (jishl 1 (mc 400 4) - 1).toNat := by omega
        dsimp only
        rw [a3, this]
    · dsimp only at h5
      obtain ⟨f5, e5⟩ := h5
      have tr : ∀ mm', Inv mc mm' → Inv m5 mm' := fun mm' J => Inv_fr J (fun c i q => f5 c i (by unfold pC at q; omega)) (fun _ _ _ => rfl)
      unfold M_bestWaits
      refine wp_bq2 (wp_isNoDay (fun _ => by omega) (fun _ _ => ok_ite (fun q => absurd rfl q) (fun _ => ok_ltv (ok_ltv (ok_ltv ?_)))))
      have J0 := Inv_thr I 0
      refine ok_bq4 (Q := fun (s : Int × Int × Int × Mem) => Inv mc s.2.2.2 ∧ s.2.2.2 0 0 = 0 ∧ s.1 = (bwW (vW mc p0) (jishl 1 (mc 400 4) - 1).toNat).1) ?_ (fun b2 _ _ m6 h6 => ok_some ?_)
      · refine ok_loop (fun s => ∃ k : Nat, s.2.2.1 = k ∧ (k : Int) ≤ jishl 1 (mc 400 4) ∧ Inv mc s.2.2.2 ∧ s.2.2.2 0 0 = 0 ∧ ((k = 0 ∧ s.1 = 0 ∧ s.2.1 = 1000000) ∨ (1 ≤ k ∧ s.1 = (bwW (vW mc p0) (k - 1)).1 ∧ s.2.1 = (bwW (vW mc p0) (k - 1)).2))) (fun s => (jishl 1 (mc 400 4) - s.2.2.1).toNat) ⟨0, rfl, by omega, J0, (by dsimp only; exact setM_same _ _ _ _), Or.inl ⟨rfl, rfl, rfl⟩⟩ ?_
        rintro ⟨bs, ls, mk, m⟩ ⟨k, a1, a2, J, z0, a3⟩
        dsimp only at a1 J z0 a3 ⊢
        subst a1
        have q4 : m 0 36 = mc 400 4 := J.2.2.2.2.2.2.1
        unfold M_bestWaits_b1
        rw [q4]
        refine ok_ite (fun hk => ok_bq2 (costMv_ok (mask := (k : Int)) J ⟨k1, k2⟩) (fun v m4 h => ok_ltv ?_)) (fun hk => ok_some ⟨J, z0, ?_⟩)
        · dsimp only at h
          obtain ⟨f4, hv⟩ := h
          have J4 : Inv mc m4 := Inv_fr J (fun _ _ _ => rfl) (fun c i q => f4 c i (by unfold pM at q; omega))
          have z4 : m4 0 0 = 0 := by rw [f4 0 0 (by omega)]; exact z0
          have vk := vb k
          have fin : ∀ b l : Int, ((k = 0 ∧ b = 0 ∧ l = vW mc p0 k) ∨ (1 ≤ k ∧ b = (bwW (vW mc p0) k).1 ∧ l = (bwW (vW mc p0) k).2)) → ((1 ≤ k + 1 ∧ b = (bwW (vW mc p0) (k + 1 - 1)).1 ∧ l = (bwW (vW mc p0) (k + 1 - 1)).2)) := by
            intro b l hbl
            rw [show k + 1 - 1 = k by omega]
            refine ⟨by omega, ?_⟩
            rcases hbl with ⟨h1, h2, h3⟩ | ⟨h1, h2, h3⟩
            · subst h1
              exact ⟨h2, h3⟩
            · exact ⟨h2, h3⟩
          have stp : 1 ≤ k → bwW (vW mc p0) k = if vW mc p0 (k : Int) < (bwW (vW mc p0) (k - 1)).2 then ((k : Int), vW mc p0 (k : Int)) else bwW (vW mc p0) (k - 1) := by
            intro h1
            obtain ⟨j, rfl⟩ : ∃ j, k = j + 1 := ⟨k - 1, by omega⟩
            rw [show j + 1 - 1 = j by omega, show ((j + 1 : Nat) : Int) = (j : Int) + 1 by omega]
            rfl
          refine ok_ite (fun hlt => ok_ltv (ok_ltv (ok_grd (by unfold InR; omega) (ok_ltv (ok_some ⟨⟨k + 1, by dsimp only; omega, by omega, J4, z4, Or.inr (fin _ _ ?_)⟩, by dsimp only; omega⟩))))) (fun hlt => ok_grd (by unfold InR; omega) (ok_ltv (ok_some ⟨⟨k + 1, by dsimp only; omega, by omega, J4, z4, Or.inr (fin _ _ ?_)⟩, by dsimp only; omega⟩)))
          · have e : v = vW mc p0 k := by split at hv <;> omega
            rcases a3 with ⟨c1, c2, c3⟩ | ⟨c1, c2, c3⟩
            · exact Or.inl ⟨c1, by omega, e⟩
            · right
              rw [stp c1, if_pos (by rw [← e, ← c3]; exact hlt.2)]
              exact ⟨c1, rfl, e⟩
          · rcases a3 with ⟨c1, c2, c3⟩ | ⟨c1, c2, c3⟩
            · left
              refine ⟨c1, c2, ?_⟩
              dsimp only
              split at hv <;> omega
            · right
              have le := bwW_le (V := vW mc p0) (fun z => (vb z).2) (k - 1)
              rw [stp c1, if_neg (by rw [← c3]; split at hv <;> omega)]
              exact ⟨c1, c2, c3⟩
        · dsimp only
          rcases a3 with ⟨c1, -⟩ | ⟨c1, c2, c3⟩
          · omega
          · rw [c2, show k - 1 = (jishl 1 (mc 400 4) - 1).toNat by omega]
      · dsimp only at h6
        refine agp_ok h6.2.1 ?_ (tr _ h6.1)
        rw [h6.2.2, e5]
end WCV
