/-! ===== isSound ===== -/
section SND
variable {mc mm m m0 : Mem} {day : Int}
theorem ok_and {α : Type} {x : Option α} {P Q : α → Prop} (h : Ok x P) (k : Ok x Q) : Ok x (fun r => P r ∧ Q r) := by
  obtain ⟨r, e, hr⟩ := h
  exact ⟨r, e, hr, ok_eq k e⟩
theorem lastLow_ok {a b : Nat} {y : Int} (I : CI mc) (C : Ctx mc day (-1) 0 (-1) m0) (ha : a < nC mc) (hb : b < nC mc) (hy : 0 ≤ y ∧ y ≤ 999999) : Ok (C_Search_lastLeave a b y m0) (fun x => x.1 ≤ 4499 ∨ x.1 ≤ if a = b then y else y - wC mc (-1) a b) := by
  have n := CI_n I
  unfold C_Search_lastLeave
  refine ok_bq2 (lastRides_ok I C ha hb hy) (fun v m1 h1 => ok_ltv ?_)
  dsimp only at h1
  obtain ⟨f1, k1, k2, k3, k4⟩ := h1
  have L1 : CtL mc (-1) m1 := CtL_fr I (CtL_of I C.1 C.2.1) (fun c i h => f1 c i (by omega))
  have ew : m1 (17 + a) b = wC mc (-1) a b := L1.2.2.2 a b ha hb
  have wb := CI_w (cut := -1) I ha hb
  have v45 : v ≤ 4499 := by
    rcases k4 with z | z
    · omega
    · exact CdB_bd I ha z
  rw [Int.toNat_natCast, Int.toNat_natCast, ew]
  refine ok_grd (by unfold InR; omega) (ok_ltv (ok_some ?_))
  dsimp only
  by_cases hab : a = b
  · have e2 : (if (a : Int) = (b : Int) then y else y - wC mc (-1) a b) = y := if_pos (by omega)
    rw [e2, if_pos hab]
    split <;> omega
  · have e2 : (if (a : Int) = (b : Int) then y else y - wC mc (-1) a b) = y - wC mc (-1) a b := if_neg (by omega)
    rw [e2, if_neg hab]
    split <;> omega
theorem lastSound_ok {b : Nat} {L : Lb} (I : Inv mc mm) (hd : 0 ≤ day ∧ day ≤ 27) (C : Ctx mc day (-1) 0 (-1) m0) (ha : 0 < nC mc) (hb : b < nC mc) (B : BestQ mc day (-1) 0 (-1) (ini (wC mc (-1)) 0 480) L) (hy : min (L.1 b) (L.2 b) < 1000000) : Ok (C_lastIsSound b (min (L.1 b) (L.2 b)) m0) (fun r => r.1 = 1 ∧ FrPs m0 r.2) := by
  have CI0 : CI mc := ⟨_, I⟩
  have ge := bestQ_ge CI0 (by omega) ha B b hb
  have le := (B.1.1 b hb).2
  have wb := CI_w (cut := -1) CI0 ha hb
  obtain ⟨y, hyy⟩ : ∃ y, y = min (L.1 b) (L.2 b) := ⟨_, rfl⟩
  rw [← hyy] at hy ⊢
  have A := ok_and (lastLeave_ok (a := 0) (b := b) (y := y) CI0 C ha hb (by omega) (best_ex I hd ha)) (lastLow_ok (a := 0) (b := b) (y := y) CI0 C ha hb (by omega))
  unfold C_lastIsSound
  refine ok_bq2 A (fun v m1 h => ok_ltv ?_)
  dsimp only at h
  obtain ⟨⟨f1, l1, l2, l3⟩, low⟩ := h
  have v480 : 480 ≤ v := (l3 480 L (by omega) (by omega) B).mp (by omega)
  have v45 : v ≤ 4499 := by
    rcases low with z | z
    · exact z
    · simp only [ini] at le
      by_cases h0 : 0 = b
      · rw [if_pos h0] at z
        rw [if_pos h0.symm] at le
        omega
      · rw [if_neg h0] at z
        rw [if_neg (fun q => h0 q.symm)] at le
        split at le <;> omega
  have C1 := FrBk_ctx CI0 C f1
  refine ok_ite (fun h => by omega) (fun _ => ok_bind (scan_ok (cut := -1) (a := 0) (t := v) CI0 (by omega) C1 ha (by omega) (by omega)) (fun m2 s => ok_ltv (ok_bind (atC_ok (s := b) (by have := CI_n CI0; omega)) (fun r2 hr2 => ?_))))
  have C2 := FrSc_ctx CI0 C1 s.1
  have t2 := (l3 v _ (by omega) (by omega) s.2.1).mpr (Int.le_refl _)
  refine ok_ite (fun _ => ok_ltv (ok_grd (by unfold InR; omega) (ok_bind (scan_ok (cut := -1) (a := 0) (t := v + 1) CI0 (by omega) C2 ha (by omega) (by omega)) (fun m3 s3 => ok_ite (fun _ => ok_bind (atC_ok (s := b) (by have := CI_n CI0; omega)) (fun r3 hr3 => ?_)) (fun q => absurd Int.one_ne_zero q))))) (fun q => by omega)
  have t3 := l3 (v + 1) _ (by omega) (by omega) s3.2.1
  refine ok_ite (fun _ => ok_some ⟨rfl, fun c i h => ?_⟩) (fun q => by omega)
  dsimp only
  rw [s3.1 c i (by omega), s.1 c i (by omega), f1 c i (by omega)]
def FrSd (m0 m : Mem) : Prop := ∀ c i, ¬ (345 ≤ c ∧ c ≤ 354) → ¬ (361 ≤ c ∧ c ≤ 399) → ¬ (c = 355 ∧ i = 3) → ¬ c = 443 → m c i = m0 c i
theorem FrSd_ctx (I : CI mc) (C : Ctx mc day (-1) 0 (-1) m0) (f : FrSd m0 m) : Ctx mc day (-1) 0 (-1) m := Ctx_fr I C (fun c i h => f c i (by unfold cX pC at h; omega) (by unfold cX pC at h; omega) (by unfold cX pC at h; omega) (by unfold cX pC at h; omega))
theorem waysSound_ok (I : Inv mc mm) (hd : 0 ≤ day ∧ day ≤ 27) (C : Ctx mc day (-1) 0 (-1) m0) (ha : 0 < nC mc) : Ok (C_waysAreSound m0) (fun r => r.1 = 1 ∧ FrSd m0 r.2) := by
  have CI0 : CI mc := ⟨_, I⟩
  have n := CI_n CI0
  unfold C_waysAreSound
  refine ok_bind (scan_ok (cut := -1) (a := 0) (t := 480) CI0 (by omega) C ha (by omega) (by omega)) (fun m1 s1 => ok_ltv ?_)
  have C1 := FrSc_ctx CI0 C s1.1
  obtain ⟨L, hL⟩ : ∃ L, L = labC 352 m1 := ⟨_, rfl⟩
  have B := s1.2.1
  rw [← hL] at B
  refine ok_bq2 (ok_for0 (n := nC mc) (fun k m => (∀ c i, ¬ c = 443 → m c i = m1 c i) ∧ ∀ v : Nat, v < k → m 443 v = min (L.1 v) (L.2 v)) ⟨fun _ _ _ => rfl, fun v hv => by omega⟩ ?_ ?_) (fun _ m4 h4 => ?_)
  · rintro k m hk ⟨f1, f2⟩
    have e0 : m 1 0 = nC mc := by rw [f1 1 0 (by omega)]; exact (CtL_of CI0 C1.1 C1.2.1).1
    have el : labC 352 m = L := by
      rw [hL]
      unfold labC
      rw [show m (352 + 1) = m1 (352 + 1) from funext fun i => f1 _ i (by omega), show m (352 + 2) = m1 (352 + 2) from funext fun i => f1 _ i (by omega)]
    unfold C_waysAreSound_b1
    rw [e0]
    refine ok_ite (fun _ => ok_grd (by omega) (ok_bind (atC_ok (s := k) (by omega)) (fun r hr => ok_ltv (ok_grd (by unfold InR; omega) (ok_ltv (ok_some ⟨_, rfl, fun c i hc => ?_, fun v hv => ?_⟩)))))) (fun h => by omega)
    · rw [setM_ne (by omega)]
      exact f1 c i hc
    · rw [Int.toNat_natCast]
      by_cases hvk : v = k
      · rw [hvk, setM_same, hr, el]
      · rw [setM_ne (by omega)]
        exact f2 v (by omega)
  · rintro m ⟨f1, -⟩
    have e0 : m 1 0 = nC mc := by rw [f1 1 0 (by omega)]; exact (CtL_of CI0 C1.1 C1.2.1).1
    unfold C_waysAreSound_b1
    rw [e0, if_neg (by omega)]
  · dsimp only at h4
    obtain ⟨g4, v4⟩ := h4
    have C4 : Ctx mc day (-1) 0 (-1) m4 := Ctx_fr CI0 C1 (fun c i h => g4 c i (by unfold cX pC at h; omega))
    refine ok_bind (goOn_ok (a := 0) (t := 480) CI0 (by omega) C4 ha (by omega)) (fun m5 s5 => ?_)
    have C5 : Ctx mc day (-1) 0 (-1) m5 := Ctx_fr CI0 C4 (fun c i h => s5.1 c i (by unfold cX pC at h; omega))
    refine ok_bind (fill_ok (a := 0) (t := 480) CI0 (by omega) C5 ha (by omega)) (fun m6 s6 => ok_ltv ?_)
    obtain ⟨f6, last, r1, r2, r3, r4, r5⟩ := s6
    have C6 : Ctx mc day (-1) 0 (-1) m6 := Ctx_fr CI0 C5 (fun c i h => f6 c i (by unfold cX pC at h; omega) (by unfold cX pC at h; omega))
    have ui : WCl (nC mc) (wC mc (-1)) (ini (wC mc (-1)) 0 480) := (und_ini (g := mc 2) (Rd := RdQ mc day (-1) 0 (-1)) (CI_w0 CI0) (by omega) eqL_rfl).2.1
    have B6 : BestQ mc day (-1) 0 (-1) (ini (wC mc (-1)) 0 480) (labC (361 + 3 * last) m6) := rw_best ui (RdQ_N CI0) (r3 last (Nat.le_refl _)).1 r4
    have l6 : labC 352 m6 = labC 352 m5 := by
      unfold labC
      rw [show m6 (352 + 1) = m5 (352 + 1) from funext fun i => f6 _ i (by omega) (by omega), show m6 (352 + 2) = m5 (352 + 2) from funext fun i => f6 _ i (by omega) (by omega)]
    have e443 : ∀ v : Nat, v < nC mc → m6 443 v = min (L.1 v) (L.2 v) := fun v hv => by
      rw [f6 443 v (by omega) (by omega), s5.1 443 v (by omega)]
      exact v4 v hv
    have e0 : m6 1 0 = nC mc := (CtL_of CI0 C6.1 C6.2.1).1
    have F6 : FrSd m0 m6 := fun c i h1 h2 h3 h4 => by
      rw [f6 c i (by omega) (by omega), s5.1 c i (by omega), g4 c i (by omega), s1.1 c i (by omega)]
    refine ok_br1 (Q := fun x => match x with | .inl _ => True | .inr _ => False) ?_ (fun _ _ => ok_ltv ?_) (fun q h => absurd h (fun z => z))
    · refine ok_loop (fun s => ∃ k : Nat, s = k ∧ k ≤ nC mc) (fun s => (nC mc - s).toNat) ⟨0, rfl, Nat.zero_le _⟩ ?_
      rintro kk ⟨k, a1, a2⟩
      subst a1
      unfold C_waysAreSound_b2
      rw [e0]
      refine ok_ite (fun hk => ok_bind (atC_ok (s := k) (by omega)) (fun r hr => ok_grd (by omega) ?_)) (fun hk => ok_some trivial)
      have hkn : k < nC mc := by omega
      have er : r = min (L.1 k) (L.2 k) := by
        rw [hr, l6]
        exact best_at s5.2.1 B hkn
      rw [Int.toNat_natCast, e443 k hkn]
      refine ok_ite (fun q => absurd er q) (fun _ => ok_bind (Q := fun v => v = min (L.1 k) (L.2 k)) ?_ (fun v hv => ok_ite (fun q => absurd hv q) (fun _ => ok_grd (by unfold InR; omega) (ok_ltv (ok_some ⟨⟨k + 1, by omega, by omega⟩, by omega⟩)))))
      unfold C_Rounds_least
      rw [r1, Int.toNat_natCast]
      exact ok_grd (by omega) (ok_bind (atC_ok (s := k) (by omega)) (fun v hv => ok_some (by rw [hv]; exact best_at B6 B hkn)))
    · refine ok_br2 (Q := fun x => match x with | .inl y => FrSd m0 y.2 | .inr _ => False) ?_ (fun _ m9 h => ok_some ⟨rfl, h⟩) (fun q h => absurd h (fun z => z))
      refine ok_loop (fun s => ∃ k : Nat, s.1 = k ∧ k ≤ nC mc ∧ FrSd m0 s.2 ∧ ∀ v : Nat, v < nC mc → s.2 443 v = min (L.1 v) (L.2 v)) (fun s => (nC mc - s.1).toNat) ⟨0, rfl, Nat.zero_le _, F6, e443⟩ ?_
      rintro ⟨kk, m⟩ ⟨k, a1, a2, a3, a4⟩
      dsimp only at a1 a3 a4 ⊢
      subst a1
      have Cm := FrSd_ctx CI0 C a3
      unfold C_waysAreSound_b3
      rw [(CtL_of CI0 Cm.1 Cm.2.1).1]
      refine ok_ite (fun hk => ok_grd (by omega) ?_) (fun hk => ok_some a3)
      have hkn : k < nC mc := by omega
      rw [Int.toNat_natCast, a4 k hkn]
      refine ok_ite (fun hf => ok_bq2 (lastSound_ok I hd Cm ha hkn B hf) (fun r m2 h => ?_)) (fun hf => ok_grd (by unfold InR; omega) (ok_ltv (ok_some ⟨⟨k + 1, by dsimp only; omega, by omega, a3, a4⟩, by dsimp only; omega⟩)))
      dsimp only at h
      rw [h.1]
      refine ok_ite (fun _ => ok_grd (by unfold InR; omega) (ok_ltv (ok_some ⟨⟨k + 1, by dsimp only; omega, by omega, fun c i h1 h2 h3 h4 => ?_, fun v hv => ?_⟩, by dsimp only; omega⟩))) (fun q => absurd Int.one_ne_zero q)
      · dsimp only
        rw [h.2 c i (by omega)]
        exact a3 c i h1 h2 h3 h4
      · dsimp only
        rw [h.2 443 v (by omega)]
        exact a4 v hv
theorem pairsSound_ok {b : Nat} (I : Inv mc mm) (hd : 0 ≤ day ∧ day ≤ 27) (C : Ctx mc day (-1) 0 (-1) m0) (hb0 : 0 < b) (hb : b < nC mc) : Ok (C_pairsAreSound b m0) (fun r => r.1 = 1 ∧ FrPs m0 r.2) := by
  have CI0 : CI mc := ⟨_, I⟩
  have n := CI_n CI0
  have ha : 0 < nC mc := by omega
  unfold C_pairsAreSound
  refine ok_bind (collect_ok (a := 0) CI0 C ha hb) (fun m1 h1 => ok_ltv ?_)
  obtain ⟨f1, k, k1, k5, P, E⟩ := h1
  have C1 := FrPs_ctx CI0 C f1
  refine ok_br1 (Q := fun x => match x with | .inl _ => True | .inr _ => False) ?_ (fun _ _ => ?_) (fun q h => absurd h (fun z => z))
  · refine ok_loop (fun s => ∃ j : Nat, s = (j : Int) + 1 ∧ j ≤ 576) (fun s => (576 - s).toNat) ⟨0, rfl, Nat.zero_le _⟩ ?_
    rintro ss ⟨j, a1, a2⟩
    subst a1
    unfold C_pairsAreSound_b1
    rw [k1]
    refine ok_ite (fun hj => ok_grd (by unfold InR; omega) (ok_ltv ?_)) (fun hj => ok_some trivial)
    have up := Ps_lv P (i := j) (by omega)
    have e1 : ((j : Int) + 1 - 1).toNat = j := by omega
    have e2 : ((j : Int) + 1).toNat = j + 1 := by omega
    rw [e1, e2, if_pos up.1]
    refine ok_grd (by unfold InR; omega) (ok_ite (fun q => by omega) (fun _ => ok_grd (by unfold InR; omega) (ok_ltv (ok_some ⟨⟨j + 1, by omega, by omega⟩, by omega⟩))))
  · -- the arrival by rides from 480 on
    obtain ⟨m3, -, s⟩ := scan_ok (cut := -1) (a := 0) (t := 480) CI0 (by omega) C1 ha (by omega) (by omega)
    have C3 := FrSc_ctx CI0 C1 s.1
    obtain ⟨u, -, hu⟩ := atByRides_ok (to := b) CI0 (CtL_of CI0 C3.1 C3.2.1) hb s.2.2
    have F : FvB mc day 0 b 480 u := ⟨_, s.2.1, hu.1⟩
    refine ok_bind (pairFrom_ok CI0 hb k1 k5 P E (by omega) F) (fun v hv => ok_ltv ?_)
    subst hv
    refine ok_bind (scan_ok (cut := -1) (a := 0) (t := 480) CI0 (by omega) C1 ha (by omega) (by omega)) (fun m2 s2 => ?_)
    have C2 := FrSc_ctx CI0 C1 s2.1
    have ew : m2 17 b = wC mc (-1) 0 b := C2.2.1.2 0 b ha hb
    have wb := CI_w (cut := -1) CI0 ha hb
    rw [Int.toNat_natCast, ew]
    refine ok_grd (by unfold InR; omega) (ok_bind (atC_ok (s := b) (by omega)) (fun r hr => ?_))
    have bf := fun y => best_foot (y := y) (CI_w0 CI0) hb s.2.1 (fun s t s' t' r => (RdQ_st CI0 r).1)
    have er : r = min ((labC 352 m3).1 b) ((labC 352 m3).2 b) := by
      rw [hr]
      exact best_at s2.2.1 s.2.1 hb
    have hz : ∀ y : Int, r ≤ y ↔ (v ≤ y ∨ (ini (wC mc (-1)) 0 480).2 b ≤ y) := fun y => by
      rw [hu.1, ← bf y, er]
      omega
    have hi : (ini (wC mc (-1)) 0 480).2 b = if 480 + wC mc (-1) 0 b < 1000000 then 480 + wC mc (-1) 0 b else 1000000 := by
      simp only [ini]
      exact if_neg (by omega)
    obtain ⟨Y, hY⟩ : ∃ Y, Y = (ini (wC mc (-1)) 0 480).2 b := ⟨_, rfl⟩
    rw [← hY] at hz hi
    have zz := (hz r).mp (Int.le_refl _)
    have zv := (hz v).mpr (Or.inl (Int.le_refl _))
    have zy := (hz Y).mpr (Or.inr (Int.le_refl _))
    have fe : (if 480 + wC mc (-1) 0 b < v then 480 + wC mc (-1) 0 b else v) = r := by
      split at hi <;> split <;> omega
    refine ok_ite (fun _ => ok_some ⟨rfl, fun c i h => ?_⟩) (fun q => absurd fe q)
    dsimp only
    rw [s2.1 c i (by omega)]
    exact f1 c i h
theorem fleetSound_ok {P : (Int ⊕ Nat) × Mem → Prop} (I : Inv mc mm) (hd : 0 ≤ day ∧ day ≤ 27) (p : Per mc m0) (h4 : m0 1 4 = -1) (hP : ∀ m, Per mc m → m 1 4 = -1 → P (.inl 1, m)) : Ok ((C_Fleet_gather day m0).bind fun m_3 => bq2 (C_Fleet_countByTimes (m_3 1 0) m_3) fun r_ m_4 => bq2 (C_Fleet_countByMatching m_4) fun r_2 m_5 => if r_ = r_2 then some (.inl 1, m_5) else some (.inl 0, m_5)) P := by
  have CI0 : CI mc := ⟨_, I⟩
  have n := CI_n CI0
  refine ok_bind (gather_ok CI0 hd p) (fun m1 h1 => ?_)
  obtain ⟨f1, k, k1, k2, F⟩ := h1
  have e10 : m1 1 0 = nC mc := by rw [f1 1 0 (by omega), p 1 0 ⟨by unfold pC; omega, by omega⟩]; exact n.1
  rw [e10]
  refine ok_bq2 (byTimes_ok CI0 k1 k2 F) (fun r m2 h2 => ?_)
  dsimp only at h2
  obtain ⟨f2, x, x1, x2⟩ := h2
  have F2 : FltP mc day m2 k := by
    unfold FltP
    rw [show m2 432 = m1 432 from funext fun i => f2 _ _ (by omega), show m2 433 = m1 433 from funext fun i => f2 _ _ (by omega), show m2 434 = m1 434 from funext fun i => f2 _ _ (by omega), show m2 435 = m1 435 from funext fun i => f2 _ _ (by omega)]
    exact F
  refine ok_bq2 (byMatching_ok CI0 (by rw [f2 431 0 (by omega)]; exact k1) k2 F2 x1) (fun r2 m3 h3 => ?_)
  dsimp only at h3
  refine ok_ite (fun _ => ok_some (hP m3 (fun c i q => ?_) ?_)) (fun q => absurd (x2.trans h3.2.symm) q)
  · rw [h3.1 c i (by obtain ⟨q, -⟩ := q; unfold pC at q; omega), f2 c i (by obtain ⟨q, -⟩ := q; unfold pC at q; omega), f1 c i (by obtain ⟨q, -⟩ := q; unfold pC at q; omega)]
    exact p c i q
  · rw [h3.1 1 4 (by omega), f2 1 4 (by omega), f1 1 4 (by omega)]
    exact h4
theorem st_isSound : ST_isSound Inv := by
  intro mc mm p0 I _
  have CI0 : CI mc := ⟨_, I⟩
  have n := CI_n CI0
  refine ag_of ?_
  unfold C_isSound
  refine wp_bind (wp_needDay (fun h => ok_tbd_inr ?_) (fun k1 k2 => ok_tbd_inl ?_))
  · unfold M_isSound
    repeat' (first
    | with_reducible refine ok_ltv ?_
    | with_reducible refine ok_tbd_inl ?_
    | with_reducible refine ok_tbd_inr ?_
    | with_reducible refine wp_bind ?_
    | with_reducible refine wp_bq1 ?_
    | with_reducible refine wp_bq2 ?_
    | (with_reducible refine wp_needNumber (fun _ => ?_) (fun _ _ => ?_)) <;> (try (exfalso; omega))
    | (with_reducible refine wp_needDay (fun _ => ?_) (fun _ _ => ?_)) <;> (try (exfalso; omega))
    | (with_reducible refine wp_needStop (fun _ => ?_) (fun _ _ => ?_)) <;> (try (exfalso; omega))
    | (with_reducible refine wp_needService (fun _ => ?_) (fun _ _ => ?_)) <;> (try (exfalso; omega))
    | (with_reducible refine wp_needTrip (fun _ => ?_) (fun _ _ => ?_)) <;> (try (exfalso; omega))
    | (with_reducible refine wp_needCall (by omega) (fun _ => ?_) (fun _ _ _ _ => ?_)) <;> (try (exfalso; omega))
    | (with_reducible refine wp_needUnlike (fun _ => ?_) (fun _ => ?_)) <;> (try (exfalso; omega))
    | (with_reducible refine wp_needFound (fun _ => ?_) (fun _ => ?_)) <;> (try (exfalso; omega))
    | (with_reducible refine wp_needRoomForTrip (fun _ => ?_) (fun _ => ?_)) <;> (try (exfalso; omega))
    | (with_reducible refine wp_needRoomForSigns (by unfold InR; omega) (fun _ => ?_) (fun _ => ?_)) <;> (try (exfalso; omega))
    | (with_reducible refine wp_isNoStop (by (try simp (disch := omega) only [setM_ne, setM_hit, true_and, and_true]); omega) (by (try simp (disch := omega) only [setM_ne, setM_hit, true_and, and_true]); omega) (fun h => ?_) (fun h1 h2 => ?_)) <;> (try simp (disch := omega) only [setM_ne, setM_hit, true_and, and_true] at h) <;> (try simp (disch := omega) only [setM_ne, setM_hit, true_and, and_true] at h1) <;> (try simp (disch := omega) only [setM_ne, setM_hit, true_and, and_true] at h2) <;> (try (exfalso; omega))
    | (with_reducible refine wp_isNoService (by (try simp (disch := omega) only [setM_ne, setM_hit, true_and, and_true]); omega) (by (try simp (disch := omega) only [setM_ne, setM_hit, true_and, and_true]); omega) (fun h => ?_) (fun h1 h2 => ?_)) <;> (try simp (disch := omega) only [setM_ne, setM_hit, true_and, and_true] at h) <;> (try simp (disch := omega) only [setM_ne, setM_hit, true_and, and_true] at h1) <;> (try simp (disch := omega) only [setM_ne, setM_hit, true_and, and_true] at h2) <;> (try (exfalso; omega))
    | (with_reducible refine wp_isNoTrip (by (try simp (disch := omega) only [setM_ne, setM_hit, true_and, and_true]); omega) (by (try simp (disch := omega) only [setM_ne, setM_hit, true_and, and_true]); omega) (fun h => ?_) (fun h1 h2 => ?_)) <;> (try simp (disch := omega) only [setM_ne, setM_hit, true_and, and_true] at h) <;> (try simp (disch := omega) only [setM_ne, setM_hit, true_and, and_true] at h1) <;> (try simp (disch := omega) only [setM_ne, setM_hit, true_and, and_true] at h2) <;> (try (exfalso; omega))
    | (with_reducible refine wp_isNoDay (fun h => ?_) (fun h1 h2 => ?_)) <;> (try (exfalso; omega))
    | with_reducible refine wp_isThrown1 ?_
    | with_reducible refine wp_isThrown0 ?_
    | (with_reducible refine wp_isThrownI (fun h => ?_) (fun h => ?_)) <;> (try simp (disch := omega) only [setM_ne, setM_hit, true_and, and_true] at h) <;> (try simp only [isIn0] at h) <;> (try (exfalso; omega))
    | with_reducible refine ok_grd (by (try simp (disch := omega) only [setM_ne, setM_hit, true_and, and_true]); (try unfold InR); omega) ?_
    | (with_reducible refine ok_some ?_) <;> (try dsimp only)
    | (with_reducible refine ok_ite (fun h => ?_) (fun h => ?_)) <;> (try dsimp only at h) <;> (try simp (disch := omega) only [setM_ne, setM_hit, true_and, and_true] at h) <;> (try simp only [isIn0, i01] at h) <;> (try (exfalso; first | exact h trivial | omega)))
    (refine agp_er ?_ ?_ ?_); decide; (first | (rw [setM_same]; rfl) | (dsimp only; simp (disch := omega) only [setM_ne, setM_hit, true_and, and_true]; rfl))
    repeat (first | exact I | with_reducible refine Inv_thr ?_ _)
  · have hd : 0 ≤ p0 ∧ p0 ≤ 27 := ⟨k1, k2⟩
    have mside : ∀ m, Per mc m → m 1 4 = -1 → Ok (M_isSound p0 mm) (fun b => AgP okA Inv [0] (.inl 1, m) b) := by
      intro m p h4
      unfold M_isSound
      refine wp_bq2 (wp_isNoDay (fun _ => by omega) (fun _ _ => ok_ite (fun q => absurd rfl q) (fun _ => ok_some ?_)))
      exact agp_ok (by dsimp only; exact setM_same _ _ _ _) rfl (Inv_end I p h4 (fun c i h => setM_ne (by unfold pM at h; omega)))
    refine ok_bind (lay_ok (sh := -1) (mi := 0) CI0 hd (by omega) (Ctx_self I)) (fun m1 l => ?_)
    have C1 : Ctx mc p0 (-1) 0 (-1) m1 := ⟨l.2.1, l.2.2.1, l.2.2.2⟩
    have e1 : m1 1 0 = nC mc := (CtL_of CI0 C1.1 C1.2.1).1
    rw [e1]
    refine ok_ite (fun h0 => ok_bq2 (waysSound_ok I hd C1 (by omega)) (fun r m2 h2 => ?_)) (fun h0 => ok_ite (fun h => by omega) (fun _ => fleetSound_ok I hd C1.1 C1.2.1.1 mside))
    dsimp only at h2
    have C2 := FrSd_ctx CI0 C1 h2.2
    have e2 : m2 1 0 = nC mc := (CtL_of CI0 C2.1 C2.2.1).1
    rw [h2.1, e2]
    refine ok_ite (fun _ => ok_ite (fun h => ok_grd (by unfold InR; omega) ?_) (fun _ => fleetSound_ok I hd C2.1 C2.2.1.1 mside)) (fun q => absurd Int.one_ne_zero q)
    have ei : ((nC mc : Int) - 1) = ((nC mc - 1 : Nat) : Int) := by omega
    rw [ei]
    refine ok_bq2 (pairsSound_ok I hd C2 (by omega) (by omega)) (fun r m3 h3 => ?_)
    dsimp only at h3
    have C3 := FrPs_ctx CI0 C2 h3.2
    rw [h3.1]
    exact ok_ite (fun _ => fleetSound_ok I hd C3.1 C3.2.1.1 mside) (fun q => absurd Int.one_ne_zero q)
end SND
