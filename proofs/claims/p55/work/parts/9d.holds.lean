/-! ===== holds ===== -/
section HOL
variable {mc mm m : Mem}
theorem wp_needChange {t c o oc : Int} {P : (Unit ⊕ Nat) × Mem → Prop} (h0 : 0 ≤ o) (h1 : o < 24) (hl : InR (m 33 o.toNat - 1)) (p1 : t = o ∨ c = 0 ∨ oc = m 33 o.toNat - 1 → P (.inr 0, m)) (p2 : ¬ (t = o ∨ c = 0 ∨ oc = m 33 o.toNat - 1) → P (.inl (), m)) : Ok (C_needChange t c o oc m) P := by
  unfold C_needChange
  refine wp_bind (wp_needUnlike (fun h => ok_tbd_inr (p1 (Or.inl h))) (fun h => ok_tbd_inl (ok_grd ⟨fun _ => h0, fun _ => h1, fun _ => hl⟩ ?_)))
  exact ok_ite (fun h2 => ok_some (p1 (Or.inr h2))) (fun h2 => ok_some (p2 (by omega)))
noncomputable def M_holdsR (day_ trip_ call_ other_ otherCall_ : Int) (m_4 : Mem) : Option (Int × Mem) :=
          ltv (setM m_4 0 22 day_) fun m_5 =>
          grd (InR (8 * trip_) ∧ InR (8 * trip_ + call_) ∧ 0 ≤ 8 * trip_ + call_ ∧ 8 * trip_ + call_ < 192) <|
          ltv (m_5 7 (8 * trip_ + call_).toNat : Int) fun from_ =>
          grd (InR (8 * other_) ∧ InR (8 * other_ + otherCall_) ∧ 0 ≤ 8 * other_ + otherCall_ ∧ 8 * other_ + otherCall_ < 192) <|
          ltv (m_5 7 (8 * other_ + otherCall_).toNat : Int) fun to_ =>
          grd (InR (12 * from_) ∧ InR (12 * from_ + to_) ∧ 0 ≤ 12 * from_ + to_ ∧ 12 * from_ + to_ < 144) <|
          bq2 (M_isThrown (if 1000000 ≤ m_5 3 (12 * from_ + to_).toNat then 1 else 0) 4 m_5) fun r_8 m_6 =>
          if ¬ r_8 = 0 then
            some (0, m_6)
          else
            grd ((¬ (from_ = to_) → InR (12 * from_)) ∧ (¬ (from_ = to_) → InR (12 * from_ + to_)) ∧ (¬ (from_ = to_) → 0 ≤ 12 * from_ + to_) ∧ (¬ (from_ = to_) → 12 * from_ + to_ < 144) ∧ ((from_ = to_) → 0 ≤ from_) ∧ ((from_ = to_) → from_ < 12)) <|
            ltv ((if from_ = to_ then m_6 1 from_.toNat else m_6 3 (12 * from_ + to_).toNat) : Int) fun minutes_ =>
            grd (InR (24 + trip_)) <|
            (M_comesAt (24 + trip_) call_ m_6).bind fun r_9 =>
            grd (InR (r_9 + minutes_) ∧ InR (24 + other_)) <|
            (M_leavesAt (24 + other_) otherCall_ m_6).bind fun r_10 =>
            if r_9 + minutes_ ≤ r_10 then
              some (1, m_6)
            else
              some (0, m_6)
theorem run0 {day : Int} {t : Nat} (I : CI mc) (ht : (t : Int) < mc 31 0) (hd : 0 ≤ day ∧ day ≤ 27) (hb : bit (mc 30 (mc 32 t).toNat) day.toNat = 1) : isQ mc day (24 + t) ∧ qd (24 + t) = 0 ∧ (24 + t) % 24 = t := by
  have tt := CI_t I
  have qt : (24 + t) % 24 = t := by omega
  have q0 : qd (24 + t) = 0 := by unfold qd; omega
  refine ⟨?_, q0, qt⟩
  unfold isQ
  rw [qt, q0]
  exact ⟨by omega, by omega, by omega, by rw [Int.add_zero]; exact hb⟩
theorem st_holds : ST_holds Inv := by
  intro mc mm p0 p1 p2 p3 p4 I _ _ _ _ _
  obtain ⟨i1, i2, i3, -⟩ := id I.1
  obtain ⟨t1, t2, t3, t4⟩ := id I.2.2.1
  have CI0 : CI mc := ⟨_, I⟩
  have n := CI_n CI0
  refine ag_of ?_
  by_cases h1 : 0 ≤ p1 ∧ p1 < mc 31 0 ∧ 0 ≤ p2 ∧ p2 < mc 33 p1.toNat
  case neg =>
    unfold C_holds
    refine wp_bind (wp_needCall t3 (fun _ => ok_tbd_inr ?_) (fun _ _ _ _ => by omega))
    unfold M_holds
    refine wp_bq2 (wp_isNoCall (by omega) (by omega) (fun a b => by have := IT_get I.2.2.1 a (by omega); omega) (fun _ => ?_) (fun a b c d => by have := IT_get I.2.2.1 a (by omega); omega))
    repeat' (first
    | with_reducible refine ok_ltv ?_
    | with_reducible refine ok_tbd_inl ?_
    | with_reducible refine ok_tbd_inr ?_
    | with_reducible refine wp_bind ?_
    | with_reducible refine wp_bq1 ?_
    | with_reducible refine wp_bq2 ?_
    | (with_reducible refine wp_needNumber (fun _ => ?_) (fun _ _ => ?_)) <;> (try (exfalso; omega))
    | (with_reducible refine wp_needDay (fun _ => ?_) (fun _ _ => ?_)) <;> (try (exfalso; omega))
    | (with_reducible refine wp_needStop (fun _ => ?_) (fun _ _ => ?_)) <;> (try (exfalso; omega))
    | (with_reducible refine wp_needService (fun _ => ?_) (fun _ _ => ?_)) <;> (try (exfalso; omega))
    | (with_reducible refine wp_needTrip (fun _ => ?_) (fun _ _ => ?_)) <;> (try (exfalso; omega))
    | (with_reducible refine wp_needCall (by omega) (fun _ => ?_) (fun _ _ _ _ => ?_)) <;> (try (exfalso; omega))
    | (with_reducible refine wp_needUnlike (fun _ => ?_) (fun _ => ?_)) <;> (try (exfalso; omega))
    | (with_reducible refine wp_needFound (fun _ => ?_) (fun _ => ?_)) <;> (try (exfalso; omega))
    | (with_reducible refine wp_needRoomForTrip (fun _ => ?_) (fun _ => ?_)) <;> (try (exfalso; omega))
    | (with_reducible refine wp_needRoomForSigns (by unfold InR; omega) (fun _ => ?_) (fun _ => ?_)) <;> (try (exfalso; omega))
    | (with_reducible refine wp_isNoStop (by (try simp (disch := omega) only [setM_ne, setM_hit, true_and, and_true]); omega) (by (try simp (disch := omega) only [setM_ne, setM_hit, true_and, and_true]); omega) (fun h => ?_) (fun h1 h2 => ?_)) <;> (try simp (disch := omega) only [setM_ne, setM_hit, true_and, and_true] at h) <;> (try simp (disch := omega) only [setM_ne, setM_hit, true_and, and_true] at h1) <;> (try simp (disch := omega) only [setM_ne, setM_hit, true_and, and_true] at h2) <;> (try (exfalso; omega))
    | (with_reducible refine wp_isNoService (by (try simp (disch := omega) only [setM_ne, setM_hit, true_and, and_true]); omega) (by (try simp (disch := omega) only [setM_ne, setM_hit, true_and, and_true]); omega) (fun h => ?_) (fun h1 h2 => ?_)) <;> (try simp (disch := omega) only [setM_ne, setM_hit, true_and, and_true] at h) <;> (try simp (disch := omega) only [setM_ne, setM_hit, true_and, and_true] at h1) <;> (try simp (disch := omega) only [setM_ne, setM_hit, true_and, and_true] at h2) <;> (try (exfalso; omega))
    | (with_reducible refine wp_isNoTrip (by (try simp (disch := omega) only [setM_ne, setM_hit, true_and, and_true]); omega) (by (try simp (disch := omega) only [setM_ne, setM_hit, true_and, and_true]); omega) (fun h => ?_) (fun h1 h2 => ?_)) <;> (try simp (disch := omega) only [setM_ne, setM_hit, true_and, and_true] at h) <;> (try simp (disch := omega) only [setM_ne, setM_hit, true_and, and_true] at h1) <;> (try simp (disch := omega) only [setM_ne, setM_hit, true_and, and_true] at h2) <;> (try (exfalso; omega))
    | (with_reducible refine wp_isNoDay (fun h => ?_) (fun h1 h2 => ?_)) <;> (try (exfalso; omega))
    | with_reducible refine wp_isThrown1 ?_
    | with_reducible refine wp_isThrown0 ?_
    | (with_reducible refine wp_isThrownI (fun h => ?_) (fun h => ?_)) <;> (try simp (disch := omega) only [setM_ne, setM_hit, true_and, and_true] at h) <;> (try simp only [isIn0] at h) <;> (try (exfalso; omega))
    | with_reducible refine ok_grd (by (try simp (disch := omega) only [setM_ne, setM_hit, true_and, and_true]); (try unfold InR); omega) ?_
    | (with_reducible refine ok_some ?_) <;> (try dsimp only)
    | (with_reducible refine ok_ite (fun h => ?_) (fun h => ?_)) <;> (try dsimp only at h) <;> (try simp (disch := omega) only [setM_ne, setM_hit, true_and, and_true] at h) <;> (try simp only [isIn0, i01] at h) <;> (try (exfalso; first | exact h trivial | omega)))
    (refine agp_er ?_ ?_ ?_); decide; (first | (rw [setM_same]; rfl) | (dsimp only; simp (disch := omega) only [setM_ne, setM_hit, true_and, and_true]; rfl))
    repeat (first | exact I | with_reducible refine Inv_thr ?_ _)
  case pos =>
    have g1 := IT_get I.2.2.1 h1.1 h1.2.1
    have c1 := IT_getc I.2.2.1 h1.1 h1.2.1 h1.2.2.1 h1.2.2.2
    by_cases h2 : 0 ≤ p3 ∧ p3 < mc 31 0 ∧ 0 ≤ p4 ∧ p4 < mc 33 p3.toNat
    case neg =>
      unfold C_holds
      refine wp_bind (wp_needCall t3 (fun _ => by omega) (fun _ _ _ _ => ok_tbd_inl ?_))
      refine wp_bind (wp_needCall t3 (fun _ => ok_tbd_inr ?_) (fun _ _ _ _ => by omega))
      unfold M_holds
      refine wp_bq2 (wp_isNoCall (by omega) (by omega) (fun a b => by have := IT_get I.2.2.1 a (by omega); omega) (fun _ => by omega) (fun _ _ _ _ => ?_))
      refine ok_ite (fun q => absurd rfl q) (fun _ => ?_)
      refine wp_bq2 (wp_isNoCall (by (try dsimp only); (first | omega | (simp (disch := omega) only [setM_ne, setM_hit, true_and, and_true]; done) | (simp (disch := omega) only [setM_ne, setM_hit, true_and, and_true]; omega))) (by (try dsimp only); (first | omega | (simp (disch := omega) only [setM_ne, setM_hit, true_and, and_true]; done) | (simp (disch := omega) only [setM_ne, setM_hit, true_and, and_true]; omega))) (fun a b => by dsimp only at b ⊢; simp (disch := omega) only [setM_ne, setM_hit, true_and, and_true] at b; simp (disch := omega) only [setM_ne, setM_hit, true_and, and_true]; have := IT_get I.2.2.1 a (by omega); omega) (fun _ => ?_) (fun a b c d => by exfalso; dsimp only at b d; simp (disch := omega) only [setM_ne, setM_hit, true_and, and_true] at b; simp (disch := omega) only [setM_ne, setM_hit, true_and, and_true] at d; have := IT_get I.2.2.1 a (by omega); omega))
      repeat' (first
    | with_reducible refine ok_ltv ?_
    | with_reducible refine ok_tbd_inl ?_
    | with_reducible refine ok_tbd_inr ?_
    | with_reducible refine wp_bind ?_
    | with_reducible refine wp_bq1 ?_
    | with_reducible refine wp_bq2 ?_
    | (with_reducible refine wp_needNumber (fun _ => ?_) (fun _ _ => ?_)) <;> (try (exfalso; omega))
    | (with_reducible refine wp_needDay (fun _ => ?_) (fun _ _ => ?_)) <;> (try (exfalso; omega))
    | (with_reducible refine wp_needStop (fun _ => ?_) (fun _ _ => ?_)) <;> (try (exfalso; omega))
    | (with_reducible refine wp_needService (fun _ => ?_) (fun _ _ => ?_)) <;> (try (exfalso; omega))
    | (with_reducible refine wp_needTrip (fun _ => ?_) (fun _ _ => ?_)) <;> (try (exfalso; omega))
    | (with_reducible refine wp_needCall (by omega) (fun _ => ?_) (fun _ _ _ _ => ?_)) <;> (try (exfalso; omega))
    | (with_reducible refine wp_needUnlike (fun _ => ?_) (fun _ => ?_)) <;> (try (exfalso; omega))
    | (with_reducible refine wp_needFound (fun _ => ?_) (fun _ => ?_)) <;> (try (exfalso; omega))
    | (with_reducible refine wp_needRoomForTrip (fun _ => ?_) (fun _ => ?_)) <;> (try (exfalso; omega))
    | (with_reducible refine wp_needRoomForSigns (by unfold InR; omega) (fun _ => ?_) (fun _ => ?_)) <;> (try (exfalso; omega))
    | (with_reducible refine wp_isNoStop (by (try simp (disch := omega) only [setM_ne, setM_hit, true_and, and_true]); omega) (by (try simp (disch := omega) only [setM_ne, setM_hit, true_and, and_true]); omega) (fun h => ?_) (fun h1 h2 => ?_)) <;> (try simp (disch := omega) only [setM_ne, setM_hit, true_and, and_true] at h) <;> (try simp (disch := omega) only [setM_ne, setM_hit, true_and, and_true] at h1) <;> (try simp (disch := omega) only [setM_ne, setM_hit, true_and, and_true] at h2) <;> (try (exfalso; omega))
    | (with_reducible refine wp_isNoService (by (try simp (disch := omega) only [setM_ne, setM_hit, true_and, and_true]); omega) (by (try simp (disch := omega) only [setM_ne, setM_hit, true_and, and_true]); omega) (fun h => ?_) (fun h1 h2 => ?_)) <;> (try simp (disch := omega) only [setM_ne, setM_hit, true_and, and_true] at h) <;> (try simp (disch := omega) only [setM_ne, setM_hit, true_and, and_true] at h1) <;> (try simp (disch := omega) only [setM_ne, setM_hit, true_and, and_true] at h2) <;> (try (exfalso; omega))
    | (with_reducible refine wp_isNoTrip (by (try simp (disch := omega) only [setM_ne, setM_hit, true_and, and_true]); omega) (by (try simp (disch := omega) only [setM_ne, setM_hit, true_and, and_true]); omega) (fun h => ?_) (fun h1 h2 => ?_)) <;> (try simp (disch := omega) only [setM_ne, setM_hit, true_and, and_true] at h) <;> (try simp (disch := omega) only [setM_ne, setM_hit, true_and, and_true] at h1) <;> (try simp (disch := omega) only [setM_ne, setM_hit, true_and, and_true] at h2) <;> (try (exfalso; omega))
    | (with_reducible refine wp_isNoDay (fun h => ?_) (fun h1 h2 => ?_)) <;> (try (exfalso; omega))
    | with_reducible refine wp_isThrown1 ?_
    | with_reducible refine wp_isThrown0 ?_
    | (with_reducible refine wp_isThrownI (fun h => ?_) (fun h => ?_)) <;> (try simp (disch := omega) only [setM_ne, setM_hit, true_and, and_true] at h) <;> (try simp only [isIn0] at h) <;> (try (exfalso; omega))
    | with_reducible refine ok_grd (by (try simp (disch := omega) only [setM_ne, setM_hit, true_and, and_true]); (try unfold InR); omega) ?_
    | (with_reducible refine ok_some ?_) <;> (try dsimp only)
    | (with_reducible refine ok_ite (fun h => ?_) (fun h => ?_)) <;> (try dsimp only at h) <;> (try simp (disch := omega) only [setM_ne, setM_hit, true_and, and_true] at h) <;> (try simp only [isIn0, i01] at h) <;> (try (exfalso; first | exact h trivial | omega)))
      (refine agp_er ?_ ?_ ?_); decide; (first | (rw [setM_same]; rfl) | (dsimp only; simp (disch := omega) only [setM_ne, setM_hit, true_and, and_true]; rfl))
      repeat (first | exact I | with_reducible refine Inv_thr ?_ _)
    case pos =>
      have g2 := IT_get I.2.2.1 h2.1 h2.2.1
      have c2 := IT_getc I.2.2.1 h2.1 h2.2.1 h2.2.2.1 h2.2.2.2
      have sv1 := Inv_sv I h1.1 h1.2.1
      have sv2 := Inv_sv I h2.1 h2.2.1
      have mside : ∀ P : Int × Mem → Prop, ((p0 < 0 ∨ 27 < p0 ∨ p1 = p3 ∨ p2 = 0 ∨ p4 = mc 33 p3.toNat - 1) → ∀ mm', Inv mc mm' → mm' 0 0 = 2 → P (0, mm')) → (0 ≤ p0 → p0 ≤ 27 → ¬ (p1 = p3 ∨ p2 = 0 ∨ p4 = mc 33 p3.toNat - 1) → (bit (mc 30 (mc 32 p1.toNat).toNat) p0.toNat = 0 ∨ bit (mc 30 (mc 32 p3.toNat).toNat) p0.toNat = 0) → ∀ mm', Inv mc mm' → mm' 0 0 = 3 → P (0, mm')) → (0 ≤ p0 → p0 ≤ 27 → ¬ (p1 = p3 ∨ p2 = 0 ∨ p4 = mc 33 p3.toNat - 1) → bit (mc 30 (mc 32 p1.toNat).toNat) p0.toNat = 1 → bit (mc 30 (mc 32 p3.toNat).toNat) p0.toNat = 1 → ∀ mm', Inv mc mm' → mm' 0 0 = 0 → Ok (M_holdsR p0 p1 p2 p3 p4 mm') P) → Ok (M_holds p0 p1 p2 p3 p4 mm) P := by
        intro P hP1 hP2 hP3
        unfold M_holds
        refine wp_bq2 (wp_isNoCall (by omega) (by omega) (fun a b => by have := IT_get I.2.2.1 a (by omega); omega) (fun _ => by omega) (fun _ _ _ _ => ?_))
        refine ok_ite (fun q => absurd rfl q) (fun _ => ?_)
        refine wp_bq2 (wp_isNoCall (by (try dsimp only); (first | omega | (simp (disch := omega) only [setM_ne, setM_hit, true_and, and_true]; done) | (simp (disch := omega) only [setM_ne, setM_hit, true_and, and_true]; omega))) (by (try dsimp only); (first | omega | (simp (disch := omega) only [setM_ne, setM_hit, true_and, and_true]; done) | (simp (disch := omega) only [setM_ne, setM_hit, true_and, and_true]; omega))) (fun a b => by dsimp only at b ⊢; simp (disch := omega) only [setM_ne, setM_hit, true_and, and_true] at b; simp (disch := omega) only [setM_ne, setM_hit, true_and, and_true]; have := IT_get I.2.2.1 a (by omega); omega) (fun _ => by exfalso; dsimp only at *; simp (disch := omega) only [setM_ne, setM_hit, true_and, and_true] at *; omega) (fun _ _ _ _ => ?_))
        refine ok_ite (fun q => absurd rfl q) (fun _ => ?_)
        have J : Inv mc (setM (setM mm 0 0 0) 0 0 0) := by repeat (first | exact I | with_reducible refine Inv_thr ?_ _)
        obtain ⟨m3, hm3⟩ : ∃ m3, m3 = setM (setM mm 0 0 0) 0 0 0 := ⟨_, rfl⟩
        dsimp only
        rw [← hm3] at J ⊢
        have ga := IT_get J.2.2.1 h1.1 h1.2.1
        have gb := IT_get J.2.2.1 h2.1 h2.2.1
        refine ok_ltv (ok_ite (fun h => ?_) (fun h => ?_))
        · rw [isIn0] at h
          exact wp_bq2 (wp_isThrown1 (ok_ite (fun _ => ok_some (hP1 (by omega) _ (Inv_thr J _) (by dsimp only; exact setM_same _ _ _ _))) (fun q => absurd Int.one_ne_zero q)))
        · rw [isIn0] at h
          unfold M_isChangeWrong
          refine wp_bind (ok_grd (by unfold InR; omega) (ok_some ?_))
          rw [gb.2.2.2.1]
          by_cases hw : ((p1 = p3) ∨ (p2 = 0)) ∨ (p4 = mc 33 p3.toNat - 1)
          · rw [if_pos hw]
            exact ok_ite (fun _ => wp_bq2 (wp_isThrown1 (ok_ite (fun _ => ok_some (hP1 (by omega) _ (Inv_thr J _) (by dsimp only; exact setM_same _ _ _ _))) (fun q => absurd Int.one_ne_zero q)))) (fun q => absurd Int.one_ne_zero q)
          · rw [if_neg hw]
            refine ok_ite (fun q => absurd rfl q) (fun _ => wp_bq2 (wp_isThrown0 (ok_ite (fun q => absurd rfl q) (fun _ => ok_ltv ?_))))
            have J2 := Inv_thr J 0
            obtain ⟨m4, hm4⟩ : ∃ m4, m4 = setM m3 0 0 0 := ⟨_, rfl⟩
            dsimp only
            rw [← hm4] at J2 ⊢
            have ga2 := IT_get J2.2.2.1 h1.1 h1.2.1
            have gb2 := IT_get J2.2.2.1 h2.1 h2.2.1
            have ea := IV_getd J2.2.1 (s := mc 32 p1.toNat) (d := p0) sv1.1 sv1.2.1 (by omega) (by omega)
            have eb := IV_getd J2.2.1 (s := mc 32 p3.toNat) (d := p0) sv2.1 sv2.2.1 (by omega) (by omega)
            have za := bit_01 (mc 30 (mc 32 p1.toNat).toNat) p0.toNat
            have zb := bit_01 (mc 30 (mc 32 p3.toNat).toNat) p0.toNat
            unfold M_runs
            simp only [ga2.1, gb2.1, ea, eb]
            refine wp_bind (ok_grd (by unfold InR; omega) (ok_some (ok_ite (fun hz => wp_bind (ok_grd (by unfold InR; omega) (ok_some (ok_ite (fun hz2 => ?_) (fun hz2 => ?_))))) (fun hz => ?_))))
            · exact wp_bq2 (wp_isThrown0 (ok_ite (fun q => absurd rfl q) (fun _ => hP3 (by omega) (by omega) (by omega) (by omega) (by omega) _ (Inv_thr J2 _) (by dsimp only; exact setM_same _ _ _ _))))
            · exact wp_bq2 (wp_isThrown1 (ok_ite (fun _ => ok_some (hP2 (by omega) (by omega) (by omega) (by omega) _ (Inv_thr J2 _) (by dsimp only; exact setM_same _ _ _ _))) (fun q => absurd Int.one_ne_zero q)))
            · exact wp_bq2 (wp_isThrown1 (ok_ite (fun _ => ok_some (hP2 (by omega) (by omega) (by omega) (by omega) _ (Inv_thr J2 _) (by dsimp only; exact setM_same _ _ _ _))) (fun q => absurd Int.one_ne_zero q)))
      unfold C_holds
      refine wp_bind (wp_needCall t3 (fun _ => by omega) (fun _ _ _ _ => ok_tbd_inl ?_))
      refine wp_bind (wp_needCall t3 (fun _ => by omega) (fun _ _ _ _ => ok_tbd_inl ?_))
      refine wp_bind (wp_needDay (fun h => ok_tbd_inr ?_) (fun k3 k4 => ok_tbd_inl ?_))
      · refine mside _ (fun _ mm' J e => ?_) (fun _ _ => by omega) (fun _ _ => by omega)
        exact agp_er (by decide) (by rw [e]; rfl) J
      refine wp_bind (wp_needChange h2.1 (by omega) (by unfold InR; omega) (fun h => ok_tbd_inr ?_) (fun hn => ok_tbd_inl ?_))
      · refine mside _ (fun _ mm' J e => ?_) (fun _ _ q => absurd h q) (fun _ _ q => absurd h q)
        exact agp_er (by decide) (by rw [e]; rfl) J
      refine wp_bind (needRun_ok h1.1 (by omega) sv1.1 sv1.2.1 sv1.2.2 ⟨k3, k4⟩ (fun hb => ok_tbd_inr ?_) (fun hb => ok_tbd_inl ?_))
      · refine mside _ (fun q => by omega) (fun _ _ _ _ mm' J e => ?_) (fun _ _ _ q => by omega)
        exact agp_er (by decide) (by rw [e]; rfl) J
      refine wp_bind (needRun_ok h2.1 (by omega) sv2.1 sv2.2.1 sv2.2.2 ⟨k3, k4⟩ (fun hb2 => ok_tbd_inr ?_) (fun hb2 => ok_tbd_inl ?_))
      · refine mside _ (fun q => by omega) (fun _ _ _ _ mm' J e => ?_) (fun _ _ _ _ q => by omega)
        exact agp_er (by decide) (by rw [e]; rfl) J
      obtain ⟨t, rfl⟩ : ∃ t : Nat, p1 = t := ⟨p1.toNat, by omega⟩
      obtain ⟨c, rfl⟩ : ∃ c : Nat, p2 = c := ⟨p2.toNat, by omega⟩
      obtain ⟨o, rfl⟩ : ∃ o : Nat, p3 = o := ⟨p3.toNat, by omega⟩
      obtain ⟨oc, rfl⟩ : ∃ oc : Nat, p4 = oc := ⟨p4.toNat, by omega⟩
      simp only [Int.toNat_natCast] at hb hb2 h1 h2 hn g1 g2 c1 c2 ⊢
      have qa := run0 CI0 h1.2.1 ⟨k3, k4⟩ hb
      have qb := run0 CI0 h2.2.1 ⟨k3, k4⟩ hb2
      have la := CI_len CI0 qa.1.1
      have lb := CI_len CI0 qb.1.1
      rw [qa.2.2] at la
      rw [qb.2.2] at lb
      have ca := CI_call CI0 qa.1.1 (c := c) (by omega)
      have cb := CI_call CI0 qb.1.1 (c := oc) (by omega)
      rw [qa.2.2] at ca
      rw [qb.2.2] at cb
      have gA := CI_g CI0 ca.2.1
      have wb := CI_w (cut := -1) CI0 ca.2.1 cb.2.1
      obtain ⟨s, hs⟩ : ∃ s, s = stQ mc (24 + t) c := ⟨_, rfl⟩
      obtain ⟨s2, hs2⟩ : ∃ s2, s2 = stQ mc (24 + o) oc := ⟨_, rfl⟩
      rw [← hs] at ca gA wb
      rw [← hs2] at cb wb
      -- the minutes between
      obtain ⟨bt, hbt⟩ : ∃ bt : Int, bt = if s = s2 then mc 2 s else wC mc (-1) s s2 := ⟨_, rfl⟩
      have btb : 0 ≤ bt ∧ bt ≤ 1000000 := by rw [hbt]; split <;> omega
      have cm : Ok (C_minutesBetween (mc (35 + t) c) (mc (35 + o) oc) mc) (fun r => r.1 = bt ∧ Per mc r.2 ∧ r.2 1 4 = -1) := by
        unfold C_minutesBetween
        rw [ca.1, cb.1]
        refine ok_ite (fun h => ok_grd (by omega) (ok_some ⟨?_, fun _ _ _ => rfl, I.1.2.2.2.1⟩)) (fun h => ok_bind (linkP_ok (cut := -1) CI0 (Ctx_self I)) (fun m1 l => ok_grd (by omega) (ok_some ⟨?_, l.2.1, l.2.2.1⟩)))
        · dsimp only
          rw [hbt, if_pos (by omega), Int.toNat_natCast]
        · dsimp only
          rw [hbt, if_neg (by omega), Int.toNat_natCast, Int.toNat_natCast]
          exact l.2.2.2 _ _ ca.2.1 cb.2.1
      refine ok_grd (by omega) (ok_bq2 cm (fun b2 m7 hb7 => ok_ltv ?_))
      dsimp only at hb7
      obtain ⟨rfl, p7, e7⟩ := hb7
      have D := Per_D CI0 p7
      have lq1 := CI_late CI0 (d := p0) (t := (t : Int)) (c := (c : Int) - 1)
      have lq2 := CI_late CI0 (d := p0) (t := (o : Int)) (c := (oc : Int))
      have fnd : 1000000 ≤ b2 → wC mc (-1) s s2 = 1000000 ∧ ¬ s = s2 := fun h => by
        by_cases hh : s = s2
        · rw [if_pos hh] at hbt; omega
        · rw [if_neg hh] at hbt; exact ⟨by omega, hh⟩
      -- the reference's last part
      have mend : ∀ P : Int × Mem → Prop, ∀ mm', Inv mc mm' → mm' 0 0 = 0 → (1000000 ≤ b2 → ∀ m', Inv m7 m' → m' 0 0 = 4 → P (0, m')) → (b2 < 1000000 → ∀ m', Inv m7 m' → m' 0 0 = 0 → P (if mc (60 + t) c + lateC mc p0 t ((c : Int) - 1) + b2 ≤ mc (85 + o) oc + lateC mc p0 o oc then 1 else 0, m')) → Ok (M_holdsR p0 t c o oc mm') P := by
        intro P mm' J e0 hP1 hP2
        have rl := relM_set (day := p0) J
        have J2 : Inv m7 (setM mm' 0 22 p0) := Inv_end J p7 e7 (fun c i h => setM_ne (by unfold pM at h; omega))
        have ez : setM mm' 0 22 p0 0 0 = 0 := by rw [setM_ne (by omega)]; exact e0
        unfold M_holdsR
        refine ok_ltv ?_
        obtain ⟨m5, hm5⟩ : ∃ m5, m5 = setM mm' 0 22 p0 := ⟨_, rfl⟩
        rw [← hm5] at rl J2 ez ⊢
        have x1 := ((rl.2.2.2.2.1 t h1.2.1).2.2 c (by omega)).1
        have x2 := ((rl.2.2.2.2.1 o h2.2.1).2.2 oc (by omega)).1
        have e1 : (8 * (t : Int) + (c : Int)).toNat = 8 * t + c := by omega
        have e2 : (8 * (o : Int) + (oc : Int)).toNat = 8 * o + oc := by omega
        rw [e1, e2, x1, x2, ca.1, cb.1]
        refine ok_grd (by unfold InR; omega) (ok_ltv (ok_grd (by unfold InR; omega) (ok_ltv ?_)))
        have x3 := rl.2.2.1 s s2 ca.2.1 cb.2.1
        have e3 : (12 * (s : Int) + (s2 : Int)).toNat = 12 * s + s2 := by omega
        rw [e3, x3]
        refine ok_grd (by unfold InR; omega) (wp_bq2 (wp_isThrownI (fun h => ok_ite (fun _ => ok_some ?_) (fun q => absurd Int.one_ne_zero q)) (fun h => ok_ite (fun q => absurd rfl q) (fun _ => ?_))))
        · refine hP1 ?_ _ (Inv_thr J2 _) (by dsimp only; exact setM_same _ _ _ _)
          unfold dg at h
          by_cases hh : s = s2
          · rw [if_pos hh] at h; omega
          · rw [if_neg hh] at h
            rw [hbt, if_neg hh]
            exact h
        · have rl6 : RelM mc p0 (-1) 0 (-1) (setM m5 0 0 0) := RelM_fr rl (fun c i h => setM_ne (by unfold rM at h; omega))
          have J6 := Inv_thr J2 0
          have e6 : setM m5 0 0 0 0 0 = 0 := setM_same _ _ _ _
          obtain ⟨m6, hm6⟩ : ∃ m6, m6 = setM m5 0 0 0 := ⟨_, rfl⟩
          dsimp only
          rw [← hm6] at rl6 J6 e6 ⊢
          have y1 := rl6.2.1 s ca.2.1
          have y3 := rl6.2.2.1 s s2 ca.2.1 cb.2.1
          rw [Int.toNat_natCast, y1, y3]
          have em : (if (s : Int) = (s2 : Int) then mc 2 s else dg (wC mc (-1)) s s2) = b2 := by
            rw [hbt]
            unfold dg
            by_cases hh : s = s2
            · rw [if_pos hh, if_pos (by omega), if_pos hh]
            · rw [if_neg hh, if_neg (by omega), if_neg hh]
          rw [em]
          have cA := comesAt_ok (c := c) CI0 rl6 (by omega : 24 + t < 72) ⟨k3, k4⟩ (by omega) qa.1 (by omega)
          have cB := leavesAt_ok (c := oc) CI0 rl6 (by omega : 24 + o < 72) ⟨k3, k4⟩ (by omega) qb.1 (by omega)
          have ea : ((24 + t : Nat) : Int) = 24 + (t : Int) := by omega
          have eb : ((24 + o : Nat) : Int) = 24 + (o : Int) := by omega
          rw [ea] at cA
          rw [eb] at cB
          refine ok_grd (by unfold InR; omega) (ok_ltv (ok_grd (by unfold InR; omega) (ok_bind cA (fun va hva => ?_))))
          have hva2 : va = mc (60 + t) c + lateC mc p0 t ((c : Int) - 1) := by
            rw [hva]
            unfold arQ mvQ
            rw [qa.2.1, qa.2.2, if_neg (by omega)]
            simp only [Int.add_zero, Int.mul_zero]
          refine ok_grd (by unfold InR; omega) (ok_bind cB (fun vb hvb => ?_))
          have hvb2 : vb = mc (85 + o) oc + lateC mc p0 o oc := by
            rw [hvb]
            unfold lvQ mvQ
            rw [qb.2.1, qb.2.2, if_neg (by omega)]
            simp only [Int.add_zero, Int.mul_zero]
          have hlt : b2 < 1000000 := by
            unfold dg at h
            by_cases hh : s = s2
            · rw [if_pos hh] at hbt; omega
            · rw [if_neg hh] at h hbt
              omega
          have := hP2 hlt m6 J6 e6
          rw [← hva2, ← hvb2] at this
          refine ok_ite (fun q => ok_some ?_) (fun q => ok_some ?_)
          · rw [if_pos q] at this
            exact this
          · rw [if_neg q] at this
            exact this
      refine wp_bind (wp_needFound (fun hf => ok_tbd_inr ?_) (fun hf => ok_tbd_inl ?_))
      · refine mside _ (fun q => by exfalso; simp only [Int.toNat_natCast] at q; omega) (fun _ _ _ q => by exfalso; simp only [Int.toNat_natCast] at q; omega) (fun _ _ _ _ _ mm' J e => mend _ mm' J e (fun _ m' J' e' => ?_) (fun q => by omega))
        exact agp_er (by decide) (by rw [e']; rfl) J'
      · refine ok_bind (find_ok D.1 D.2.1) (fun ee he => ok_grd (by unfold InR; omega) (ok_bind (at_ok D.1 D.2.1 D.2.2 he) (fun v1 hv1 => ?_)))
        rw [Per_late p7] at hv1
        rw [p7 (60 + t) c ⟨by unfold pC; omega, by omega⟩, p7 (85 + o) oc ⟨by unfold pC; omega, by omega⟩]
        refine ok_grd (by unfold InR; omega) (ok_ltv (ok_bind (find_ok D.1 D.2.1) (fun ee2 he2 => ok_bind (at_ok D.1 D.2.1 D.2.2 he2) (fun v2 hv2 => ?_))))
        rw [Per_late p7] at hv2
        refine ok_grd (by unfold InR; omega) (ok_ltv (ok_grd (by unfold InR; omega) (ok_some ?_)))
        refine mside _ (fun q => by exfalso; simp only [Int.toNat_natCast] at q; omega) (fun _ _ _ q => by exfalso; simp only [Int.toNat_natCast] at q; omega) (fun _ _ _ _ _ mm' J e => mend _ mm' J e (fun q => by omega) (fun _ m' J' e' => ?_))
        rw [← hv1, ← hv2]
        exact agp_ok e' rfl J'
end HOL
