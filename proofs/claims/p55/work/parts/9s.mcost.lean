/-! ===== waits: the reference's cost ===== -/
section WAC
variable {mc mm m m0 ms : Mem} {day mask : Int}
theorem tellM_ok (I : Inv mc mm) (hd : 0 ≤ day ∧ day ≤ 27) : Ok (loop (fun s => M_costOf_b1 day s.1 s.2) ((0 : Int), mm)) (fun r => FrW mm r.2 ∧ ∀ t c : Nat, runT mc day t → c < lnT mc t → xM r.2 t c = lateC mc day t c) := by
  have CI0 : CI mc := ⟨_, I⟩
  have tt := CI_t CI0
  refine (ok_for0 (n := (mc 31 0).toNat) (fun k m => FrW mm m ∧ ∀ t c : Nat, runT mc day t → c < lnT mc t → t < k → xM m t c = lateC mc day t c) ⟨fun _ _ _ => rfl, fun t c _ _ h => by omega⟩ ?_ ?_).mono (fun r h => ⟨h.1, fun t c h1 h2 => h.2 t c h1 h2 (by have := h1.1; omega)⟩)
  · rintro k m hk ⟨f1, f2⟩
    have J : Inv mc m := Inv_fr I (fun _ _ _ => rfl) (fun c i q => f1 c i (by unfold pM at q; omega))
    have hk2 : (k : Int) < mc 31 0 := by omega
    have l := ln_of CI0 hk2
    unfold M_costOf_b1
    rw [J.2.2.1.1]
    refine ok_ite (fun _ => ok_ltv (ok_bq2 (ok_for0 (n := lnT mc k) (fun j m => FrW mm m ∧ (∀ t c : Nat, runT mc day t → c < lnT mc t → (t < k ∨ (t = k ∧ c < j)) → xM m t c = lateC mc day t c)) ⟨f1, fun t c h1 h2 h3 => f2 t c h1 h2 (by omega)⟩ ?_ ?_) (fun _ m2 h => ok_grd (by unfold InR; omega) (ok_ltv (ok_some ⟨_, rfl, h.1, fun t c h1 h2 h3 => h.2 t c h1 h2 ?_⟩))))) (fun h => by omega)
    · rintro j m hj ⟨g1, g2⟩
      have J : Inv mc m := Inv_fr I (fun _ _ _ => rfl) (fun c i q => g1 c i (by unfold pM at q; omega))
      have e6 : m 6 k = lnT mc k := by
        have := IT_get J.2.2.1 (t := k) (by omega) hk2
        rw [Int.toNat_natCast] at this
        rw [this.2.2.2.1]
        exact l.1
      have b01 := bit_01 (mc 30 (mc 32 k).toNat) day.toNat
      have ei : (8 * (k : Int) + (j : Int)).toNat = 8 * k + j := by omega
      have fin : ∀ v : Int, (bit (mc 30 (mc 32 k).toNat) day.toNat = 1 → v = lateC mc day k j) → Ok (ltv (setM m 29 (8 * k + j) v) fun m_3 => grd (InR ((j : Int) + 1)) <| ltv ((j : Int) + 1) fun c_3 => some (.inl (c_3, m_3) : (Int × Mem) ⊕ (Int × Mem))) (fun x => ∃ m', x = .inl ((j : Int) + 1, m') ∧ FrW mm m' ∧ (∀ t c : Nat, runT mc day t → c < lnT mc t → (t < k ∨ (t = k ∧ c < j + 1)) → xM m' t c = lateC mc day t c)) := by
        intro v hv
        refine ok_ltv (ok_grd (by unfold InR; omega) (ok_ltv (ok_some ⟨_, rfl, fun c i hc => ?_, fun t c h1 h2 h3 => ?_⟩)))
        · rw [setM_ne (by omega)]
          exact g1 c i hc
        · have l' := ln_of CI0 h1.1
          rw [xM_set (by omega) (by omega)]
          by_cases e : t = k ∧ c = j
          · rw [e.1] at h1
            rw [if_pos e, e.1, e.2]
            exact hv h1.2
          · rw [if_neg e]
            exact g2 t c h1 h2 (by omega)
      unfold M_costOf_b2
      rw [Int.toNat_natCast, e6, ei]
      refine ok_grd (by omega) (ok_ite (fun _ => ok_grd (by unfold InR; omega) (ok_ltv (ok_bind (runs_ok J hd hk2) (fun z hz => ok_ite (fun hz1 => ok_bind (lateOf_ok (by rw [J.2.2.2.1.1]; exact J.2.2.2.1.2.1) (by rw [J.2.2.2.1.1]; exact J.2.2.2.1.2.2.1) (ID_uniM J.2.2.2.1)) (fun v hv => ?_)) (fun hz1 => ?_))))) (fun h => by omega))
      · exact fin v (fun _ => by rw [hv]; exact late_eq J _ _ _)
      · exact fin 0 (fun q => by omega)
    · rintro m ⟨g1, -⟩
      have J : Inv mc m := Inv_fr I (fun _ _ _ => rfl) (fun c i q => g1 c i (by unfold pM at q; omega))
      have e6 : m 6 k = lnT mc k := by
        have := IT_get J.2.2.1 (t := k) (by omega) hk2
        rw [Int.toNat_natCast] at this
        rw [this.2.2.2.1]
        exact l.1
      unfold M_costOf_b2
      rw [Int.toNat_natCast, e6, grd_pos (by omega), if_neg (by omega)]
    · by_cases e : t = k
      · rw [e] at h2
        exact Or.inr ⟨e, h2⟩
      · exact Or.inl (by omega)
  · rintro m ⟨f1, -⟩
    have J : Inv mc m := Inv_fr I (fun _ _ _ => rfl) (fun c i q => f1 c i (by unfold pM at q; omega))
    unfold M_costOf_b1
    rw [J.2.2.1.1, if_neg (by omega)]
theorem costM_ok (I : Inv mc mm) (hd : 0 ≤ day ∧ day ≤ 27) : Ok (M_costOf day mask mm) (fun r => FrW mm r.2 ∧ ((∃ R, FixW mc day mask R ∧ UnW mc day mask R ∧ (∀ t c : Nat, runT mc day t → c < lnT mc t → 0 ≤ R t c ∧ R t c ≤ 240) ∧ r.1 = costW mc day mask R) ∨ (r.1 = -1 ∧ NoW mc day mask))) := by
  have CI0 : CI mc := ⟨_, I⟩
  have tt := CI_t CI0
  have w6 := I.2.2.2.2.2.2.2.2.1
  have w0 := I.2.2.2.2.2.2.2.1
  unfold M_costOf
  refine ok_ltv (ok_bq2 (tellM_ok I hd) (fun _ m5 h5 => ok_ltv ?_))
  dsimp only at h5
  have R0 : RiW mc day mask mm m5 := by
    refine ⟨h5.1, fun Y F t c h1 h2 => ?_, fun t c h1 h2 => ?_⟩
    · rw [h5.2 t c h1 h2]
      exact F.1 t c h1 h2
    · rw [h5.2 t c h1 h2]
      have := CI_late CI0 (d := day) (t := (t : Int)) (c := (c : Int))
      omega
  refine ok_br2 (Q := fun x => match x with | .inl y => RiW mc day mask mm y.2 ∧ FixW mc day mask (xM y.2) | .inr y => FrW mm y.2 ∧ y.1 = -1 ∧ NoW mc day mask) ?_ (fun _ m15 h => ?_) (fun y h => ok_some ⟨h.1, Or.inr h.2⟩)
  · refine ok_loop (fun s => RiW mc day mask mm s.2 ∧ (s.1 = 0 ∨ s.1 = 1) ∧ (s.1 = 0 → FixW mc day mask (xM s.2))) (fun s => 2 * muW s.2 + s.1.toNat) ⟨R0, Or.inr rfl, fun h => absurd (show (1 : Int) = 0 from h) (by decide)⟩ ?_
    rintro ⟨g, m⟩ ⟨R, g01, fx⟩
    dsimp only at R g01 fx ⊢
    unfold M_costOf_b3
    refine ok_ite (fun hg => ok_ltv (ok_ltv (ok_bq3 (pass_ok I hd R) (fun g2 _ m11 h => ok_ltv ?_)))) (fun hg => ok_some ⟨R, fx (by omega)⟩)
    dsimp only at h
    obtain ⟨R2, P2, mo⟩ := h
    refine ok_br3 (wishes_ok I hd R2 P2) (fun g3 _ m14 h => ok_some ?_) (fun y h => ok_some h)
    dsimp only at h
    obtain ⟨R3, P3, wo⟩ := h
    have p01 := P3.1
    refine ⟨⟨R3, p01, fun h0 => ?_⟩, ?_⟩
    · dsimp only at h0 ⊢
      have w := wo h0
      have same : xM m14 = xM m := by
        unfold xM
        rw [P3.2.1 h0]
      rw [same]
      exact ⟨fun t c h1 h2 => (R.2.2 t c h1 h2).1, mo w.1, w.2⟩
    · dsimp only
      have hg1 : g = 1 := by omega
      rcases p01 with q | q
      · have := P3.2.2.2
        rw [q, hg1]
        simp only [Int.toNat_zero]
        show 2 * muW m14 + 0 < 2 * muW m + 1
        omega
      · have := P3.2.2.1 q
        rw [q, hg1]
        omega
  · dsimp only at h
    obtain ⟨R, F⟩ := h
    have J : Inv mc m15 := Inv_fr I (fun _ _ _ => rfl) (fun c i q => R.1 c i (by unfold pM at q; omega))
    have bd : ∀ t c : Nat, runT mc day t → c < lnT mc t → 0 ≤ xM m15 t c ∧ xM m15 t c ≤ 240 := fun t c h1 h2 => by
      have := R.2.2 t c h1 h2
      have := CI_late CI0 (d := day) (t := (t : Int)) (c := (c : Int))
      omega
    refine ok_ltv (ok_ltv (ok_bq2 (Q := fun (s : Int × Int) => s.1 = sI (fun t => if 1 < mc 33 t ∧ bit (mc 30 (mc 32 t).toNat) day.toNat = 1 then xM m15 t (lnT mc t - 2) else 0) (mc 31 0).toNat) ?_ (fun s7 _ h7 => ok_ltv (ok_bq2 (Q := fun (s : Int × Int) => s.1 = costW mc day mask (xM m15)) ?_ (fun _ _ h => ok_some ⟨R.1, Or.inl ⟨_, F, R.2.1, bd, h⟩⟩)))))
    · refine ok_loop (fun s => ∃ k : Nat, s.2 = k ∧ (k : Int) ≤ mc 31 0 ∧ 0 ≤ s.1 ∧ s.1 ≤ 240 * k ∧ s.1 = sI (fun t => if 1 < mc 33 t ∧ bit (mc 30 (mc 32 t).toNat) day.toNat = 1 then xM m15 t (lnT mc t - 2) else 0) k) (fun s => (mc 31 0 - s.2).toNat) ⟨0, rfl, by omega, Int.le_refl _, Int.le_refl _, rfl⟩ ?_
      rintro ⟨s, kk⟩ ⟨k, a1, a2, a3, a4, a5⟩
      dsimp only at a1 a3 a4 a5 ⊢
      subst a1
      unfold M_costOf_b7
      rw [J.2.2.1.1]
      refine ok_ite (fun hk => ok_ltv ?_) (fun hk => ok_some ?_)
      · have l := ln_of CI0 hk
        have b01 := bit_01 (mc 30 (mc 32 k).toNat) day.toNat
        have e6 : m15 6 k = lnT mc k := by
          have := IT_get J.2.2.1 (t := k) (by omega) hk
          rw [Int.toNat_natCast] at this
          rw [this.2.2.2.1]
          exact l.1
        have fin : ∀ v : Int, (v = if 1 < mc 33 k ∧ bit (mc 30 (mc 32 k).toNat) day.toNat = 1 then xM m15 k (lnT mc k - 2) else 0) → Ok (grd (InR (s + v)) <| ltv (s + v : Int) fun cost_3 => grd (InR ((k : Int) + 1)) <| ltv ((k : Int) + 1) fun t_11 => some (.inl (cost_3, t_11) : (Int × Int) ⊕ (Int × Int))) (fun x => ∃ y : Int × Int, x = .inl y ∧ (∃ k : Nat, y.2 = k ∧ (k : Int) ≤ mc 31 0 ∧ 0 ≤ y.1 ∧ y.1 ≤ 240 * k ∧ y.1 = sI (fun t => if 1 < mc 33 t ∧ bit (mc 30 (mc 32 t).toNat) day.toNat = 1 then xM m15 t (lnT mc t - 2) else 0) k) ∧ (mc 31 0 - y.2).toNat < (mc 31 0 - (k : Int)).toNat) := by
          intro v hv
          have vb : 0 ≤ v ∧ v ≤ 240 := by
            rw [hv]
            split
            · rename_i q
              exact bd k _ ⟨hk, q.2⟩ (by omega)
            · omega
          refine ok_grd (by unfold InR; omega) (ok_ltv (ok_grd (by unfold InR; omega) (ok_ltv (ok_some ⟨_, rfl, ⟨k + 1, by dsimp only; omega, by omega, by dsimp only; omega, by dsimp only; omega, ?_⟩, by dsimp only; omega⟩))))
          dsimp only [sI]
          rw [← hv, a5]
        refine ok_bind (runs_ok J hd hk) (fun z hz => ok_ite (fun hz1 => ?_) (fun hz1 => ?_))
        · rw [Int.toNat_natCast, e6]
          refine ok_grd (by omega) (ok_ite (fun h1 => ok_grd (by unfold InR; omega) ?_) (fun h1 => ?_))
          · have ei : (8 * (k : Int) + (lnT mc k : Int) - 2).toNat = 8 * k + (lnT mc k - 2) := by omega
            rw [ei]
            refine Ok.mono (fin (m15 29 (8 * k + (lnT mc k - 2))) (by rw [if_pos ⟨by omega, by omega⟩]; rfl)) (fun x hx => ?_)
            obtain ⟨y, rfl, y1, y2⟩ := hx
            exact ⟨y1, y2⟩
          · refine Ok.mono (fin 0 (by rw [if_neg (by omega)])) (fun x hx => ?_)
            obtain ⟨y, rfl, y1, y2⟩ := hx
            exact ⟨y1, y2⟩
        · refine Ok.mono (fin 0 (by rw [if_neg (by omega)])) (fun x hx => ?_)
          obtain ⟨y, rfl, y1, y2⟩ := hx
          exact ⟨y1, y2⟩
      · have : k = (mc 31 0).toNat := by omega
        rw [← this]
        exact a5
    · have b7 := sI_bd (h := fun t => if 1 < mc 33 t ∧ bit (mc 30 (mc 32 t).toNat) day.toNat = 1 then xM m15 t (lnT mc t - 2) else 0) (z := 240) (by omega) (n := (mc 31 0).toNat) (fun t ht => by
        (try dsimp only)
        by_cases z : 1 < mc 33 t ∧ bit (mc 30 (mc 32 t).toNat) day.toNat = 1
        · rw [if_pos z]
          exact bd t _ ⟨by omega, z.2⟩ (by unfold lnT; omega)
        · rw [if_neg z]
          omega)
      have b7' : (((mc 31 0).toNat : Nat) : Int) * 240 ≤ 24 * 240 := Int.mul_le_mul_of_nonneg_right (by omega) (by omega)
      dsimp only at h7
      rw [← h7] at b7
      refine ok_loop (fun s => ∃ k : Nat, s.2 = k ∧ (k : Int) ≤ mc 400 4 ∧ 0 ≤ s.1 ∧ s.1 ≤ 5760 + 5940 * k ∧ s.1 = s7 + sI (fun w => @ite _ (jiand (jishr mask w) 1 = 0 ∧ cntW mc day w ∧ xM m15 (owN mc w) (nwN mc w) < ndW mc (xM m15) w) (Classical.propDecidable _) (60 * mc 405 w) 0) k) (fun s => (mc 400 4 - s.2).toNat) ⟨0, rfl, by omega, by dsimp only; omega, by dsimp only; omega, by dsimp only [sI]; omega⟩ ?_
      rintro ⟨s, kk⟩ ⟨k, a1, a2, a3, a4, a5⟩
      dsimp only at a1 a3 a4 a5 ⊢
      subst a1
      unfold M_costOf_b8
      rw [J.2.2.2.2.2.2.1]
      refine ok_ite (fun hk => ok_ltv ?_) (fun hk => ok_some ?_)
      · have f := wish_facts CI0 hk
        have a := J.2.2.2.2.2.2.2.2.2 k hk
        have fin : ∀ v : Int, ((v = 1 ∧ jiand (jishr mask k) 1 = 0 ∧ cntW mc day k ∧ xM m15 (owN mc k) (nwN mc k) < ndW mc (xM m15) k) ∨ (v = 0 ∧ ¬ (jiand (jishr mask k) 1 = 0 ∧ cntW mc day k ∧ xM m15 (owN mc k) (nwN mc k) < ndW mc (xM m15) k))) → Ok (ltv (v : Int) fun isMissed_ => grd (((¬ isMissed_ = 0) → 0 ≤ (k : Int)) ∧ ((¬ isMissed_ = 0) → (k : Int) < 6) ∧ ((¬ isMissed_ = 0) → InR (60 * (m15 28 ((k : Int)).toNat))) ∧ InR (s + (if ¬ isMissed_ = 0 then 60 * (m15 28 ((k : Int)).toNat) else 0))) <| ltv (s + (if ¬ isMissed_ = 0 then 60 * (m15 28 ((k : Int)).toNat) else 0) : Int) fun cost_6 => grd (InR ((k : Int) + 1)) <| ltv ((k : Int) + 1) fun w_10 => some (.inl (cost_6, w_10) : (Int × Int) ⊕ (Int × Int))) (fun x => ∃ y : Int × Int, x = .inl y ∧ (∃ k : Nat, y.2 = k ∧ (k : Int) ≤ mc 400 4 ∧ 0 ≤ y.1 ∧ y.1 ≤ 5760 + 5940 * k ∧ y.1 = s7 + sI (fun w => @ite _ (jiand (jishr mask w) 1 = 0 ∧ cntW mc day w ∧ xM m15 (owN mc w) (nwN mc w) < ndW mc (xM m15) w) (Classical.propDecidable _) (60 * mc 405 w) 0) k) ∧ (mc 400 4 - y.2).toNat < (mc 400 4 - (k : Int)).toNat) := by
          intro v hv
          rw [Int.toNat_natCast, a.2.2.2.2.1]
          rcases hv with ⟨rfl, hv⟩ | ⟨rfl, hv⟩
          · refine ok_ltv (ok_grd ⟨fun _ => by omega, fun _ => by omega, fun _ => by unfold InR; omega, ?_⟩ (ok_ltv (ok_grd (by unfold InR; omega) (ok_ltv (ok_some ⟨_, rfl, ⟨k + 1, by dsimp only; omega, by omega, ?_, ?_, ?_⟩, by dsimp only; omega⟩)))))
            · rw [if_pos (by decide)]
              unfold InR
              omega
            · dsimp only
              rw [if_pos (by decide)]
              omega
            · dsimp only
              rw [if_pos (by decide)]
              omega
            · dsimp only [sI]
              rw [if_pos (by decide), if_pos hv, a5]
              omega
          · refine ok_ltv (ok_grd ⟨fun _ => by omega, fun _ => by omega, fun _ => by unfold InR; omega, ?_⟩ (ok_ltv (ok_grd (by unfold InR; omega) (ok_ltv (ok_some ⟨_, rfl, ⟨k + 1, by dsimp only; omega, by omega, ?_, ?_, ?_⟩, by dsimp only; omega⟩)))))
            · rw [if_neg (by decide)]
              unfold InR
              omega
            · dsimp only
              rw [if_neg (by decide)]
              omega
            · dsimp only
              rw [if_neg (by decide)]
              omega
            · dsimp only [sI]
              rw [if_neg (by decide), if_neg hv, a5]
              omega
        refine ok_ite (fun hmask => ok_bind (counts_ok J hd hk) (fun z hz => ok_ite (fun hz1 => ?_) (fun hz1 => ?_))) (fun hmask => ?_)
        · have hc : cntW mc day k := by
            rcases hz with hz | hz
            · exact hz.2
            · exact absurd hz.1 hz1
          have rs := bd (twN mc k) (cwN mc k - 1) hc.1 (by omega)
          refine ok_bind (missedBy_ok J hk (by omega)) (fun y hy => ?_)
          subst hy
          rw [Int.toNat_natCast, a.2.2.1, a.2.2.2.1, f.2.2.2.2.2.2.2.1, f.2.2.2.2.2.2.2.2.2.2.1]
          have ei : (8 * (owN mc k : Int) + (nwN mc k : Int)).toNat = 8 * owN mc k + nwN mc k := by omega
          rw [ei]
          have ex : m15 29 (8 * owN mc k + nwN mc k) = xM m15 (owN mc k) (nwN mc k) := rfl
          rw [ex]
          refine ok_grd (by unfold InR; omega) (ok_ite (fun hlt => ?_) (fun hlt => ?_))
          · refine Ok.mono (fin 1 (Or.inl ⟨rfl, hmask, hc, hlt⟩)) (fun x hx => ?_)
            obtain ⟨y, rfl, y1, y2⟩ := hx
            exact ⟨y1, y2⟩
          · refine Ok.mono (fin 0 (Or.inr ⟨rfl, fun q => hlt q.2.2⟩)) (fun x hx => ?_)
            obtain ⟨y, rfl, y1, y2⟩ := hx
            exact ⟨y1, y2⟩
        · have hc : ¬ cntW mc day k := by
            rcases hz with hz | hz
            · exact absurd hz.1 (fun q => hz1 (by omega))
            · exact hz.2
          refine Ok.mono (fin 0 (Or.inr ⟨rfl, fun q => hc q.2.1⟩)) (fun x hx => ?_)
          obtain ⟨y, rfl, y1, y2⟩ := hx
          exact ⟨y1, y2⟩
        · refine Ok.mono (fin 0 (Or.inr ⟨rfl, fun q => hmask q.1⟩)) (fun x hx => ?_)
          obtain ⟨y, rfl, y1, y2⟩ := hx
          exact ⟨y1, y2⟩
      · have : k = (mc 400 4).toNat := by omega
        dsimp only
        rw [a5, h7]
        unfold costW
        rw [this]
end WAC
