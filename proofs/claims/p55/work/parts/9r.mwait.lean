/-! ===== waits: the reference ===== -/
def xM (m : Mem) : Nat → Nat → Int := fun t c => m 29 (8 * t + c)
def muW (m : Mem) : Nat := muN (fun i => 240 - m 29 i) 192
def FrW (m0 m : Mem) : Prop := ∀ c i, ¬ c = 29 → m c i = m0 c i
def RiW (mc : Mem) (day mask : Int) (mm m : Mem) : Prop := FrW mm m ∧ UnW mc day mask (xM m) ∧ ∀ t c : Nat, runT mc day t → c < lnT mc t → lateC mc day t c ≤ xM m t c ∧ xM m t c ≤ 240
def PsW (ms m : Mem) (g : Int) : Prop := (g = 0 ∨ g = 1) ∧ (g = 0 → m 29 = ms 29) ∧ (g = 1 → muW m < muW ms) ∧ muW m ≤ muW ms
section WAM
variable {mc mm m m0 ms : Mem} {day mask : Int}
theorem mu_lt {i : Nat} {v : Int} (hi : i < 192) (h : m 29 i < v) (h2 : v ≤ 240) : muW (setM m 29 i v) < muW m := by
  unfold muW
  refine muN_lt (s := i) (fun k _ => ?_) hi ?_ ?_
  · by_cases e : k = i
    · rw [e, setM_same]; omega
    · rw [setM_ne (by omega)]
      exact Int.le_refl _
  · (try dsimp only)
    rw [setM_same]
    omega
  · (try dsimp only)
    rw [setM_same]
    omega
theorem xM_set {t c t' c' : Nat} {v : Int} (hc : c < 8) (hc' : c' < 8) : xM (setM m 29 (8 * t + c) v) t' c' = if t' = t ∧ c' = c then v else xM m t' c' := by
  unfold xM
  by_cases h : t' = t ∧ c' = c
  · rw [if_pos h, h.1, h.2, setM_same]
  · rw [if_neg h, setM_ne (by omega)]
theorem late_eq (I : Inv mc m) (d t c : Int) : lateR m d t c = lateC mc d t c := by
  obtain ⟨d1, d2, d3, d4, d5⟩ := I.2.2.2.1
  unfold lateR lateC
  rw [d1]
  exact lateG_congr (fun k hk => by have := d4 k (by omega); exact ⟨this.1, this.2.1, this.2.2.1, this.2.2.2.1⟩)
theorem missedBy_ok {w : Nat} (I : Inv mc m) (hw : (w : Int) < mc 400 4) (hb : -10000 ≤ xM m (twN mc w) (cwN mc w - 1) ∧ xM m (twN mc w) (cwN mc w - 1) ≤ 10000) : Ok (M_missedBy w m) (fun z => z = ndW mc (xM m) w) := by
  have CI0 : CI mc := ⟨_, I⟩
  have f := wish_facts CI0 hw
  have k := wish_calls CI0 hw
  have n := CI_n CI0
  have a := I.2.2.2.2.2.2.2.2.2 w hw
  have r1 := IT_getc I.2.2.1 (t := twN mc w) (c := cwN mc w) (by omega) f.2.2.2.1 (by omega) (by rw [Int.toNat_natCast]; have := ln_of CI0 f.2.2.2.1; omega)
  have r2 := IT_getc I.2.2.1 (t := owN mc w) (c := nwN mc w) (by omega) (by omega) (by omega) (by rw [Int.toNat_natCast]; have := ln_of CI0 (t := owN mc w) (by omega); omega)
  simp only [Int.toNat_natCast] at r1 r2
  have g1 : m 1 (mc (35 + twN mc w) (cwN mc w)).toNat = mc 2 (mc (35 + twN mc w) (cwN mc w)).toNat := (I.1.2.2.2.2.2.1 _ (by omega)).1
  unfold M_missedBy
  simp only [Int.toNat_natCast]
  rw [a.1, a.2.1, a.2.2.1, a.2.2.2.1, f.2.1, f.2.2.2.2.1, f.2.2.2.2.2.2.2.1, f.2.2.2.2.2.2.2.2.2.2.1]
  refine ok_grd (by omega) (ok_ltv (ok_ltv ?_))
  have ei : (8 * (twN mc w : Int) + (cwN mc w : Int) - 1).toNat = 8 * twN mc w + (cwN mc w - 1) := by omega
  rw [ei, r1.1, r1.2.2.2.1, r2.2.2.2.2.1, g1]
  have ex : m 29 (8 * twN mc w + (cwN mc w - 1)) = xM m (twN mc w) (cwN mc w - 1) := rfl
  rw [ex]
  refine ok_grd (by unfold InR; omega) (ok_ltv (ok_grd (by unfold InR; omega) (ok_some ?_)))
  unfold ndW cstW
  omega
theorem counts_ok {w : Nat} (I : Inv mc m) (hd : 0 ≤ day ∧ day ≤ 27) (hw : (w : Int) < mc 400 4) : Ok (M_counts w day m) (fun z => (z = 1 ∧ cntW mc day w) ∨ (z = 0 ∧ ¬ cntW mc day w)) := by
  have CI0 : CI mc := ⟨_, I⟩
  have f := wish_facts CI0 hw
  have a := I.2.2.2.2.2.2.2.2.2 w hw
  unfold M_counts
  rw [Int.toNat_natCast, a.1, a.2.2.1, f.2.1, f.2.2.2.2.2.2.2.1]
  have b1 := bit_01 (mc 30 (mc 32 (twN mc w)).toNat) day.toNat
  have b2 := bit_01 (mc 30 (mc 32 (owN mc w)).toNat) day.toNat
  refine ok_grd (by omega) (ok_bind (runs_ok I hd (t := twN mc w) (by omega)) (fun z1 h1 => ok_ite (fun k1 => ok_bind (runs_ok I hd (t := owN mc w) (by omega)) (fun z2 h2 => ok_ite (fun k2 => ok_some (Or.inl ⟨rfl, ⟨by omega, by omega⟩, ⟨by omega, by omega⟩⟩)) (fun k2 => ok_some (Or.inr ⟨rfl, fun q => ?_⟩)))) (fun k1 => ok_some (Or.inr ⟨rfl, fun q => ?_⟩))))
  · have := q.2.2
    omega
  · have := q.1.2
    omega
/-- a held wish raises no more than any way to hold all -/
theorem un_raise (I : CI mc) {X : Nat → Nat → Int} {w : Nat} {c : Nat} {v : Int} (hw : (w : Int) < mc 400 4) (hh : hldW mc day mask w) (U : UnW mc day mask X) (hc : nwN mc w ≤ c) (hcl : c < lnT mc (owN mc w)) (hv : v ≤ ndW mc X w) : ∀ Y, FixW mc day mask Y → v ≤ Y (owN mc w) c := by
  intro Y F
  have a := nd_mono I hw hh.2 (U Y F)
  have b := F.2.2 w hw hh
  have d := fix_up F hh.2.2 hc hcl
  omega
theorem upTrip_ok {t : Nat} {g : Int} (I : Inv mc mm) (hd : 0 ≤ day ∧ day ≤ 27) (ht : (t : Int) < mc 31 0) (R : RiW mc day mask mm m) (P : PsW ms m g) (hmo : g = 0 → ∀ t' c', runT mc day t' → c' + 1 < lnT mc t' → t' < t → xM ms t' c' ≤ xM ms t' (c' + 1)) : Ok (loop (fun s => M_costOf_b5 day t s.1 s.2.1 s.2.2) (g, (1 : Int), m)) (fun r => RiW mc day mask mm r.2.2 ∧ PsW ms r.2.2 r.1 ∧ (r.1 = 0 → ∀ t' c', runT mc day t' → c' + 1 < lnT mc t' → t' < t + 1 → xM ms t' c' ≤ xM ms t' (c' + 1))) := by
  have CI0 : CI mc := ⟨_, I⟩
  have l := ln_of CI0 ht
  refine ok_loop (fun s => ∃ k : Nat, s.2.1 = (k : Int) + 1 ∧ k < 8 ∧ RiW mc day mask mm s.2.2 ∧ PsW ms s.2.2 s.1 ∧ (s.1 = 0 → ∀ t' c', runT mc day t' → c' + 1 < lnT mc t' → (t' < t ∨ (t' = t ∧ c' < k)) → xM ms t' c' ≤ xM ms t' (c' + 1))) (fun s => 9 - s.2.1.toNat) ⟨0, rfl, by omega, R, P, fun h t' c' h1 h2 h3 => hmo h t' c' h1 h2 (by omega)⟩ ?_
  rintro ⟨g, cc, m⟩ ⟨k, a1, a2, R, P, mo⟩
  dsimp only at a1 R P mo ⊢
  have J : Inv mc m := Inv_fr I (fun _ _ _ => rfl) (fun c i q => R.1 c i (by unfold pM at q; omega))
  have b01 := bit_01 (mc 30 (mc 32 t).toNat) day.toNat
  unfold M_costOf_b5
  refine ok_bind (runs_ok J hd ht) (fun z hz => ok_ite (fun hz1 => ?_) (fun hz1 => ok_some ⟨R, P, fun h t' c' h1 h2 h3 => ?_⟩))
  · have hrun : runT mc day t := ⟨ht, by omega⟩
    have e6 : m 6 t = lnT mc t := by
      have := IT_get J.2.2.1 (t := t) (by omega) ht
      rw [Int.toNat_natCast] at this
      rw [this.2.2.2.1]
      exact l.1
    rw [Int.toNat_natCast, e6, a1]
    refine ok_grd (by omega) (ok_ite (fun hk => ?_) (fun hk => ok_some ⟨R, P, fun h t' c' h1 h2 h3 => ?_⟩))
    · have ei1 : (8 * (t : Int) + ((k : Int) + 1)).toNat = 8 * t + (k + 1) := by omega
      have ei2 : (8 * (t : Int) + ((k : Int) + 1) - 1).toNat = 8 * t + k := by omega
      rw [ei1, ei2]
      have ex1 : m 29 (8 * t + (k + 1)) = xM m t (k + 1) := rfl
      have ex2 : m 29 (8 * t + k) = xM m t k := rfl
      rw [ex1, ex2]
      have rg := R.2.2 t k hrun (by omega)
      have rg1 := R.2.2 t (k + 1) hrun (by omega)
      refine ok_grd (by unfold InR; omega) (ok_ite (fun hlt => ok_ltv (ok_ltv (ok_grd (by unfold InR; omega) (ok_ltv (ok_some ⟨⟨k + 1, by dsimp only; omega, by omega, ⟨fun c i hc => ?_, fun Y F t' c' h1 h2 => ?_, fun t' c' h1 h2 => ?_⟩, ⟨Or.inr rfl, fun q => by omega, fun _ => ?_, ?_⟩, fun q => by omega⟩, by dsimp only; omega⟩))))) (fun hlt => ok_grd (by unfold InR; omega) (ok_ltv (ok_some ⟨⟨k + 1, by dsimp only; omega, by omega, R, P, fun h t' c' h1 h2 h3 => ?_⟩, by dsimp only; omega⟩))))
      · dsimp only
        rw [setM_ne (by omega)]
        exact R.1 c i hc
      · dsimp only
        have l' := ln_of CI0 h1.1
        rw [xM_set (by omega) (by omega)]
        by_cases e : t' = t ∧ c' = k + 1
        · rw [if_pos e, e.1, e.2]
          have := R.2.1 Y F t k hrun (by omega)
          have := F.2.1 t k hrun (by omega)
          omega
        · rw [if_neg e]
          exact R.2.1 Y F t' c' h1 h2
      · dsimp only
        have l' := ln_of CI0 h1.1
        rw [xM_set (by omega) (by omega)]
        have r := R.2.2 t' c' h1 h2
        by_cases e : t' = t ∧ c' = k + 1
        · rw [e.1, e.2] at r
          rw [if_pos e, e.1, e.2]
          omega
        · rw [if_neg e]
          exact r
      · dsimp only
        have := mu_lt (m := m) (i := 8 * t + (k + 1)) (v := xM m t k) (by omega) hlt (by omega)
        have := P.2.2.2
        omega
      · dsimp only
        have := mu_lt (m := m) (i := 8 * t + (k + 1)) (v := xM m t k) (by omega) hlt (by omega)
        have := P.2.2.2
        omega
      · by_cases e : t' = t ∧ c' = k
        · have same := P.2.1 h
          have : xM m = xM ms := by
            unfold xM
            rw [same]
          rw [← this, e.1, e.2]
          omega
        · exact mo h t' c' h1 h2 (by omega)
    · have : t' < t ∨ (t' = t ∧ c' < k) := by
        by_cases e : t' = t
        · rw [e] at h2
          omega
        · omega
      exact mo h t' c' h1 h2 this
  · by_cases e : t' = t
    · rw [e] at h1
      have := h1.2
      omega
    · exact mo h t' c' h1 h2 (by omega)
theorem pass_ok (I : Inv mc mm) (hd : 0 ≤ day ∧ day ≤ 27) (R : RiW mc day mask mm ms) : Ok (loop (fun s => M_costOf_b4 day s.1 s.2.1 s.2.2) ((0 : Int), (0 : Int), ms)) (fun r => RiW mc day mask mm r.2.2 ∧ PsW ms r.2.2 r.1 ∧ (r.1 = 0 → ∀ t' c', runT mc day t' → c' + 1 < lnT mc t' → xM ms t' c' ≤ xM ms t' (c' + 1))) := by
  have CI0 : CI mc := ⟨_, I⟩
  have tt := CI_t CI0
  refine ok_loop (fun s => ∃ k : Nat, s.2.1 = k ∧ (k : Int) ≤ mc 31 0 ∧ RiW mc day mask mm s.2.2 ∧ PsW ms s.2.2 s.1 ∧ (s.1 = 0 → ∀ t' c', runT mc day t' → c' + 1 < lnT mc t' → t' < k → xM ms t' c' ≤ xM ms t' (c' + 1))) (fun s => (mc 31 0 - s.2.1).toNat) ⟨0, rfl, by omega, R, ⟨Or.inl rfl, fun _ => rfl, fun q => absurd (show (0 : Int) = 1 from q) (by decide), Nat.le_refl _⟩, fun _ t' c' _ _ h => by omega⟩ ?_
  rintro ⟨g, cc, m⟩ ⟨k, a1, a2, R, P, mo⟩
  dsimp only at a1 R P mo ⊢
  subst a1
  have e8 : m 0 8 = mc 31 0 := by rw [R.1 0 8 (by omega)]; exact I.2.2.1.1
  unfold M_costOf_b4
  rw [e8]
  refine ok_ite (fun hk => ok_ltv (ok_bq3 (upTrip_ok I hd hk R P mo) (fun g2 _ m2 h => ok_grd (by unfold InR; omega) (ok_ltv (ok_some ⟨⟨k + 1, by dsimp only; omega, by omega, h.1, h.2.1, h.2.2⟩, by dsimp only; omega⟩))))) (fun hk => ok_some ⟨R, P, fun h t' c' h1 h2 => mo h t' c' h1 h2 ?_⟩)
  have := h1.1
  omega
theorem wishes_ok {g : Int} (I : Inv mc mm) (hd : 0 ≤ day ∧ day ≤ 27) (R : RiW mc day mask mm m) (P : PsW ms m g) : Ok (loop (fun s => M_costOf_b6 day mask s.1 s.2.1 s.2.2) (g, (0 : Int), m)) (fun r => match r with | .inl x => RiW mc day mask mm x.2.2 ∧ PsW ms x.2.2 x.1 ∧ (x.1 = 0 → g = 0 ∧ ∀ w : Nat, (w : Int) < mc 400 4 → hldW mc day mask w → ndW mc (xM ms) w ≤ xM ms (owN mc w) (nwN mc w)) | .inr y => FrW mm y.2 ∧ y.1 = -1 ∧ NoW mc day mask) := by
  have CI0 : CI mc := ⟨_, I⟩
  have w6 := I.2.2.2.2.2.2.2.2.1
  have w0 := I.2.2.2.2.2.2.2.1
  refine ok_loop (fun s => ∃ k : Nat, s.2.1 = k ∧ (k : Int) ≤ mc 400 4 ∧ RiW mc day mask mm s.2.2 ∧ PsW ms s.2.2 s.1 ∧ (s.1 = 0 → g = 0 ∧ ∀ w : Nat, w < k → hldW mc day mask w → ndW mc (xM ms) w ≤ xM ms (owN mc w) (nwN mc w))) (fun s => (mc 400 4 - s.2.1).toNat) ⟨0, rfl, by omega, R, P, fun h => ⟨h, fun w hw => by omega⟩⟩ ?_
  rintro ⟨g1, cc, m⟩ ⟨k, a1, a2, R, P, mo⟩
  dsimp only at a1 R P mo ⊢
  subst a1
  have J : Inv mc m := Inv_fr I (fun _ _ _ => rfl) (fun c i q => R.1 c i (by unfold pM at q; omega))
  have e36 : m 0 36 = mc 400 4 := J.2.2.2.2.2.2.1
  unfold M_costOf_b6
  rw [e36]
  refine ok_ite (fun hk => ?_) (fun hk => ok_some ⟨R, P, fun h => ⟨(mo h).1, fun w hw hh => (mo h).2 w (by omega) hh⟩⟩)
  have f := wish_facts CI0 hk
  have a := J.2.2.2.2.2.2.2.2.2 k hk
  rw [Int.toNat_natCast, a.2.2.1, a.2.2.2.1, f.2.2.2.2.2.2.2.1, f.2.2.2.2.2.2.2.2.2.2.1]
  refine ok_grd (by unfold InR; omega) (ok_ltv ?_)
  have ei : (8 * (owN mc k : Int) + (nwN mc k : Int)).toNat = 8 * owN mc k + nwN mc k := by omega
  rw [ei]
  have next : (hldW mc day mask k → ndW mc (xM m) k ≤ xM m (owN mc k) (nwN mc k)) → Ok (grd (InR ((k : Int) + 1)) <| ltv ((k : Int) + 1) fun w_3 => some (.inl (g1, w_3, m) : (Int × Int × Mem) ⊕ ((Int × Int × Mem) ⊕ (Int × Mem)))) (fun x => ∃ t : Int × Int × Mem, x = .inl t ∧ (∃ k : Nat, t.2.1 = k ∧ (k : Int) ≤ mc 400 4 ∧ RiW mc day mask mm t.2.2 ∧ PsW ms t.2.2 t.1 ∧ (t.1 = 0 → g = 0 ∧ ∀ w : Nat, w < k → hldW mc day mask w → ndW mc (xM ms) w ≤ xM ms (owN mc w) (nwN mc w))) ∧ (mc 400 4 - t.2.1).toNat < (mc 400 4 - (k : Int)).toNat) := by
    intro hn
    refine ok_grd (by unfold InR; omega) (ok_ltv (ok_some ⟨_, rfl, ⟨k + 1, by dsimp only; omega, by omega, R, P, fun h => ⟨(mo h).1, fun w hw hh => ?_⟩⟩, by dsimp only; omega⟩))
    by_cases e : w = k
    · have same : xM m = xM ms := by
        unfold xM
        rw [P.2.1 h]
      rw [e] at hh ⊢
      rw [← same]
      exact hn hh
    · exact (mo h).2 w (by omega) hh
  refine ok_ite (fun hmask => ok_bind (counts_ok J hd hk) (fun z hz => ok_ite (fun hz1 => ?_) (fun hz1 => ?_))) (fun hmask => ?_)
  · have hc : cntW mc day k := by
      rcases hz with hz | hz
      · exact hz.2
      · exact absurd hz.1 hz1
    have hh : hldW mc day mask k := ⟨hmask, hc⟩
    have rs := R.2.2 (twN mc k) (cwN mc k - 1) hc.1 (by omega)
    have ro := R.2.2 (owN mc k) (nwN mc k) hc.2 (by omega)
    have lt := CI_late CI0 (d := day) (t := (twN mc k : Int)) (c := ((cwN mc k - 1 : Nat) : Int))
    have lo := CI_late CI0 (d := day) (t := (owN mc k : Int)) (c := ((nwN mc k : Nat) : Int))
    have ex : m 29 (8 * owN mc k + nwN mc k) = xM m (owN mc k) (nwN mc k) := rfl
    refine ok_grd (by omega) (ok_bind (missedBy_ok J hk (by omega)) (fun y hy => ?_))
    subst hy
    rw [ex]
    refine ok_ite (fun hlt => ok_bind (missedBy_ok J hk (by omega)) (fun y hy => ?_)) (fun hlt => ?_)
    · subst hy
      refine ok_ltv (ok_ltv ?_)
      rw [setM_same]
      refine ok_ite (fun hbig => ok_some ?_) (fun hbig => ?_)
      · refine ⟨fun c i hc => ?_, rfl, fun Y F => ⟨k, hk, hc.2, ?_⟩⟩
        · dsimp only
          rw [setM_ne (by omega)]
          exact R.1 c i hc
        · have := un_raise CI0 hk hh R.2.1 (Nat.le_refl _) (by omega) (Int.le_refl _) Y F
          omega
      · have mlt := mu_lt (m := m) (i := 8 * owN mc k + nwN mc k) (v := ndW mc (xM m) k) (by omega) hlt (by omega)
        refine ok_grd (by unfold InR; omega) (ok_ltv (ok_some ⟨⟨k + 1, by dsimp only; omega, by omega, ⟨fun c i hc => ?_, fun Y F t' c' h1 h2 => ?_, fun t' c' h1 h2 => ?_⟩, ⟨Or.inr rfl, fun q => by omega, fun _ => ?_, ?_⟩, fun q => by omega⟩, by dsimp only; omega⟩))
        · dsimp only
          rw [setM_ne (by omega)]
          exact R.1 c i hc
        · dsimp only
          have l' := ln_of CI0 h1.1
          rw [xM_set (by omega) (by omega)]
          by_cases e : t' = owN mc k ∧ c' = nwN mc k
          · rw [if_pos e, e.1, e.2]
            exact un_raise CI0 hk hh R.2.1 (Nat.le_refl _) (by omega) (Int.le_refl _) Y F
          · rw [if_neg e]
            exact R.2.1 Y F t' c' h1 h2
        · dsimp only
          have l' := ln_of CI0 h1.1
          rw [xM_set (by omega) (by omega)]
          have r := R.2.2 t' c' h1 h2
          by_cases e : t' = owN mc k ∧ c' = nwN mc k
          · rw [e.1, e.2] at r
            rw [if_pos e, e.1, e.2]
            omega
          · rw [if_neg e]
            exact r
        · dsimp only
          have := P.2.2.2
          omega
        · dsimp only
          have := P.2.2.2
          omega
    · refine Ok.mono (next (fun _ => by omega)) (fun x hx => ?_)
      obtain ⟨t, rfl, t1, t2⟩ := hx
      exact ⟨t1, t2⟩
  · have hc : ¬ cntW mc day k := by
      rcases hz with hz | hz
      · exact absurd hz.1 (fun q => hz1 (by omega))
      · exact hz.2
    refine Ok.mono (next (fun q => absurd q.2 hc)) (fun x hx => ?_)
    obtain ⟨t, rfl, t1, t2⟩ := hx
    exact ⟨t1, t2⟩
  · refine Ok.mono (next (fun q => absurd q.1 hmask)) (fun x hx => ?_)
    obtain ⟨t, rfl, t1, t2⟩ := hx
    exact ⟨t1, t2⟩
end WAM
