/-! ===== waits: the class ===== -/
def xC (m : Mem) : Nat → Nat → Int := fun t c => m (407 + t) c
def FrD (m0 m : Mem) : Prop := ∀ c i, ¬ (407 ≤ c ∧ c ≤ 430) → m c i = m0 c i
def DsW (mc : Mem) (day : Int) (m : Mem) (B : Int) : Prop := (∀ t c : Nat, (t : Int) < mc 31 0 → c < lnT mc t → lateC mc day t c ≤ xC m t c ∧ xC m t c ≤ B) ∧ (∀ t c : Nat, (t : Int) < mc 31 0 → c + 1 < lnT mc t → xC m t c ≤ xC m t (c + 1)) ∧ ∀ t c : Nat, (t : Int) < mc 31 0 → ¬ runT mc day t → c < lnT mc t → xC m t c = lateC mc day t c
noncomputable def cnS (S : Nat → Prop) (K : Nat) : Int := sI (fun w => @ite _ (S w) (Classical.propDecidable _) 1 0) K
section WCC
variable {mc mm m m0 ms : Mem} {day mask : Int}
theorem FrD_per (p : Per mc m0) (f : FrD m0 m) : Per mc m := fun c i h => by
  rw [f c i (by obtain ⟨h, -⟩ := h; unfold pC at h; omega)]
  exact p c i h
theorem ds_up {B : Int} (d : DsW mc day m B) {t c : Nat} (ht : (t : Int) < mc 31 0) : ∀ {c' : Nat}, c ≤ c' → c' < lnT mc t → xC m t c ≤ xC m t c' := by
  intro c'
  induction c' with
  | zero =>
    intro h _
    have : c = 0 := by omega
    rw [this]
    exact Int.le_refl _
  | succ c' ih =>
    intro h h2
    by_cases e : c = c' + 1
    · rw [e]; exact Int.le_refl _
    · have a := ih (by omega) (by omega)
      have b := d.2.1 t c' ht h2
      omega
theorem tellC_ok (I : CI mc) (p : Per mc m0) : Ok (C_Wishes_tellDelays day m0) (fun m => FrD m0 m ∧ ∀ t c : Nat, (t : Int) < mc 31 0 → c < lnT mc t → xC m t c = lateC mc day t c) := by
  have tt := CI_t I
  unfold C_Wishes_tellDelays
  refine ok_ltv (ok_bq2 (ok_for0 (n := (mc 31 0).toNat) (fun k m => FrD m0 m ∧ ∀ t c : Nat, t < k → c < lnT mc t → xC m t c = lateC mc day t c) ⟨fun _ _ _ => rfl, fun t c h => by omega⟩ ?_ ?_) (fun _ m h => ok_some ⟨h.1, fun t c h1 h2 => h.2 t c (by omega) h2⟩))
  · rintro k m hk ⟨f1, f2⟩
    have pm := FrD_per p f1
    have hk2 : (k : Int) < mc 31 0 := by omega
    have l := ln_of I hk2
    have q31 : m 31 0 = mc 31 0 := pm _ _ ⟨by unfold pC; omega, by omega⟩
    have D := Per_D I pm
    unfold C_Wishes_tellDelays_b1
    rw [q31]
    refine ok_ite (fun _ => ok_bind (find_ok D.1 D.2.1) (fun e he => ok_ltv (ok_ltv (ok_bq2 (ok_for0 (n := lnT mc k) (fun j m2 => FrD m0 m2 ∧ (∀ c i, ¬ c = 407 + k → m2 c i = m c i) ∧ ∀ t c : Nat, (t < k ∨ (t = k ∧ c < j)) → c < lnT mc t → xC m2 t c = lateC mc day t c) ⟨f1, fun _ _ _ => rfl, fun t c h1 h2 => f2 t c (by omega) h2⟩ ?_ ?_) (fun _ m2 h => ok_grd (by unfold InR; omega) (ok_ltv (ok_some ⟨_, rfl, h.1, fun t c h1 h2 => h.2.2 t c ?_ h2⟩))))))) (fun h => by omega)
    · rintro j m2 hj ⟨g1, g0, g2⟩
      have pm2 := FrD_per p g1
      have q33 : m2 33 k = mc 33 k := pm2 _ _ ⟨by unfold pC; omega, by omega⟩
      have D2 := Per_D I pm2
      have he2 : IsG (m2 110) (m2 111) (m2 109 0) day k e := by
        rw [show m2 110 = m 110 from funext fun i => g0 _ _ (by omega), show m2 111 = m 111 from funext fun i => g0 _ _ (by omega), g0 109 0 (by omega)]
        exact he
      unfold C_Wishes_tellDelays_b2
      rw [Int.toNat_natCast, q33, l.1]
      refine ok_grd (by omega) (ok_ite (fun _ => ok_grd (by omega) (ok_bind (at_ok D2.1 D2.2.1 D2.2.2 he2) (fun v hv => ok_ltv (ok_grd (by unfold InR; omega) (ok_ltv (ok_some ⟨_, rfl, fun c i hc => ?_, fun c i hc => ?_, fun t c h1 h2 => ?_⟩)))))) (fun h => by omega))
      · rw [setM_ne (by omega)]
        exact g1 c i hc
      · rw [setM_ne (by omega)]
        exact g0 c i hc
      · rw [Per_late pm2] at hv
        unfold xC
        rw [Int.toNat_natCast]
        by_cases e2 : t = k ∧ c = j
        · rw [e2.1, e2.2, setM_same]
          exact hv
        · rw [setM_ne (by omega)]
          exact g2 t c (by omega) h2
    · rintro m2 ⟨g1, g0, g2⟩
      have pm2 := FrD_per p g1
      have q33 : m2 33 k = mc 33 k := pm2 _ _ ⟨by unfold pC; omega, by omega⟩
      unfold C_Wishes_tellDelays_b2
      rw [Int.toNat_natCast, q33, l.1, grd_pos (by omega), if_neg (by omega)]
    · by_cases e2 : t = k
      · rw [e2] at h2
        exact Or.inr ⟨e2, h2⟩
      · exact Or.inl (by omega)
  · rintro m ⟨f1, -⟩
    have pm := FrD_per p f1
    have q31 : m 31 0 = mc 31 0 := pm _ _ ⟨by unfold pC; omega, by omega⟩
    unfold C_Wishes_tellDelays_b1
    rw [q31, if_neg (by omega)]
theorem sv_of (I : CI mc) {t : Nat} (h : (t : Int) < mc 31 0) : 0 ≤ mc 32 t ∧ mc 32 t < 6 ∧ 0 ≤ mc 30 (mc 32 t).toNat ∧ mc 30 (mc 32 t).toNat < 268435456 := by
  obtain ⟨mx, I⟩ := I
  have b := I.2.2.1.2.2.2 t h
  have c := I.2.1.2.2.1
  have d := I.2.1.2.2.2.1 (mc 32 t).toNat (by omega)
  exact ⟨b.2.1, by omega, d.1, d.2.1⟩
theorem isOnP_ok (I : CI mc) (hd : 0 ≤ day ∧ day ≤ 27) (p : Per mc m) {t : Nat} (h : (t : Int) < mc 31 0) : Ok (C_Services_isOn (m 32 t) day m) (fun z => z = bit (mc 30 (mc 32 t).toNat) day.toNat) := by
  have sv := sv_of I h
  have tt := CI_t I
  have e1 : m 32 t = mc 32 t := p _ _ ⟨by unfold pC; omega, by omega⟩
  have e2 : m 30 (mc 32 t).toNat = mc 30 (mc 32 t).toNat := p _ _ ⟨by unfold pC; omega, by omega⟩
  rw [e1]
  refine (isOn_ok sv.1 sv.2.1 (by rw [e2]; exact sv.2.2)).mono (fun z hz => ?_)
  rw [if_pos (by omega), e2] at hz
  exact hz
theorem isCounted_ok {w : Nat} (I : CI mc) (hd : 0 ≤ day ∧ day ≤ 27) (p : Per mc m) (hw : (w : Int) < mc 400 4) : Ok (C_Wishes_isCounted w day m) (fun z => (z = 1 ∧ cntW mc day w) ∨ (z = 0 ∧ ¬ cntW mc day w)) := by
  have f := wish_facts I hw
  have e1 : m 401 w = twN mc w := by rw [p _ _ ⟨by unfold pC; omega, by omega⟩]; exact f.2.1
  have e2 : m 403 w = owN mc w := by rw [p _ _ ⟨by unfold pC; omega, by omega⟩]; exact f.2.2.2.2.2.2.2.1
  have b1 := bit_01 (mc 30 (mc 32 (twN mc w)).toNat) day.toNat
  have b2 := bit_01 (mc 30 (mc 32 (owN mc w)).toNat) day.toNat
  unfold C_Wishes_isCounted
  simp only [Int.toNat_natCast]
  rw [e1, e2]
  simp only [Int.toNat_natCast]
  refine ok_grd (by omega) (ok_bind (isOnP_ok I hd p (t := twN mc w) (by omega)) (fun z1 h1 => ok_ite (fun k1 => ok_grd (by omega) (ok_bind (isOnP_ok I hd p (t := owN mc w) (by omega)) (fun z2 h2 => ok_ite (fun k2 => ok_some (Or.inl ⟨rfl, ⟨by omega, by omega⟩, ⟨by omega, by omega⟩⟩)) (fun k2 => ok_some (Or.inr ⟨rfl, fun q => ?_⟩))))) (fun k1 => ok_some (Or.inr ⟨rfl, fun q => ?_⟩))))
  · have := q.2.2
    omega
  · have := q.1.2
    omega
theorem gap_ok {w : Nat} {B : Int} (I : CI mc) (p : Per mc m) (hw : (w : Int) < mc 400 4) (d : DsW mc day m B) (hB : B ≤ 1000000) : Ok (C_Wishes_gap w m) (fun z => z = ndW mc (xC m) w - xC m (owN mc w) (nwN mc w)) ∧ -3000 ≤ ndW mc (xC m) w ∧ ndW mc (xC m) w ≤ B + 3000 := by
  have f := wish_facts I hw
  have k := wish_calls I hw
  have n := CI_n I
  have e1 : m 401 w = twN mc w := by rw [p _ _ ⟨by unfold pC; omega, by omega⟩]; exact f.2.1
  have e2 : m 402 w = cwN mc w := by rw [p _ _ ⟨by unfold pC; omega, by omega⟩]; exact f.2.2.2.2.1
  have e3 : m 403 w = owN mc w := by rw [p _ _ ⟨by unfold pC; omega, by omega⟩]; exact f.2.2.2.2.2.2.2.1
  have e4 : m 404 w = nwN mc w := by rw [p _ _ ⟨by unfold pC; omega, by omega⟩]; exact f.2.2.2.2.2.2.2.2.2.2.1
  have a1 : m (60 + twN mc w) (cwN mc w) = mc (60 + twN mc w) (cwN mc w) := p _ _ ⟨by unfold pC; omega, by omega⟩
  have a2 : m (35 + twN mc w) (cwN mc w) = mc (35 + twN mc w) (cwN mc w) := p _ _ ⟨by unfold pC; omega, by omega⟩
  have a3 : m (85 + owN mc w) (nwN mc w) = mc (85 + owN mc w) (nwN mc w) := p _ _ ⟨by unfold pC; omega, by omega⟩
  have a4 : m 2 (mc (35 + twN mc w) (cwN mc w)).toNat = mc 2 (mc (35 + twN mc w) (cwN mc w)).toNat := p _ _ ⟨by unfold pC; omega, by omega⟩
  have ds := d.1 (twN mc w) (cwN mc w - 1) f.2.2.2.1 (by omega)
  have do_ := d.1 (owN mc w) (nwN mc w) (by omega) (by omega)
  have ls := CI_late I (d := day) (t := (twN mc w : Int)) (c := ((cwN mc w - 1 : Nat) : Int))
  have lo := CI_late I (d := day) (t := (owN mc w : Int)) (c := ((nwN mc w : Nat) : Int))
  have bd : -3000 ≤ ndW mc (xC m) w ∧ ndW mc (xC m) w ≤ B + 3000 := by
    unfold ndW cstW
    omega
  refine ⟨?_, bd⟩
  unfold C_Wishes_gap
  simp only [Int.toNat_natCast]
  rw [e1, e2, e3, e4]
  simp only [Int.toNat_natCast]
  have ec : ((cwN mc w : Int) - 1).toNat = cwN mc w - 1 := by omega
  have x1 : m (407 + twN mc w) (cwN mc w - 1) = xC m (twN mc w) (cwN mc w - 1) := rfl
  have x2 : m (407 + owN mc w) (nwN mc w) = xC m (owN mc w) (nwN mc w) := rfl
  refine ok_grd (by omega) (ok_ltv (ok_ltv ?_))
  simp only [Int.toNat_natCast]
  rw [ec, a1, a2, a3, a4, x1, x2]
  refine ((ok_grd (by unfold InR; omega) (ok_ltv (ok_grd (by unfold InR; omega) (ok_ltv (ok_grd (by unfold InR; omega) (ok_some ?_)))))))
  unfold ndW cstW
  omega
theorem hold_ok {w : Nat} {B : Int} (I : CI mc) (p : Per mc m) (hw : (w : Int) < mc 400 4) (d : DsW mc day m B) (hB : B ≤ 1000000) : Ok (C_Wishes_hold w m) (fun r => (r.1 = 0 ∧ r.2 = m ∧ ndW mc (xC m) w ≤ xC m (owN mc w) (nwN mc w)) ∨ (r.1 = 1 ∧ FrD m r.2 ∧ xC m (owN mc w) (nwN mc w) < ndW mc (xC m) w ∧ ∀ t c : Nat, c < 8 → xC r.2 t c = if t = owN mc w ∧ nwN mc w ≤ c ∧ c < lnT mc (owN mc w) ∧ xC m t c < ndW mc (xC m) w then ndW mc (xC m) w else xC m t c)) := by
  have f := wish_facts I hw
  obtain ⟨gp, gb⟩ := gap_ok I p hw d hB
  have e3 : m 403 w = owN mc w := by rw [p _ _ ⟨by unfold pC; omega, by omega⟩]; exact f.2.2.2.2.2.2.2.1
  have e4 : m 404 w = nwN mc w := by rw [p _ _ ⟨by unfold pC; omega, by omega⟩]; exact f.2.2.2.2.2.2.2.2.2.2.1
  have do_ := d.1 (owN mc w) (nwN mc w) (by omega) (by omega)
  have lo := CI_late I (d := day) (t := (owN mc w : Int)) (c := ((nwN mc w : Nat) : Int))
  have l := ln_of I (t := owN mc w) (by omega)
  unfold C_Wishes_hold
  simp only [Int.toNat_natCast]
  rw [e3, e4]
  simp only [Int.toNat_natCast]
  have x2 : m (407 + owN mc w) (nwN mc w) = xC m (owN mc w) (nwN mc w) := rfl
  refine ok_grd (by omega) (ok_grd (by omega) (ok_bind gp (fun g hg => ?_)))
  have en : m (407 + owN mc w) (nwN mc w) + g = ndW mc (xC m) w := by rw [x2]; omega
  rw [en]
  refine ok_grd (by unfold InR; omega) (ok_ltv (ok_ite (fun h => ok_some (Or.inl ⟨rfl, rfl, h⟩)) (fun h => ok_ltv (ok_bq2 (Q := fun (x : Int × Mem) => FrD m x.2 ∧ ∀ t c : Nat, c < 8 → xC x.2 t c = if t = owN mc w ∧ nwN mc w ≤ c ∧ c < lnT mc (owN mc w) ∧ xC m t c < ndW mc (xC m) w then ndW mc (xC m) w else xC m t c) ?_ (fun _ m3 h3 => ok_some (Or.inr ⟨rfl, h3.1, by omega, h3.2⟩))))))
  refine ok_loop (fun s => ∃ k : Nat, s.1 = k ∧ nwN mc w ≤ k ∧ k ≤ lnT mc (owN mc w) ∧ FrD m s.2 ∧ ∀ t c : Nat, c < 8 → xC s.2 t c = if t = owN mc w ∧ nwN mc w ≤ c ∧ c < k ∧ xC m t c < ndW mc (xC m) w then ndW mc (xC m) w else xC m t c) (fun s => 8 - s.1.toNat) ⟨nwN mc w, rfl, Nat.le_refl _, by omega, fun _ _ _ => rfl, fun t c _ => by rw [if_neg (by omega)]⟩ ?_
  rintro ⟨kk, m2⟩ ⟨k, a1, a2, a3, a4, a5⟩
  dsimp only at a1 a4 a5 ⊢
  subst a1
  have p2 := FrD_per p a4
  have e3' : m2 403 w = owN mc w := by rw [a4 403 w (by omega)]; exact e3
  have q33 : m2 33 (owN mc w) = lnT mc (owN mc w) := by rw [p2 _ _ ⟨by unfold pC; omega, by omega⟩]; exact l.1
  unfold C_Wishes_hold_b1
  simp only [Int.toNat_natCast]
  rw [e3', e3]
  simp only [Int.toNat_natCast]
  rw [q33]
  refine ok_grd (by omega) (ok_ite (fun hk => ok_grd (by omega) (ok_ltv (ok_grd (by unfold InR; omega) (ok_ltv (ok_some ⟨⟨k + 1, by dsimp only; omega, by omega, by omega, fun c i hc => ?_, fun t c hc => ?_⟩, by dsimp only; omega⟩))))) (fun hk => ok_some ⟨a4, fun t c hc => ?_⟩))
  · dsimp only
    rw [setM_ne (by omega)]
    exact a4 c i hc
  · dsimp only
    have cur : m2 (407 + owN mc w) k = xC m (owN mc w) k := by
      have := a5 (owN mc w) k (by omega)
      rw [if_neg (by omega)] at this
      exact this
    rw [cur]
    by_cases e : t = owN mc w ∧ c = k
    · have : xC (setM m2 (407 + owN mc w) k (if xC m (owN mc w) k < ndW mc (xC m) w then ndW mc (xC m) w else xC m (owN mc w) k)) t c = (if xC m (owN mc w) k < ndW mc (xC m) w then ndW mc (xC m) w else xC m (owN mc w) k) := by
        unfold xC
        rw [e.1, e.2, setM_same]
      rw [this, e.1, e.2]
      by_cases z : xC m (owN mc w) k < ndW mc (xC m) w
      · rw [if_pos z, if_pos ⟨rfl, a2, by omega, z⟩]
      · rw [if_neg z, if_neg (fun q => z q.2.2.2)]
    · have : xC (setM m2 (407 + owN mc w) k (if xC m (owN mc w) k < ndW mc (xC m) w then ndW mc (xC m) w else xC m (owN mc w) k)) t c = xC m2 t c := by
        unfold xC
        rw [setM_ne (by omega)]
      rw [this, a5 t c hc]
      by_cases z : t = owN mc w ∧ nwN mc w ≤ c ∧ c < k ∧ xC m t c < ndW mc (xC m) w
      · rw [if_pos z, if_pos ⟨z.1, z.2.1, by omega, z.2.2.2⟩]
      · rw [if_neg z, if_neg (fun q => z ⟨q.1, q.2.1, by omega, q.2.2.2⟩)]
  · have : k = lnT mc (owN mc w) := by omega
    rw [this] at a5
    exact a5 t c hc
end WCC
