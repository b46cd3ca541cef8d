/-! ===== all arrivals; lost and bridges ===== -/
noncomputable def bestL (mc : Mem) (day sh mi cut : Int) (t : Int) (a : Nat) : Lb := @dite _ (∃ L, BestQ mc day sh mi cut (ini (wC mc cut) a t) L) (Classical.propDecidable _) (fun h => h.choose) (fun _ => nowL)
noncomputable def arV (mc : Mem) (day sh mi cut : Int) (t : Int) (a b : Nat) : Int := aR (bestL mc day sh mi cut t a) b
def sI (h : Nat → Int) : Nat → Int
  | 0 => 0
  | k + 1 => sI h k + h k
theorem sI_bd {h : Nat → Int} {z : Int} (hz : 0 ≤ z) : ∀ {n : Nat}, (∀ k, k < n → 0 ≤ h k ∧ h k ≤ z) → 0 ≤ sI h n ∧ sI h n ≤ n * z := by
  intro n
  induction n with
  | zero => intro _; simp [sI]
  | succ n ih =>
    intro hh
    have a := ih (fun k hk => hh k (by omega))
    have b := hh n (by omega)
    simp only [sI]
    have e : ((n + 1 : Nat) : Int) * z = n * z + z := by
      rw [Int.natCast_add, Int.add_mul]
      simp
    rw [e]
    omega
theorem sI_congr {f g : Nat → Int} : ∀ {n : Nat}, (∀ k, k < n → f k = g k) → sI f n = sI g n := by
  intro n
  induction n with
  | zero => intro _; rfl
  | succ n ih =>
    intro h
    simp only [sI]
    rw [ih (fun k hk => h k (by omega)), h n (by omega)]
section ARR
variable {mc mm m m0 : Mem} {day sh mi cut t : Int}
theorem arV_eq {L : Lb} {a b : Nat} (h : BestQ mc day sh mi cut (ini (wC mc cut) a t) L) (hb : b < nC mc) : aR L b = arV mc day sh mi cut t a b := by
  have hex : ∃ L, BestQ mc day sh mi cut (ini (wC mc cut) a t) L := ⟨L, h⟩
  unfold arV bestL
  rw [dif_pos hex]
  have := best_uniq h hex.choose_spec hb
  unfold aR
  rw [this.1, this.2]
theorem fillArr_ok (I : CI mc) (hm : -60 ≤ mi ∧ mi ≤ 60) (C : Ctx mc day sh mi (-1) m0) (ht : 0 ≤ t ∧ t ≤ 10000) : Ok (C_fillArrivals t m0) (fun m => (∀ c i, ¬ (c = 346 ∨ c = 353 ∨ c = 354) → ¬ (443 ≤ c ∧ c ≤ 454) → m c i = m0 c i) ∧ ∀ a b : Nat, a < nC mc → b < nC mc → m (443 + a) b = arV mc day sh mi (-1) t a b) := by
  have n := CI_n I
  unfold C_fillArrivals
  refine ok_ltv (ok_bq2 (ok_for0 (n := nC mc) (fun k m => (∀ c i, ¬ (c = 346 ∨ c = 353 ∨ c = 354) → ¬ (443 ≤ c ∧ c ≤ 454) → m c i = m0 c i) ∧ ∀ a b : Nat, a < k → b < nC mc → m (443 + a) b = arV mc day sh mi (-1) t a b) ⟨fun _ _ _ _ => rfl, fun a b h => by omega⟩ ?_ ?_) (fun _ m h => ok_some h))
  · rintro k m hk ⟨f1, f2⟩
    have Cm : Ctx mc day sh mi (-1) m := Ctx_fr I C (fun c i h => f1 c i (by unfold cX pC at h; omega) (by unfold cX pC at h; omega))
    have Lm := CtL_of I Cm.1 Cm.2.1
    unfold C_fillArrivals_b1
    rw [Lm.1]
    refine ok_ite (fun _ => ok_bind (scan_ok (a := k) (t := t) I hm Cm hk (by omega) ht) (fun m2 s => ok_ltv (ok_bq2 (ok_for0 (n := nC mc) (fun j x => (∀ c i, ¬ c = 443 + k → x c i = m2 c i) ∧ ∀ b : Nat, b < j → x (443 + k) b = arV mc day sh mi (-1) t k b) ⟨fun _ _ _ => rfl, fun b h => by omega⟩ ?_ ?_) (fun _ m5 h5 => ok_grd (by unfold InR; omega) (ok_ltv (ok_some ⟨_, rfl, fun c i w1 w2 => ?_, fun a b ha hb => ?_⟩)))))) (fun h => by omega)
    · rintro j x hj ⟨g1, g2⟩
      have Cs := FrSc_ctx I Cm s.1
      have Ls := CtL_of I Cs.1 Cs.2.1
      have lab : labC 352 x = labC 352 m2 := by
        unfold labC
        exact Prod.ext (funext fun v => g1 _ v (by omega)) (funext fun v => g1 _ v (by omega))
      unfold C_fillArrivals_b2
      rw [g1 1 0 (by omega), Ls.1]
      refine ok_ite (fun _ => ok_grd (by omega) (ok_bind (atC_ok (s := j) (by omega)) (fun v hv => ok_ltv (ok_grd (by unfold InR; omega) (ok_ltv (ok_some ⟨_, rfl, fun c i hc => ?_, fun b hb => ?_⟩)))))) (fun h => by omega)
      · rw [setM_ne (by omega)]
        exact g1 c i hc
      · by_cases hh : b = j
        · rw [setM_hit (by omega), hv, lab, hh]
          exact arV_eq s.2.1 hj
        · rw [setM_ne (by omega)]
          exact g2 b (by omega)
    · rintro x ⟨g1, -⟩
      have Cs := FrSc_ctx I Cm s.1
      unfold C_fillArrivals_b2
      rw [g1 1 0 (by omega), (CtL_of I Cs.1 Cs.2.1).1, if_neg (by omega)]
    · dsimp only at h5
      rw [h5.1 c i (by omega), s.1 c i w1]
      exact f1 c i w1 w2
    · dsimp only at h5
      by_cases hh : a = k
      · rw [hh]
        exact h5.2 b hb
      · rw [h5.1 _ _ (by omega), s.1 _ _ (by omega)]
        exact f2 a b (by omega) hb
  · rintro m ⟨f1, -⟩
    unfold C_fillArrivals_b1
    rw [f1 1 0 (by omega) (by omega), (CtL_of I C.1 C.2.1).1, if_neg (by omega)]
def FrA (m0 m : Mem) : Prop := ∀ c i, ¬ (c = 15 ∨ c = 16 ∨ c = 30) → ¬ (c = 0 ∧ (i = 22 ∨ i = 25)) → m c i = m0 c i
theorem rel_again {m1 m2 : Mem} (r : RelM mc day sh mi cut (setM m1 0 22 day)) (f : FrA m1 m2) : RelM mc day sh mi cut (setM m2 0 22 day) := RelM_fr r (fun c i h => by
  by_cases hh : c = 0 ∧ i = 22
  · rw [hh.1, hh.2, setM_same, setM_same]
  · rw [setM_ne hh, setM_ne hh]
    exact f c i (by unfold rM at h; omega) (by unfold rM at h; omega))
theorem tellAll_ok (I : CI mc) (hd : 0 ≤ day ∧ day ≤ 27) (hm : -60 ≤ mi ∧ mi ≤ 60) (r : RelM mc day sh mi cut (setM m0 0 22 day)) (ht : 0 ≤ t ∧ t < 100000) : Ok (M_tellAll day t m0) (fun m => FrA m0 m ∧ ∀ a b : Nat, a < nC mc → b < nC mc → m 30 (12 * a + b) = arV mc day sh mi cut t a b) := by
  have n := CI_n I
  have e01 : m0 0 1 = nC mc := by
    have := r.1.1
    rw [setM_ne (by omega)] at this
    omega
  unfold M_tellAll
  refine ok_ltv (ok_bq2 (ok_for0 (n := nC mc) (fun k m => FrA m0 m ∧ ∀ a b : Nat, a < k → b < nC mc → m 30 (12 * a + b) = arV mc day sh mi cut t a b) ⟨fun _ _ _ _ => rfl, fun a b h => by omega⟩ ?_ ?_) (fun _ m h => ok_some h))
  · rintro k m hk ⟨f1, f2⟩
    unfold M_tellAll_b1
    rw [f1 0 1 (by omega) (by omega), e01]
    refine ok_ite (fun _ => ok_bq2 (earliestOf_ok (a := k) (b := k) I hd hm (rel_again r f1) hk hk ht) (fun _ m2 e => ok_ltv (ok_ltv (ok_bq2 (ok_for0 (n := nC mc) (fun j x => (∀ c i, ¬ c = 30 → x c i = m2 c i) ∧ (∀ i : Nat, i < 12 * k → x 30 i = m2 30 i) ∧ ∀ b : Nat, b < j → x 30 (12 * k + b) = arV mc day sh mi cut t k b) ⟨fun _ _ _ => rfl, fun _ _ => rfl, fun b h => by omega⟩ ?_ ?_) (fun _ m5 h5 => ok_grd (by unfold InR; omega) (ok_ltv (ok_some ⟨_, rfl, fun c i w1 w2 => ?_, fun a b ha hb => ?_⟩))))))) (fun h => by omega)
    all_goals dsimp only at e
    all_goals obtain ⟨e1, e2, e3, e4, e5⟩ := e
    · rintro j x hj ⟨g1, g2, g3⟩
      have lab : labM x = labM m2 := by
        unfold labM
        exact Prod.ext (funext fun v => g1 _ v (by omega)) (funext fun v => g1 _ v (by omega))
      unfold M_tellAll_b2
      rw [g1 0 1 (by omega), e1 0 1 (by omega) (by omega), f1 0 1 (by omega) (by omega), e01, i12]
      refine ok_ite (fun _ => ok_grd (by unfold InR; omega) (ok_bind (atM_ok (s := j) (by omega)) (fun v hv => ok_ltv (ok_grd (by unfold InR; omega) (ok_ltv (ok_some ⟨_, rfl, fun c i hc => ?_, fun i hi => ?_, fun b hb => ?_⟩)))))) (fun h => by omega)
      · rw [setM_ne (by omega)]
        exact g1 c i hc
      · rw [setM_ne (by omega)]
        exact g2 i hi
      · by_cases hh : b = j
        · rw [setM_hit (by omega), hv, lab, hh]
          exact arV_eq e3 hj
        · rw [setM_ne (by omega)]
          exact g3 b (by omega)
    · rintro x ⟨g1, -⟩
      unfold M_tellAll_b2
      rw [g1 0 1 (by omega), e1 0 1 (by omega) (by omega), f1 0 1 (by omega) (by omega), e01, if_neg (by omega)]
    · dsimp only at h5
      rw [h5.1 c i (by omega), e1 c i (by omega) (by omega)]
      exact f1 c i w1 w2
    · dsimp only at h5
      by_cases hh : a = k
      · rw [hh]
        exact h5.2.2 b hb
      · rw [h5.2.1 _ (by omega), e1 30 _ (by omega) (by omega)]
        exact f2 a b (by omega) hb
  · rintro m ⟨f1, -⟩
    unfold M_tellAll_b1
    rw [f1 0 1 (by omega) (by omega), e01, if_neg (by omega)]
/-! what is lost -/
noncomputable def lostI (mc : Mem) (day : Int) (s a b : Nat) : Int := if (¬ b = s ∧ ¬ b = a) ∧ arV mc day (-1) 0 (-1) 0 a b < 1000000 ∧ 1000000 ≤ arV mc day (-1) 0 s 0 a b then 1 else 0
noncomputable def lostR (mc : Mem) (day : Int) (s a : Nat) : Int := if ¬ a = s then sI (lostI mc day s a) (nC mc) else 0
noncomputable def lostV (mc : Mem) (day : Int) (s : Nat) : Int := sI (lostR mc day s) (nC mc)
theorem lostI_01 (mc : Mem) (day : Int) (s a b : Nat) : 0 ≤ lostI mc day s a b ∧ lostI mc day s a b ≤ 1 := by
  unfold lostI
  split <;> omega
theorem lostR_bd (I : CI mc) (s a : Nat) : 0 ≤ lostR mc day s a ∧ lostR mc day s a ≤ 12 := by
  have n := CI_n I
  have := sI_bd (h := lostI mc day s a) (z := 1) (by omega) (n := nC mc) (fun k _ => lostI_01 mc day s a k)
  unfold lostR
  split <;> omega
theorem lostFrom_ok {s a : Nat} (I : CI mc) (h1 : m 1 0 = nC mc) (hb : ∀ b : Nat, b < nC mc → m (443 + a) b = arV mc day (-1) 0 (-1) 0 a b) (ha : a < nC mc) (hl : BestQ mc day (-1) 0 s (ini (wC mc s) a 0) (labC 352 m)) : Ok (C_countCutOffFrom a s m) (fun z => z = sI (lostI mc day s a) (nC mc)) := by
  have n := CI_n I
  unfold C_countCutOffFrom
  refine ok_ltv (ok_ltv (ok_bq2 (Q := fun x => x.1 = sI (lostI mc day s a) (nC mc)) ?_ (fun _ _ h => ok_some h)))
  refine ok_loop (fun x => ∃ k : Nat, x.2 = k ∧ k ≤ nC mc ∧ x.1 = sI (lostI mc day s a) k) (fun x => 12 - x.2.toNat) ⟨0, rfl, Nat.zero_le _, rfl⟩ ?_
  rintro ⟨x, y⟩ ⟨k, e1, e2, e3⟩
  dsimp only at e1 e3 ⊢
  subst e1
  have bd := sI_bd (h := lostI mc day s a) (z := 1) (by omega) (n := k) (fun k _ => lostI_01 mc day s a k)
  unfold C_countCutOffFrom_b1
  simp only [Int.toNat_natCast]
  rw [h1]
  refine ok_ite (fun hk => ok_ltv (ok_grd (by omega) ?_)) (fun hk => ok_some ?_)
  · have hk2 : k < nC mc := by omega
    simp only [hb k hk2]
    have step : ∀ v : Int, v = lostI mc day s a k → sI (lostI mc day s a) (k + 1) = x + v := fun v hv => by
      show sI (lostI mc day s a) k + lostI mc day s a k = _
      rw [hv, e3]
    refine ok_ite (fun h => ok_bind (atC_ok (s := k) (by omega)) (fun v hv => ?_)) (fun h => ok_grd (by unfold InR; omega) (ok_ltv (ok_some ⟨⟨k + 1, by dsimp only; omega, by omega, ?_⟩, by dsimp only; omega⟩)))
    · have h0 := h.1
      have h01 : ¬ (k : Int) = s ∧ ¬ (k : Int) = a := by
        by_cases z : ¬ (k : Int) = s ∧ ¬ (k : Int) = a
        · exact z
        · rw [if_neg z] at h0
          exact absurd rfl h0
      have ev : v = arV mc day (-1) 0 s 0 a k := by
        rw [hv]
        exact arV_eq hl hk2
      refine ok_ite (fun h2 => ok_grd (by unfold InR; omega) (ok_ltv (ok_grd (by unfold InR; omega) (ok_ltv (ok_some ⟨⟨k + 1, by dsimp only; omega, by omega, ?_⟩, by dsimp only; omega⟩))))) (fun h2 => ok_grd (by unfold InR; omega) (ok_ltv (ok_some ⟨⟨k + 1, by dsimp only; omega, by omega, ?_⟩, by dsimp only; omega⟩)))
      · dsimp only
        rw [step 1 ?_]
        unfold lostI
        rw [if_pos ⟨by omega, h.2, by omega⟩]
      · dsimp only
        rw [step 0 ?_, Int.add_zero]
        unfold lostI
        rw [if_neg]
        rintro ⟨-, -, q⟩
        omega
    · dsimp only
      rw [step 0 ?_, Int.add_zero]
      unfold lostI
      rw [if_neg]
      rintro ⟨q1, q2, -⟩
      apply h
      rw [if_pos (by omega)]
      exact ⟨by decide, q2⟩
  · have : k = nC mc := by omega
    rw [e3, this]
theorem countCutOff_ok {s : Nat} (I : CI mc) (C : Ctx mc day (-1) 0 (-1) m0) (hs : s < nC mc) (hb : ∀ a b : Nat, a < nC mc → b < nC mc → m0 (443 + a) b = arV mc day (-1) 0 (-1) 0 a b) : Ok (C_countCutOff s m0) (fun x => x.1 = lostV mc day s ∧ Ctx mc day (-1) 0 (-1) x.2 ∧ ∀ c i, 443 ≤ c → x.2 c i = m0 c i) := by
  have n := CI_n I
  have ctx : ∀ (z : Int) (m1 m2 : Mem), Ctx mc day (-1) 0 z m1 → (∀ c i, ¬ (17 ≤ c ∧ c ≤ 28) → ¬ (c = 1 ∧ i = 4) → m2 c i = m1 c i) → ∀ z' : Int, Per mc m2 → NetW mc z' m2 → Ctx mc day (-1) 0 z' m2 := by
    rintro z m1 m2 ⟨-, -, R, H, r1, r2, r3, r4, r5, r6⟩ f z' p w
    exact ⟨p, w, R, H, by rw [f _ _ (by omega) (by omega)]; exact r1, by rw [f _ _ (by omega) (by omega)]; exact r2, r3, r4, NetT_fr I r3 r5 (fun c i a b => f c i (by omega) (by omega)), NetK_fr r3 r6 (fun c i a b => f c i (by omega) (by omega))⟩
  unfold C_countCutOff
  refine ok_bind (linkP_ok (cut := (s : Int)) I C.1) (fun m1 h1 => ok_ltv (ok_ltv ?_))
  have C1 := ctx _ _ _ C h1.1 (s : Int) h1.2.1 h1.2.2
  refine ok_bq3 (Q := fun (x : Int × Int × Mem) => x.1 = lostV mc day s ∧ FrSc m1 x.2.2) ?_ (fun cnt _ m4 h4 => ok_bind (linkP_ok (cut := -1) I (FrSc_ctx I C1 h4.2).1) (fun m5 h5 => ok_some ⟨h4.1, ctx _ _ _ (FrSc_ctx I C1 h4.2) h5.1 (-1) h5.2.1 h5.2.2, fun c i hc => ?_⟩))
  · refine ok_loop (fun x => ∃ k : Nat, x.2.1 = k ∧ k ≤ nC mc ∧ x.1 = sI (lostR mc day s) k ∧ FrSc m1 x.2.2) (fun x => 12 - x.2.1.toNat) ⟨0, rfl, Nat.zero_le _, rfl, fun _ _ _ => rfl⟩ ?_
    rintro ⟨x, y, m⟩ ⟨k, e1, e2, e3, f⟩
    dsimp only at e1 e3 f ⊢
    subst e1
    have Cm := FrSc_ctx I C1 f
    have bd := sI_bd (h := lostR mc day s) (z := 12) (by omega) (n := k) (fun k _ => lostR_bd I s k)
    have b1 := lostR_bd (day := day) I s k
    have kb : (k : Int) * 12 ≤ 144 := by omega
    have step : ∀ v : Int, v = lostR mc day s k → sI (lostR mc day s) (k + 1) = x + v := fun v hv => by
      show sI (lostR mc day s) k + lostR mc day s k = _
      rw [hv, e3]
    unfold C_countCutOff_b1
    rw [(CtL_of I Cm.1 Cm.2.1).1]
    refine ok_ite (fun hk => ok_ite (fun hks => ok_bind (scan_ok (a := k) (t := 0) I (by omega) Cm (by omega) hks (by omega)) (fun m3 s3 => ?_)) (fun hks => ok_grd (by unfold InR; omega) (ok_ltv (ok_some ⟨⟨k + 1, by dsimp only; omega, by omega, ?_, f⟩, by dsimp only; omega⟩)))) (fun hk => ok_some ⟨?_, f⟩)
    · have f3 : FrSc m1 m3 := fun c i h => by rw [s3.1 c i h]; exact f c i h
      have C3 := FrSc_ctx I C1 f3
      refine ok_bind (lostFrom_ok (s := s) (a := k) I (CtL_of I C3.1 C3.2.1).1 (fun b hb' => ?_) (by omega) s3.2.1) (fun v hv => ?_)
      · rw [f3 _ _ (by omega), h1.1 _ _ (by omega) (by omega)]
        exact hb k b (by omega) hb'
      · have ev : v = lostR mc day s k := by
          unfold lostR
          rw [if_pos (by omega)]
          exact hv
        refine ok_grd (by unfold InR; omega) (ok_ltv (ok_grd (by unfold InR; omega) (ok_ltv (ok_some ⟨⟨k + 1, by dsimp only; omega, by omega, ?_, f3⟩, by dsimp only; omega⟩))))
        dsimp only
        rw [step v ev]
    · dsimp only
      rw [step 0 ?_, Int.add_zero]
      unfold lostR
      rw [if_neg (by omega)]
    · have : k = nC mc := by omega
      rw [e3, this]
      rfl
  · dsimp only at h4 ⊢
    rw [h5.1 c i (by omega) (by omega), h4.2 c i (by omega), h1.1 c i (by omega) (by omega)]
/-! the reference -/
theorem Inv_ways {mm' : Mem} (I : Inv mc mm) (h : ∀ c i, pM c i → ¬ c = 3 → mm' c i = mm c i) (w : ∀ a b : Nat, a < nC mc → b < nC mc → mm' 3 (12 * a + b) = dg (wC mc (-1)) a b) : Inv mc mm' := by
  have n := CI_n ⟨_, I⟩
  obtain ⟨a, b, c, d, e, f, g⟩ := I
  refine ⟨?_, IV_fr b (fun _ _ _ => rfl) (fun c i q => h c i (by unfold mV at q; unfold pM; omega) (by unfold mV at q; omega)), IT_fr c (fun _ _ _ => rfl) (fun c i q => h c i (by unfold mT at q; unfold pM; omega) (by unfold mT at q; omega)), ID_fr d (fun _ _ _ => rfl) (fun c i q => h c i (by unfold mD at q; unfold pM; omega) (by unfold mD at q; omega)), IR_fr e (fun _ _ _ => rfl) (fun c i q => h c i (by unfold mR at q; unfold pM; omega) (by unfold mR at q; omega)), IC_fr f (fun _ _ _ => rfl) (fun c i q => h c i (by unfold mK at q; unfold pM; omega) (by unfold mK at q; omega)), IW_fr g (fun _ _ _ => rfl) (fun c i q => h c i (by unfold mW at q; unfold pM; omega) (by unfold mW at q; omega))⟩
  obtain ⟨i1, i2, i3, i4, i5, i6, i7, i8⟩ := a
  refine ⟨by rw [h 0 1 (by unfold pM; omega) (by omega)]; exact i1, i2, i3, i4, by rw [h 0 5 (by unfold pM; omega) (by omega)]; exact i5, fun x hx => by rw [h 1 x (by unfold pM; omega) (by omega)]; exact i6 x hx, fun x y hx hy => by rw [h 2 _ (by unfold pM; omega) (by omega)]; exact i7 x y hx hy, fun x y hx hy => w x y (by omega) (by omega)⟩
theorem RelM_cut {mm' : Mem} (I : Inv mc mm) (h : ∀ c i, pM c i → ¬ c = 3 → ¬ (c = 0 ∧ i = 5) → mm' c i = mm c i) (h5 : mm' 0 5 = cut) (hd : mm' 0 22 = day) (w : ∀ a b : Nat, a < nC mc → b < nC mc → mm' 3 (12 * a + b) = dg (wC mc cut) a b) : RelM mc day (-1) 0 cut mm' := by
  have r := RelM_inv (day := day) (mm' := setM mm 0 22 day) I (fun c i q => setM_ne (by unfold pM at q; omega)) (setM_same _ _ _ _)
  have n := CI_n ⟨_, I⟩
  obtain ⟨⟨r1, r2, r3, r4, r7⟩, q2, q3, q4, q5, q6⟩ := r
  have e : ∀ c i, rM c i → ¬ c = 3 → ¬ (c = 0 ∧ (i = 5 ∨ i = 22)) → mm' c i = setM mm 0 22 day c i := fun c i x y z => by
    rw [setM_ne (by omega)]
    exact h c i (by unfold rM at x; unfold pM; omega) y (by omega)
  refine ⟨⟨by rw [e 0 1 (by unfold rM; omega) (by omega) (by omega)]; exact r1, h5, by rw [e 0 8 (by unfold rM; omega) (by omega) (by omega)]; exact r3, hd, by rw [e 0 14 (by unfold rM; omega) (by omega) (by omega)]; exact r7⟩, fun a ha => by rw [e 1 _ (by unfold rM; omega) (by omega) (by omega)]; exact q2 a ha, w, fun s d hs hd => by rw [e 4 _ (by unfold rM; omega) (by omega) (by omega)]; exact q4 s d hs hd, fun t ht => ?_, fun k hk => ?_⟩
  · have z := q5 t ht
    rw [e 5 _ (by unfold rM; omega) (by omega) (by omega), e 6 _ (by unfold rM; omega) (by omega) (by omega)]
    refine ⟨z.1, z.2.1, fun c hc => ?_⟩
    rw [e 7 _ (by unfold rM; omega) (by omega) (by omega), e 8 _ (by unfold rM; omega) (by omega) (by omega), e 9 _ (by unfold rM; omega) (by omega) (by omega)]
    exact z.2.2 c hc
  · rw [e 10 _ (by unfold rM; omega) (by omega) (by omega), e 11 _ (by unfold rM; omega) (by omega) (by omega), e 12 _ (by unfold rM; omega) (by omega) (by omega), e 13 _ (by unfold rM; omega) (by omega) (by omega)]
    exact q6 k hk
theorem lostBy_ok {s : Nat} (J : Inv mc mm) (hd : 0 ≤ day ∧ day ≤ 27) (hs : s < nC mc) : Ok (M_lostBy s day mm) (fun x => x.1 = lostV mc day s ∧ Inv mc x.2 ∧ x.2 0 0 = mm 0 0) := by
  have I : CI mc := ⟨_, J⟩
  have n := CI_n I
  unfold M_lostBy
  refine ok_bind (tellAll_ok (t := 0) I hd (by omega) (relM_set J) (by omega)) (fun m1 h1 => ok_ltv ?_)
  have J1 : Inv mc m1 := Inv_fr J (fun _ _ _ => rfl) (fun c i q => h1.1 c i (by unfold pM at q; omega) (by unfold pM at q; omega))
  obtain ⟨j1, j2, j3, j4, j5, j6, j7, j8⟩ := id J1.1
  obtain ⟨m2, hm2⟩ : ∃ m2, m2 = setM m1 0 5 (s : Int) := ⟨_, rfl⟩
  rw [← hm2]
  have y2 : ∀ c i, ¬ (c = 0 ∧ i = 5) → m2 c i = m1 c i := fun c i h => by rw [hm2]; exact setM_ne h
  have y25 : m2 0 5 = s := by rw [hm2]; exact setM_same _ _ _ _
  have tb : ∀ x : Mem, (∀ a b : Nat, a < 12 → b < 12 → x 2 (12 * a + b) = m1 2 (12 * a + b)) → TB (toldM x) ∧ ∀ cut : Int, ∀ a b : Nat, a < nC mc → b < nC mc → dg (fw (toldM x) cut (nC mc)) a b = dg (wC mc cut) a b := fun x hx => by
    refine ⟨fun a b ha hb => ?_, fun cut a b ha hb => ?_⟩
    · have := j7 a b ha hb
      unfold toldM
      rw [hx a b ha hb]
      exact ⟨by omega, by omega, fun q => by have := this.2.2.2 q; omega⟩
    · unfold dg
      split
      · rfl
      · exact fw_MC (fun a b ha hb => by rw [hx a b ha hb]; exact (j7 a b ha hb).1) n.2 (by omega) (by omega)
  have t2 := tb m2 (fun a b _ _ => y2 2 _ (by omega))
  refine ok_bind ((walks_ok (n := nC mc) (by rw [y2 0 1 (by omega)]; omega) n.2 t2.1)) (fun m3 h3 => ok_ltv (ok_ltv ?_))
  have w3 : ∀ a b : Nat, a < nC mc → b < nC mc → m3 3 (12 * a + b) = dg (wC mc (s : Int)) a b := fun a b ha hb => by
    rw [h3.2 a b ha hb, y25]
    exact t2.2 s a b ha hb
  have f3 : ∀ c i, ¬ c = 3 → ¬ (c = 0 ∧ i = 5) → m3 c i = m1 c i := fun c i a b => by rw [h3.1 c i a, y2 c i b]
  have r3 : RelM mc day (-1) 0 (s : Int) (setM m3 0 22 day) := RelM_cut J1 (fun c i q a b => by rw [setM_ne (by unfold pM at q; omega)]; exact f3 c i a b) (by rw [setM_ne (by omega), h3.1 0 5 (by omega), y25]) (setM_same _ _ _ _) (fun a b ha hb => by rw [setM_ne (by omega)]; exact w3 a b ha hb)
  have fr0 : ∀ c i, ¬ (c = 15 ∨ c = 16 ∨ c = 30) → ¬ (c = 0 ∧ (i = 22 ∨ i = 25)) → m1 c i = mm c i := h1.1
  refine ok_bq3 (Q := fun (x : Int × Int × Mem) => x.1 = lostV mc day s ∧ ∀ c i, ¬ (c = 15 ∨ c = 16) → ¬ (c = 0 ∧ (i = 22 ∨ i = 25)) → x.2.2 c i = m3 c i) ?_ (fun cnt _ m8 h8 => ok_ltv ?_)
  · refine ok_loop (fun x => ∃ k : Nat, x.2.1 = k ∧ k ≤ nC mc ∧ x.1 = sI (lostR mc day s) k ∧ ∀ c i, ¬ (c = 15 ∨ c = 16) → ¬ (c = 0 ∧ (i = 22 ∨ i = 25)) → x.2.2 c i = m3 c i) (fun x => 12 - x.2.1.toNat) ⟨0, rfl, Nat.zero_le _, rfl, fun _ _ _ _ => rfl⟩ ?_
    rintro ⟨x, y, m⟩ ⟨k, e1, e2, e3, f⟩
    dsimp only at e1 e3 f ⊢
    subst e1
    have bd := sI_bd (h := lostR mc day s) (z := 12) (by omega) (n := k) (fun k _ => lostR_bd I s k)
    have kb : (k : Int) * 12 ≤ 144 := by omega
    unfold M_lostBy_b1
    rw [f 0 1 (by omega) (by omega), f3 0 1 (by omega) (by omega), j1, n.1]
    refine ok_ite (fun hk => ok_ltv (ok_bq3 (Q := fun (z : Int × Int × Mem) => z.1 = x + lostR mc day s k ∧ ∀ c i, ¬ (c = 15 ∨ c = 16) → ¬ (c = 0 ∧ (i = 22 ∨ i = 25)) → z.2.2 c i = m3 c i) ?_ (fun z _ m7 hz => ok_grd (by unfold InR; omega) (ok_ltv (ok_some ⟨⟨k + 1, by dsimp only; omega, by omega, ?_, hz.2⟩, by dsimp only; omega⟩))))) (fun hk => ok_some ⟨?_, f⟩)
    · have hk2 : k < nC mc := by omega
      refine ok_loop (fun z => ∃ j : Nat, z.2.1 = j ∧ j ≤ nC mc ∧ z.1 = x + (if ¬ k = s then sI (lostI mc day s k) j else 0) ∧ ∀ c i, ¬ (c = 15 ∨ c = 16) → ¬ (c = 0 ∧ (i = 22 ∨ i = 25)) → z.2.2 c i = m3 c i) (fun z => 12 - z.2.1.toNat) ⟨0, rfl, Nat.zero_le _, by dsimp only [sI]; split <;> omega, f⟩ ?_
      rintro ⟨z, y, m'⟩ ⟨j, q1, q2, q3, g⟩
      dsimp only at q1 q3 g ⊢
      subst q1
      have bj := sI_bd (h := lostI mc day s k) (z := 1) (by omega) (n := j) (fun i _ => lostI_01 mc day s k i)
      have zb : 0 ≤ z ∧ z ≤ 1000 := by
        rw [q3]
        split <;> omega
      unfold M_lostBy_b2
      rw [g 0 1 (by omega) (by omega), f3 0 1 (by omega) (by omega), j1, n.1, i12, g 30 _ (by omega) (by omega), f3 30 _ (by omega) (by omega)]
      refine ok_ite (fun hj => ok_grd (by unfold InR; omega) ?_) (fun hj => ok_some ⟨?_, g⟩)
      · have hj2 : j < nC mc := by omega
        rw [h1.2 k j hk2 hj2]
        have step : ∀ v : Int, (¬ k = s → v = lostI mc day s k j) → (k = s → v = 0) → z + v = x + (if ¬ k = s then sI (lostI mc day s k) (j + 1) else 0) := fun v hv hv2 => by
          rw [q3]
          by_cases hks : k = s
          · rw [if_neg (fun q => q hks), if_neg (fun q => q hks), hv2 hks]
            omega
          · rw [if_pos hks, if_pos hks, hv hks]
            show _ = x + (sI (lostI mc day s k) j + lostI mc day s k j)
            omega
        refine ok_ite (fun h => ok_bq2 (earliestOf_ok (a := k) (b := j) I hd (by omega) (RelM_fr r3 (fun c i w => by
          by_cases hh : c = 0 ∧ i = 22
          · rw [hh.1, hh.2, setM_same, setM_same]
          · rw [setM_ne hh, setM_ne hh]
            exact g c i (by unfold rM at w; omega) (by unfold rM at w; omega))) hk2 hj2 (by omega)) (fun t m6 e => ?_)) (fun h => ok_grd (by unfold InR; omega) (ok_ltv (ok_some ⟨⟨j + 1, by dsimp only; omega, by omega, ?_, g⟩, by dsimp only; omega⟩)))
        · dsimp only at e
          obtain ⟨w1, w2, w3', w4, w5⟩ := e
          have et : t = arV mc day (-1) 0 s 0 k j := by
            rw [w5]
            exact arV_eq w3' hj2
          have g6 : ∀ c i, ¬ (c = 15 ∨ c = 16) → ¬ (c = 0 ∧ (i = 22 ∨ i = 25)) → m6 c i = m3 c i := fun c i a b => by
            rw [w1 c i a b]
            exact g c i a b
          refine ok_ite (fun h2 => ok_grd (by unfold InR; omega) (ok_ltv (ok_grd (by unfold InR; omega) (ok_ltv (ok_some ⟨⟨j + 1, by dsimp only; omega, by omega, ?_, g6⟩, by dsimp only; omega⟩))))) (fun h2 => ok_grd (by unfold InR; omega) (ok_ltv (ok_some ⟨⟨j + 1, by dsimp only; omega, by omega, ?_, g6⟩, by dsimp only; omega⟩)))
          · dsimp only
            refine step 1 (fun _ => ?_) (fun q => by omega)
            unfold lostI
            rw [if_pos ⟨by omega, h.2, by omega⟩]
          · dsimp only
            have := step 0 (fun _ => ?_) (fun q => rfl)
            · rw [← this, Int.add_zero]
            · unfold lostI
              rw [if_neg]
              rintro ⟨-, -, q⟩
              omega
        · dsimp only
          have := step 0 (fun hks => ?_) (fun q => rfl)
          · rw [← this, Int.add_zero]
          · unfold lostI
            rw [if_neg]
            rintro ⟨q1, q2, -⟩
            exact h ⟨by omega, q2⟩
      · have : j = nC mc := by omega
        rw [q3, this]
        rfl
    · dsimp only at hz ⊢
      rw [hz.1, e3]
      rfl
    · have : k = nC mc := by omega
      rw [e3, this]
      rfl
  · dsimp only at h8
    obtain ⟨m9, hm9⟩ : ∃ m9, m9 = setM m8 0 5 (-1) := ⟨_, rfl⟩
    rw [← hm9]
    have y9 : ∀ c i, ¬ (c = 0 ∧ i = 5) → m9 c i = m8 c i := fun c i h => by rw [hm9]; exact setM_ne h
    have y95 : m9 0 5 = -1 := by rw [hm9]; exact setM_same _ _ _ _
    have e9 : ∀ c i, ¬ c = 3 → ¬ (c = 15 ∨ c = 16) → ¬ (c = 0 ∧ (i = 5 ∨ i = 22 ∨ i = 25)) → m9 c i = m1 c i := fun c i a b d => by
      rw [y9 c i (by omega), h8.2 c i b (by omega)]
      exact f3 c i a (by omega)
    have t9 := tb m9 (fun a b _ _ => e9 2 _ (by omega) (by omega) (by omega))
    refine ok_bind ((walks_ok (n := nC mc) (by rw [e9 0 1 (by omega) (by omega) (by omega)]; omega) n.2 t9.1)) (fun m10 h10 => ok_some ⟨h8.1, ?_, ?_⟩)
    · refine Inv_ways J1 (fun c i q q3 => ?_) (fun a b ha hb => ?_)
      · dsimp only
        rw [h10.1 c i q3]
        by_cases hh : c = 0 ∧ i = 5
        · rw [hh.1, hh.2, y95, j5]
        · exact e9 c i q3 (by unfold pM at q; omega) (by unfold pM at q; omega)
      · dsimp only
        rw [h10.2 a b ha hb, y95]
        exact t9.2 (-1) a b ha hb
    · dsimp only
      rw [h10.1 0 0 (by omega), e9 0 0 (by omega) (by omega) (by omega)]
      exact h1.1 0 0 (by omega) (by omega)
theorem st_lost : ST_lost Inv := by
  intro mc mm p0 p1 I _ _
  obtain ⟨i1, i2, i3, -⟩ := id I.1
  have CI0 : CI mc := ⟨_, I⟩
  have n := CI_n CI0
  refine ag_of ?_
  unfold C_lost
  repeat' (first
    | with_reducible refine ok_ltv ?_
    | with_reducible refine ok_tbd_inl ?_
    | with_reducible refine ok_tbd_inr ?_
    | with_reducible refine wp_bind ?_
    | with_reducible refine wp_bq1 ?_
    | with_reducible refine wp_bq2 ?_
    | (with_reducible refine wp_needNumber (fun _ => ?_) (fun _ _ => ?_)) <;> (try (exfalso; omega))
    | (with_reducible refine wp_needDay (fun _ => ?_) (fun _ _ => ?_)) <;> (try (exfalso; omega))
    | (with_reducible refine wp_needStop (fun _ => ?_) (fun _ _ => ?_)) <;> (try (exfalso; omega))
    | (with_reducible refine wp_needService (fun _ => ?_) (fun _ _ => ?_)) <;> (try (exfalso; omega))
    | (with_reducible refine wp_needTrip (fun _ => ?_) (fun _ _ => ?_)) <;> (try (exfalso; omega))
    | (with_reducible refine wp_needCall (by omega) (fun _ => ?_) (fun _ _ _ _ => ?_)) <;> (try (exfalso; omega))
    | (with_reducible refine wp_needUnlike (fun _ => ?_) (fun _ => ?_)) <;> (try (exfalso; omega))
    | (with_reducible refine wp_needFound (fun _ => ?_) (fun _ => ?_)) <;> (try (exfalso; omega))
    | (with_reducible refine wp_needRoomForTrip (fun _ => ?_) (fun _ => ?_)) <;> (try (exfalso; omega))
    | (with_reducible refine wp_needRoomForSigns (by unfold InR; omega) (fun _ => ?_) (fun _ => ?_)) <;> (try (exfalso; omega))
    | (with_reducible refine wp_isNoStop (by (try simp (disch := omega) only [setM_ne, setM_hit, true_and, and_true]); omega) (by (try simp (disch := omega) only [setM_ne, setM_hit, true_and, and_true]); omega) (fun h => ?_) (fun h1 h2 => ?_)) <;> (try simp (disch := omega) only [setM_ne, setM_hit, true_and, and_true] at h) <;> (try simp (disch := omega) only [setM_ne, setM_hit, true_and, and_true] at h1) <;> (try simp (disch := omega) only [setM_ne, setM_hit, true_and, and_true] at h2) <;> (try (exfalso; omega))
    | (with_reducible refine wp_isNoService (by (try simp (disch := omega) only [setM_ne, setM_hit, true_and, and_true]); omega) (by (try simp (disch := omega) only [setM_ne, setM_hit, true_and, and_true]); omega) (fun h => ?_) (fun h1 h2 => ?_)) <;> (try simp (disch := omega) only [setM_ne, setM_hit, true_and, and_true] at h) <;> (try simp (disch := omega) only [setM_ne, setM_hit, true_and, and_true] at h1) <;> (try simp (disch := omega) only [setM_ne, setM_hit, true_and, and_true] at h2) <;> (try (exfalso; omega))
    | (with_reducible refine wp_isNoTrip (by (try simp (disch := omega) only [setM_ne, setM_hit, true_and, and_true]); omega) (by (try simp (disch := omega) only [setM_ne, setM_hit, true_and, and_true]); omega) (fun h => ?_) (fun h1 h2 => ?_)) <;> (try simp (disch := omega) only [setM_ne, setM_hit, true_and, and_true] at h) <;> (try simp (disch := omega) only [setM_ne, setM_hit, true_and, and_true] at h1) <;> (try simp (disch := omega) only [setM_ne, setM_hit, true_and, and_true] at h2) <;> (try (exfalso; omega))
    | (with_reducible refine wp_isNoDay (fun h => ?_) (fun h1 h2 => ?_)) <;> (try (exfalso; omega))
    | with_reducible refine wp_isThrown1 ?_
    | with_reducible refine wp_isThrown0 ?_
    | (with_reducible refine wp_isThrownI (fun h => ?_) (fun h => ?_)) <;> (try simp (disch := omega) only [setM_ne, setM_hit, true_and, and_true] at h) <;> (try simp only [isIn0] at h) <;> (try (exfalso; omega))
    | with_reducible refine ok_grd (by (try simp (disch := omega) only [setM_ne, setM_hit, true_and, and_true]); (try unfold InR); omega) ?_
    | (with_reducible refine ok_some ?_) <;> (try dsimp only)
    | (with_reducible refine ok_ite (fun h => ?_) (fun h => ?_)) <;> (try dsimp only at h) <;> (try simp (disch := omega) only [setM_ne, setM_hit, true_and, and_true] at h) <;> (try simp only [isIn0, i01] at h) <;> (try (exfalso; first | exact h trivial | omega)))
  · unfold M_lost
    repeat' (first
    | with_reducible refine ok_ltv ?_
    | with_reducible refine ok_tbd_inl ?_
    | with_reducible refine ok_tbd_inr ?_
    | with_reducible refine wp_bind ?_
    | with_reducible refine wp_bq1 ?_
    | with_reducible refine wp_bq2 ?_
    | (with_reducible refine wp_needNumber (fun _ => ?_) (fun _ _ => ?_)) <;> (try (exfalso; omega))
    | (with_reducible refine wp_needDay (fun _ => ?_) (fun _ _ => ?_)) <;> (try (exfalso; omega))
    | (with_reducible refine wp_needStop (fun _ => ?_) (fun _ _ => ?_)) <;> (try (exfalso; omega))
    | (with_reducible refine wp_needService (fun _ => ?_) (fun _ _ => ?_)) <;> (try (exfalso; omega))
    | (with_reducible refine wp_needTrip (fun _ => ?_) (fun _ _ => ?_)) <;> (try (exfalso; omega))
    | (with_reducible refine wp_needCall (by omega) (fun _ => ?_) (fun _ _ _ _ => ?_)) <;> (try (exfalso; omega))
    | (with_reducible refine wp_needUnlike (fun _ => ?_) (fun _ => ?_)) <;> (try (exfalso; omega))
    | (with_reducible refine wp_needFound (fun _ => ?_) (fun _ => ?_)) <;> (try (exfalso; omega))
    | (with_reducible refine wp_needRoomForTrip (fun _ => ?_) (fun _ => ?_)) <;> (try (exfalso; omega))
    | (with_reducible refine wp_needRoomForSigns (by unfold InR; omega) (fun _ => ?_) (fun _ => ?_)) <;> (try (exfalso; omega))
    | (with_reducible refine wp_isNoStop (by (try simp (disch := omega) only [setM_ne, setM_hit, true_and, and_true]); omega) (by (try simp (disch := omega) only [setM_ne, setM_hit, true_and, and_true]); omega) (fun h => ?_) (fun h1 h2 => ?_)) <;> (try simp (disch := omega) only [setM_ne, setM_hit, true_and, and_true] at h) <;> (try simp (disch := omega) only [setM_ne, setM_hit, true_and, and_true] at h1) <;> (try simp (disch := omega) only [setM_ne, setM_hit, true_and, and_true] at h2) <;> (try (exfalso; omega))
    | (with_reducible refine wp_isNoService (by (try simp (disch := omega) only [setM_ne, setM_hit, true_and, and_true]); omega) (by (try simp (disch := omega) only [setM_ne, setM_hit, true_and, and_true]); omega) (fun h => ?_) (fun h1 h2 => ?_)) <;> (try simp (disch := omega) only [setM_ne, setM_hit, true_and, and_true] at h) <;> (try simp (disch := omega) only [setM_ne, setM_hit, true_and, and_true] at h1) <;> (try simp (disch := omega) only [setM_ne, setM_hit, true_and, and_true] at h2) <;> (try (exfalso; omega))
    | (with_reducible refine wp_isNoTrip (by (try simp (disch := omega) only [setM_ne, setM_hit, true_and, and_true]); omega) (by (try simp (disch := omega) only [setM_ne, setM_hit, true_and, and_true]); omega) (fun h => ?_) (fun h1 h2 => ?_)) <;> (try simp (disch := omega) only [setM_ne, setM_hit, true_and, and_true] at h) <;> (try simp (disch := omega) only [setM_ne, setM_hit, true_and, and_true] at h1) <;> (try simp (disch := omega) only [setM_ne, setM_hit, true_and, and_true] at h2) <;> (try (exfalso; omega))
    | (with_reducible refine wp_isNoDay (fun h => ?_) (fun h1 h2 => ?_)) <;> (try (exfalso; omega))
    | with_reducible refine wp_isThrown1 ?_
    | with_reducible refine wp_isThrown0 ?_
    | (with_reducible refine wp_isThrownI (fun h => ?_) (fun h => ?_)) <;> (try simp (disch := omega) only [setM_ne, setM_hit, true_and, and_true] at h) <;> (try simp only [isIn0] at h) <;> (try (exfalso; omega))
    | with_reducible refine ok_grd (by (try simp (disch := omega) only [setM_ne, setM_hit, true_and, and_true]); (try unfold InR); omega) ?_
    | (with_reducible refine ok_some ?_) <;> (try dsimp only)
    | (with_reducible refine ok_ite (fun h => ?_) (fun h => ?_)) <;> (try dsimp only at h) <;> (try simp (disch := omega) only [setM_ne, setM_hit, true_and, and_true] at h) <;> (try simp only [isIn0, i01] at h) <;> (try (exfalso; first | exact h trivial | omega)))
    (refine agp_er ?_ ?_ ?_); decide; (first | (rw [setM_same]; rfl) | (dsimp only; simp (disch := omega) only [setM_ne, setM_hit, true_and, and_true]; rfl))
    repeat (first | exact I | with_reducible refine Inv_thr ?_ _)
  · unfold M_lost
    repeat' (first
    | with_reducible refine ok_ltv ?_
    | with_reducible refine ok_tbd_inl ?_
    | with_reducible refine ok_tbd_inr ?_
    | with_reducible refine wp_bind ?_
    | with_reducible refine wp_bq1 ?_
    | with_reducible refine wp_bq2 ?_
    | (with_reducible refine wp_needNumber (fun _ => ?_) (fun _ _ => ?_)) <;> (try (exfalso; omega))
    | (with_reducible refine wp_needDay (fun _ => ?_) (fun _ _ => ?_)) <;> (try (exfalso; omega))
    | (with_reducible refine wp_needStop (fun _ => ?_) (fun _ _ => ?_)) <;> (try (exfalso; omega))
    | (with_reducible refine wp_needService (fun _ => ?_) (fun _ _ => ?_)) <;> (try (exfalso; omega))
    | (with_reducible refine wp_needTrip (fun _ => ?_) (fun _ _ => ?_)) <;> (try (exfalso; omega))
    | (with_reducible refine wp_needCall (by omega) (fun _ => ?_) (fun _ _ _ _ => ?_)) <;> (try (exfalso; omega))
    | (with_reducible refine wp_needUnlike (fun _ => ?_) (fun _ => ?_)) <;> (try (exfalso; omega))
    | (with_reducible refine wp_needFound (fun _ => ?_) (fun _ => ?_)) <;> (try (exfalso; omega))
    | (with_reducible refine wp_needRoomForTrip (fun _ => ?_) (fun _ => ?_)) <;> (try (exfalso; omega))
    | (with_reducible refine wp_needRoomForSigns (by unfold InR; omega) (fun _ => ?_) (fun _ => ?_)) <;> (try (exfalso; omega))
    | (with_reducible refine wp_isNoStop (by (try simp (disch := omega) only [setM_ne, setM_hit, true_and, and_true]); omega) (by (try simp (disch := omega) only [setM_ne, setM_hit, true_and, and_true]); omega) (fun h => ?_) (fun h1 h2 => ?_)) <;> (try simp (disch := omega) only [setM_ne, setM_hit, true_and, and_true] at h) <;> (try simp (disch := omega) only [setM_ne, setM_hit, true_and, and_true] at h1) <;> (try simp (disch := omega) only [setM_ne, setM_hit, true_and, and_true] at h2) <;> (try (exfalso; omega))
    | (with_reducible refine wp_isNoService (by (try simp (disch := omega) only [setM_ne, setM_hit, true_and, and_true]); omega) (by (try simp (disch := omega) only [setM_ne, setM_hit, true_and, and_true]); omega) (fun h => ?_) (fun h1 h2 => ?_)) <;> (try simp (disch := omega) only [setM_ne, setM_hit, true_and, and_true] at h) <;> (try simp (disch := omega) only [setM_ne, setM_hit, true_and, and_true] at h1) <;> (try simp (disch := omega) only [setM_ne, setM_hit, true_and, and_true] at h2) <;> (try (exfalso; omega))
    | (with_reducible refine wp_isNoTrip (by (try simp (disch := omega) only [setM_ne, setM_hit, true_and, and_true]); omega) (by (try simp (disch := omega) only [setM_ne, setM_hit, true_and, and_true]); omega) (fun h => ?_) (fun h1 h2 => ?_)) <;> (try simp (disch := omega) only [setM_ne, setM_hit, true_and, and_true] at h) <;> (try simp (disch := omega) only [setM_ne, setM_hit, true_and, and_true] at h1) <;> (try simp (disch := omega) only [setM_ne, setM_hit, true_and, and_true] at h2) <;> (try (exfalso; omega))
    | (with_reducible refine wp_isNoDay (fun h => ?_) (fun h1 h2 => ?_)) <;> (try (exfalso; omega))
    | with_reducible refine wp_isThrown1 ?_
    | with_reducible refine wp_isThrown0 ?_
    | (with_reducible refine wp_isThrownI (fun h => ?_) (fun h => ?_)) <;> (try simp (disch := omega) only [setM_ne, setM_hit, true_and, and_true] at h) <;> (try simp only [isIn0] at h) <;> (try (exfalso; omega))
    | with_reducible refine ok_grd (by (try simp (disch := omega) only [setM_ne, setM_hit, true_and, and_true]); (try unfold InR); omega) ?_
    | (with_reducible refine ok_some ?_) <;> (try dsimp only)
    | (with_reducible refine ok_ite (fun h => ?_) (fun h => ?_)) <;> (try dsimp only at h) <;> (try simp (disch := omega) only [setM_ne, setM_hit, true_and, and_true] at h) <;> (try simp only [isIn0, i01] at h) <;> (try (exfalso; first | exact h trivial | omega)))
    (refine agp_er ?_ ?_ ?_); decide; (first | (rw [setM_same]; rfl) | (dsimp only; simp (disch := omega) only [setM_ne, setM_hit, true_and, and_true]; rfl))
    repeat (first | exact I | with_reducible refine Inv_thr ?_ _)
  · obtain ⟨s, rfl⟩ : ∃ s : Nat, p0 = s := ⟨p0.toNat, by omega⟩
    refine (lay_ok (sh := -1) (mi := 0) CI0 (by omega) (by omega) (Ctx_self I)).mono (fun m1 l => ?_)
    refine ok_bind (fillArr_ok (t := 0) CI0 (by omega) ⟨l.2.1, l.2.2.1, l.2.2.2⟩ (by omega)) (fun m2 h2 => ?_)
    have C2 : Ctx mc p1 (-1) 0 (-1) m2 := Ctx_fr CI0 ⟨l.2.1, l.2.2.1, l.2.2.2⟩ (fun c i h => h2.1 c i (by unfold cX pC at h; omega) (by unfold cX pC at h; omega))
    refine ok_bq2 (countCutOff_ok (s := s) CI0 C2 (by omega) h2.2) (fun cnt m5 h5 => ok_some ?_)
    dsimp only at h5
    unfold M_lost
    refine wp_bq2 (wp_isNoStop (by omega) (by omega) (fun _ => by omega) (fun _ _ => ok_ite (fun q => absurd rfl q) (fun _ => wp_bq2 (wp_isNoDay (fun _ => by omega) (fun _ _ => ok_ite (fun q => absurd rfl q) (fun _ => ok_bq2 (lostBy_ok (s := s) (Inv_thr (Inv_thr I 0) 0) (by omega) (by omega)) (fun c2 mm2 h6 => ok_some ?_)))))))
    dsimp only at h6
    refine agp_ok (by rw [h6.2.2]; exact setM_same _ _ _ _) (by rw [h6.1, h5.1]) (Inv_end h6.2.1 h5.2.1.1 h5.2.1.2.1.1 (fun _ _ _ => rfl))
theorem st_bridges : ST_bridges Inv := by
  intro mc mm p0 I _
  obtain ⟨i1, i2, i3, -⟩ := id I.1
  have CI0 : CI mc := ⟨_, I⟩
  have n := CI_n CI0
  refine ag_of ?_
  unfold C_bridges
  repeat' (first
    | with_reducible refine ok_ltv ?_
    | with_reducible refine ok_tbd_inl ?_
    | with_reducible refine ok_tbd_inr ?_
    | with_reducible refine wp_bind ?_
    | with_reducible refine wp_bq1 ?_
    | with_reducible refine wp_bq2 ?_
    | (with_reducible refine wp_needNumber (fun _ => ?_) (fun _ _ => ?_)) <;> (try (exfalso; omega))
    | (with_reducible refine wp_needDay (fun _ => ?_) (fun _ _ => ?_)) <;> (try (exfalso; omega))
    | (with_reducible refine wp_needStop (fun _ => ?_) (fun _ _ => ?_)) <;> (try (exfalso; omega))
    | (with_reducible refine wp_needService (fun _ => ?_) (fun _ _ => ?_)) <;> (try (exfalso; omega))
    | (with_reducible refine wp_needTrip (fun _ => ?_) (fun _ _ => ?_)) <;> (try (exfalso; omega))
    | (with_reducible refine wp_needCall (by omega) (fun _ => ?_) (fun _ _ _ _ => ?_)) <;> (try (exfalso; omega))
    | (with_reducible refine wp_needUnlike (fun _ => ?_) (fun _ => ?_)) <;> (try (exfalso; omega))
    | (with_reducible refine wp_needFound (fun _ => ?_) (fun _ => ?_)) <;> (try (exfalso; omega))
    | (with_reducible refine wp_needRoomForTrip (fun _ => ?_) (fun _ => ?_)) <;> (try (exfalso; omega))
    | (with_reducible refine wp_needRoomForSigns (by unfold InR; omega) (fun _ => ?_) (fun _ => ?_)) <;> (try (exfalso; omega))
    | (with_reducible refine wp_isNoStop (by (try simp (disch := omega) only [setM_ne, setM_hit, true_and, and_true]); omega) (by (try simp (disch := omega) only [setM_ne, setM_hit, true_and, and_true]); omega) (fun h => ?_) (fun h1 h2 => ?_)) <;> (try simp (disch := omega) only [setM_ne, setM_hit, true_and, and_true] at h) <;> (try simp (disch := omega) only [setM_ne, setM_hit, true_and, and_true] at h1) <;> (try simp (disch := omega) only [setM_ne, setM_hit, true_and, and_true] at h2) <;> (try (exfalso; omega))
    | (with_reducible refine wp_isNoService (by (try simp (disch := omega) only [setM_ne, setM_hit, true_and, and_true]); omega) (by (try simp (disch := omega) only [setM_ne, setM_hit, true_and, and_true]); omega) (fun h => ?_) (fun h1 h2 => ?_)) <;> (try simp (disch := omega) only [setM_ne, setM_hit, true_and, and_true] at h) <;> (try simp (disch := omega) only [setM_ne, setM_hit, true_and, and_true] at h1) <;> (try simp (disch := omega) only [setM_ne, setM_hit, true_and, and_true] at h2) <;> (try (exfalso; omega))
    | (with_reducible refine wp_isNoTrip (by (try simp (disch := omega) only [setM_ne, setM_hit, true_and, and_true]); omega) (by (try simp (disch := omega) only [setM_ne, setM_hit, true_and, and_true]); omega) (fun h => ?_) (fun h1 h2 => ?_)) <;> (try simp (disch := omega) only [setM_ne, setM_hit, true_and, and_true] at h) <;> (try simp (disch := omega) only [setM_ne, setM_hit, true_and, and_true] at h1) <;> (try simp (disch := omega) only [setM_ne, setM_hit, true_and, and_true] at h2) <;> (try (exfalso; omega))
    | (with_reducible refine wp_isNoDay (fun h => ?_) (fun h1 h2 => ?_)) <;> (try (exfalso; omega))
    | with_reducible refine wp_isThrown1 ?_
    | with_reducible refine wp_isThrown0 ?_
    | (with_reducible refine wp_isThrownI (fun h => ?_) (fun h => ?_)) <;> (try simp (disch := omega) only [setM_ne, setM_hit, true_and, and_true] at h) <;> (try simp only [isIn0] at h) <;> (try (exfalso; omega))
    | with_reducible refine ok_grd (by (try simp (disch := omega) only [setM_ne, setM_hit, true_and, and_true]); (try unfold InR); omega) ?_
    | (with_reducible refine ok_some ?_) <;> (try dsimp only)
    | (with_reducible refine ok_ite (fun h => ?_) (fun h => ?_)) <;> (try dsimp only at h) <;> (try simp (disch := omega) only [setM_ne, setM_hit, true_and, and_true] at h) <;> (try simp only [isIn0, i01] at h) <;> (try (exfalso; first | exact h trivial | omega)))
  · unfold M_bridges
    repeat' (first
    | with_reducible refine ok_ltv ?_
    | with_reducible refine ok_tbd_inl ?_
    | with_reducible refine ok_tbd_inr ?_
    | with_reducible refine wp_bind ?_
    | with_reducible refine wp_bq1 ?_
    | with_reducible refine wp_bq2 ?_
    | (with_reducible refine wp_needNumber (fun _ => ?_) (fun _ _ => ?_)) <;> (try (exfalso; omega))
    | (with_reducible refine wp_needDay (fun _ => ?_) (fun _ _ => ?_)) <;> (try (exfalso; omega))
    | (with_reducible refine wp_needStop (fun _ => ?_) (fun _ _ => ?_)) <;> (try (exfalso; omega))
    | (with_reducible refine wp_needService (fun _ => ?_) (fun _ _ => ?_)) <;> (try (exfalso; omega))
    | (with_reducible refine wp_needTrip (fun _ => ?_) (fun _ _ => ?_)) <;> (try (exfalso; omega))
    | (with_reducible refine wp_needCall (by omega) (fun _ => ?_) (fun _ _ _ _ => ?_)) <;> (try (exfalso; omega))
    | (with_reducible refine wp_needUnlike (fun _ => ?_) (fun _ => ?_)) <;> (try (exfalso; omega))
    | (with_reducible refine wp_needFound (fun _ => ?_) (fun _ => ?_)) <;> (try (exfalso; omega))
    | (with_reducible refine wp_needRoomForTrip (fun _ => ?_) (fun _ => ?_)) <;> (try (exfalso; omega))
    | (with_reducible refine wp_needRoomForSigns (by unfold InR; omega) (fun _ => ?_) (fun _ => ?_)) <;> (try (exfalso; omega))
    | (with_reducible refine wp_isNoStop (by (try simp (disch := omega) only [setM_ne, setM_hit, true_and, and_true]); omega) (by (try simp (disch := omega) only [setM_ne, setM_hit, true_and, and_true]); omega) (fun h => ?_) (fun h1 h2 => ?_)) <;> (try simp (disch := omega) only [setM_ne, setM_hit, true_and, and_true] at h) <;> (try simp (disch := omega) only [setM_ne, setM_hit, true_and, and_true] at h1) <;> (try simp (disch := omega) only [setM_ne, setM_hit, true_and, and_true] at h2) <;> (try (exfalso; omega))
    | (with_reducible refine wp_isNoService (by (try simp (disch := omega) only [setM_ne, setM_hit, true_and, and_true]); omega) (by (try simp (disch := omega) only [setM_ne, setM_hit, true_and, and_true]); omega) (fun h => ?_) (fun h1 h2 => ?_)) <;> (try simp (disch := omega) only [setM_ne, setM_hit, true_and, and_true] at h) <;> (try simp (disch := omega) only [setM_ne, setM_hit, true_and, and_true] at h1) <;> (try simp (disch := omega) only [setM_ne, setM_hit, true_and, and_true] at h2) <;> (try (exfalso; omega))
    | (with_reducible refine wp_isNoTrip (by (try simp (disch := omega) only [setM_ne, setM_hit, true_and, and_true]); omega) (by (try simp (disch := omega) only [setM_ne, setM_hit, true_and, and_true]); omega) (fun h => ?_) (fun h1 h2 => ?_)) <;> (try simp (disch := omega) only [setM_ne, setM_hit, true_and, and_true] at h) <;> (try simp (disch := omega) only [setM_ne, setM_hit, true_and, and_true] at h1) <;> (try simp (disch := omega) only [setM_ne, setM_hit, true_and, and_true] at h2) <;> (try (exfalso; omega))
    | (with_reducible refine wp_isNoDay (fun h => ?_) (fun h1 h2 => ?_)) <;> (try (exfalso; omega))
    | with_reducible refine wp_isThrown1 ?_
    | with_reducible refine wp_isThrown0 ?_
    | (with_reducible refine wp_isThrownI (fun h => ?_) (fun h => ?_)) <;> (try simp (disch := omega) only [setM_ne, setM_hit, true_and, and_true] at h) <;> (try simp only [isIn0] at h) <;> (try (exfalso; omega))
    | with_reducible refine ok_grd (by (try simp (disch := omega) only [setM_ne, setM_hit, true_and, and_true]); (try unfold InR); omega) ?_
    | (with_reducible refine ok_some ?_) <;> (try dsimp only)
    | (with_reducible refine ok_ite (fun h => ?_) (fun h => ?_)) <;> (try dsimp only at h) <;> (try simp (disch := omega) only [setM_ne, setM_hit, true_and, and_true] at h) <;> (try simp only [isIn0, i01] at h) <;> (try (exfalso; first | exact h trivial | omega)))
    (refine agp_er ?_ ?_ ?_); decide; (first | (rw [setM_same]; rfl) | (dsimp only; simp (disch := omega) only [setM_ne, setM_hit, true_and, and_true]; rfl))
    repeat (first | exact I | with_reducible refine Inv_thr ?_ _)
  · refine (lay_ok (sh := -1) (mi := 0) CI0 (by omega) (by omega) (Ctx_self I)).mono (fun m1 l => ?_)
    refine ok_bind (fillArr_ok (t := 0) CI0 (by omega) ⟨l.2.1, l.2.2.1, l.2.2.2⟩ (by omega)) (fun m2 h2 => ok_ltv (ok_ltv ?_))
    have C2 : Ctx mc p0 (-1) 0 (-1) m2 := Ctx_fr CI0 ⟨l.2.1, l.2.2.1, l.2.2.2⟩ (fun c i h => h2.1 c i (by unfold cX pC at h; omega) (by unfold cX pC at h; omega))
    refine ok_bq3 (Q := fun (x : Int × Int × Mem) => x.1 = wS (fun v => - lostV mc p0 v) 0 (nC mc) ∧ Ctx mc p0 (-1) 0 (-1) x.2.2) ?_ (fun sm _ m6 h6 => ok_some ?_)
    · refine ok_loop (fun x => ∃ k : Nat, x.2.1 = k ∧ k ≤ nC mc ∧ x.1 = wS (fun v => - lostV mc p0 v) 0 k ∧ Ctx mc p0 (-1) 0 (-1) x.2.2 ∧ ∀ c i, 443 ≤ c → x.2.2 c i = m2 c i) (fun x => 12 - x.2.1.toNat) ⟨0, rfl, Nat.zero_le _, rfl, C2, fun _ _ _ => rfl⟩ ?_
      rintro ⟨x, y, m⟩ ⟨k, e1, e2, e3, Cm, f⟩
      dsimp only at e1 e3 Cm f ⊢
      subst e1
      unfold C_bridges_b1
      rw [(CtL_of CI0 Cm.1 Cm.2.1).1]
      refine ok_ite (fun hk => ok_bq2 (countCutOff_ok (s := k) CI0 Cm (by omega) (fun a b ha hb => by rw [f _ _ (by omega)]; exact h2.2 a b ha hb)) (fun cnt m5 h5 => ?_)) (fun hk => ok_some ⟨?_, Cm⟩)
      · dsimp only at h5
        have f5 : ∀ c i, 443 ≤ c → m5 c i = m2 c i := fun c i h => by rw [h5.2.2 c i h]; exact f c i h
        refine ok_ite (fun h => ok_ltv (ok_grd (by unfold InR; omega) (ok_ltv (ok_some ⟨⟨k + 1, by dsimp only; omega, by omega, ?_, h5.2.1, f5⟩, by dsimp only; omega⟩)))) (fun h => ok_grd (by unfold InR; omega) (ok_ltv (ok_some ⟨⟨k + 1, by dsimp only; omega, by omega, ?_, h5.2.1, f5⟩, by dsimp only; omega⟩)))
        · dsimp only [wS]
          rw [if_pos (by omega), e3]
        · dsimp only [wS]
          rw [if_neg (by omega), e3]
      · have : k = nC mc := by omega
        rw [e3, this]
    · dsimp only at h6
      unfold M_bridges
      refine wp_bq2 (wp_isNoDay (fun _ => by omega) (fun _ _ => ok_ite (fun q => absurd rfl q) (fun _ => ok_ltv (ok_ltv ?_))))
      refine ok_bq3 (Q := fun (x : Int × Int × Mem) => x.1 = wS (fun v => - lostV mc p0 v) 0 (nC mc) ∧ Inv mc x.2.2 ∧ x.2.2 0 0 = 0) ?_ (fun sm2 _ mm2 h7 => ok_some ?_)
      · refine ok_loop (fun x => ∃ k : Nat, x.2.1 = k ∧ k ≤ nC mc ∧ x.1 = wS (fun v => - lostV mc p0 v) 0 k ∧ Inv mc x.2.2 ∧ x.2.2 0 0 = 0) (fun x => 12 - x.2.1.toNat) ⟨0, rfl, Nat.zero_le _, rfl, Inv_thr I _, by dsimp only; exact setM_same _ _ _ _⟩ ?_
        rintro ⟨x, y, m⟩ ⟨k, e1, e2, e3, J, z⟩
        dsimp only at e1 e3 J z ⊢
        subst e1
        unfold M_bridges_b1
        rw [J.1.1, n.1]
        refine ok_ite (fun hk => ok_ltv (ok_bq2 (lostBy_ok (s := k) J (by omega) (by omega)) (fun cnt m5 h5 => ?_))) (fun hk => ok_some ⟨?_, J, z⟩)
        · dsimp only at h5
          refine ok_ite (fun h => ok_ltv (ok_grd (by unfold InR; omega) (ok_ltv (ok_some ⟨⟨k + 1, by dsimp only; omega, by omega, ?_, h5.2.1, by dsimp only; rw [h5.2.2]; exact z⟩, by dsimp only; omega⟩)))) (fun h => ok_ltv (ok_grd (by unfold InR; omega) (ok_ltv (ok_some ⟨⟨k + 1, by dsimp only; omega, by omega, ?_, h5.2.1, by dsimp only; rw [h5.2.2]; exact z⟩, by dsimp only; omega⟩))))
          · dsimp only [wS]
            rw [if_pos (by omega), e3]
          · dsimp only [wS]
            rw [if_neg (by omega), e3, jior_0 (wS_in _ _ _)]
        · have : k = nC mc := by omega
          rw [e3, this]
      · dsimp only at h7
        exact agp_ok h7.2.2 (by rw [h7.1, h6.1]) (Inv_end h7.2.1 h6.2.1 h6.2.2.1.1 (fun _ _ _ => rfl))
end ARR
