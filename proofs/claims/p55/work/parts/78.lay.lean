/-! ===== the class lays the runs ===== -/
def pX (c i : Nat) : Prop := pC c i ∧ ¬ (c = 1 ∧ i = 4)
def Per (mc m : Mem) : Prop := ∀ c i, pX c i → m c i = mc c i
def phi (m : Mem) (r : Nat) : Nat := (24 * (m 121 r + 1) + m 120 r).toNat
def NetT (mc : Mem) (day sh mi : Int) (m : Mem) (R Q : Nat) : Prop := (∀ r : Nat, r < R → phi m r < Q ∧ isQ mc day (phi m r) ∧ m 120 r = ((phi m r % 24 : Nat) : Int) ∧ m 121 r = qd (phi m r) ∧ m 122 r = lenQ mc (phi m r) ∧ ∀ c : Nat, c < lenQ mc (phi m r) → m (124 + r) c = stQ mc (phi m r) c ∧ m (197 + r) c = arQ mc day sh mi (phi m r) c ∧ m (270 + r) c = lvQ mc day sh mi (phi m r) c) ∧ (∀ r r' : Nat, r < r' → r' < R → phi m r < phi m r') ∧ ∀ q : Nat, q < Q → isQ mc day q → ∃ r : Nat, r < R ∧ phi m r = q
def hopM (m : Mem) (R r c : Nat) : Prop := r < R ∧ (c : Int) + 1 < m 122 r ∧ 0 ≤ m (270 + r) c
def klM (m : Mem) (r c : Nat) : Int := m (270 + r) c * 1024 + ((r : Int) * 8 + (c : Int))
def kaM (m : Mem) (r c : Nat) : Int := m (197 + r) (c + 1) * 1024 + ((r : Int) * 8 + (c : Int))
def NetH (m : Mem) (R H : Nat) : Prop := (∀ i : Nat, i < H → ∃ r c : Nat, hopM m R r c ∧ m 342 i = klM m r c ∧ m 343 i = kaM m r c) ∧ ∀ r c : Nat, hopM m R r c → ∃ i : Nat, i < H ∧ m 342 i = klM m r c ∧ m 343 i = kaM m r c
section LAY
variable {mc m m0 : Mem} {day sh mi : Int}
theorem Per_late (p : Per mc m) (d t c : Int) : lateC m d t c = lateC mc d t c := by
  have h : ∀ x : Nat, 110 ≤ x → x ≤ 113 → m x = mc x := fun x h1 h2 => by
    funext i
    exact p x i ⟨by unfold pC; omega, by omega⟩
  unfold lateC
  rw [h 110 (by omega) (by omega), h 111 (by omega) (by omega), h 112 (by omega) (by omega), h 113 (by omega) (by omega), p 109 0 ⟨by unfold pC; omega, by omega⟩]
theorem Per_D (I : CI mc) (p : Per mc m) : 0 ≤ m 109 0 ∧ m 109 0 ≤ 12 ∧ UniG (m 110) (m 111) (m 109 0) := by
  have h : ∀ x : Nat, 110 ≤ x → x ≤ 113 → m x = mc x := fun x h1 h2 => by
    funext i
    exact p x i ⟨by unfold pC; omega, by omega⟩
  rw [h 110 (by omega) (by omega), h 111 (by omega) (by omega), p 109 0 ⟨by unfold pC; omega, by omega⟩]
  obtain ⟨mm, I⟩ := I
  exact ⟨I.2.2.2.1.2.1, I.2.2.2.1.2.2.1, ID_uniC I.2.2.2.1⟩
theorem phi_of {r q : Nat} (h1 : m 120 r = ((q % 24 : Nat) : Int)) (h2 : m 121 r = qd q) : phi m r = q := by
  unfold phi
  rw [h1, h2]
  unfold qd
  omega
/-- one run more -/
theorem addRun_ok {R H Q : Nat} {e : Int} (I : CI mc) (hd : 0 ≤ day ∧ day ≤ 27) (hm : -60 ≤ mi ∧ mi ≤ 60) (hQ : Q < 72) (hR : R ≤ Q) (p : Per mc m0) (hq : isQ mc day Q) (e1 : m0 119 4 = R) (e2 : m0 119 11 = H) (hH : H ≤ 7 * R) (nt : NetT mc day sh mi m0 R Q) (nh : NetH m0 R H) (he : IsG (m0 110) (m0 111) (m0 109 0) (day + qd Q) ((Q % 24 : Nat) : Int) e) : Ok (C_Net_addRun ((Q % 24 : Nat) : Int) (qd Q) e (1440 * qd Q + mvQ sh mi Q) m0) (fun m => (∀ c i, ¬ (119 ≤ c ∧ c ≤ 343) → m c i = m0 c i) ∧ ∃ H' : Nat, m 119 4 = ((R + 1 : Nat) : Int) ∧ m 119 11 = H' ∧ H' ≤ 7 * (R + 1) ∧ NetT mc day sh mi m (R + 1) (Q + 1) ∧ NetH m (R + 1) H') := by
  have tt := CI_t I
  have len := CI_len I hq.1
  have qb := qd_bd hQ
  have mb := mvQ_bd (sh := sh) (q := Q) hm
  have bL := fun c (hc : c < lenQ mc Q) => qv_bd (day := day) (sh := sh) I hq.1 hQ hm hc
  have bA := fun c (hc : c < lenQ mc Q) => qa_bd (day := day) (sh := sh) I hq.1 hQ hm hc
  have mv : (((Q % 24 : Nat) : Int)).toNat = Q % 24 := Int.toNat_natCast _
  unfold C_Net_addRun
  rw [e1]
  refine ok_ltv (ok_grd (by unfold InR; omega) (ok_ltv (ok_grd (by omega) (ok_ltv (ok_ltv (ok_grd (by omega) (ok_ltv (ok_ltv (ok_bq2 (ok_for0 (n := lenQ mc Q) (fun k m => (∀ c i, ¬ ((c = 119 ∧ (i = 4 ∨ i = 11)) ∨ ((c = 120 ∨ c = 121 ∨ c = 122) ∧ i = R) ∨ c = 124 + R ∨ c = 197 + R ∨ c = 270 + R ∨ ((c = 342 ∨ c = 343) ∧ H ≤ i)) → m c i = m0 c i) ∧ (m 119 4 = ((R + 1 : Nat) : Int) ∧ m 120 R = ((Q % 24 : Nat) : Int) ∧ m 121 R = qd Q ∧ m 122 R = lenQ mc Q) ∧ (∀ c : Nat, c < k → m (124 + R) c = stQ mc Q c ∧ m (197 + R) c = arQ mc day sh mi Q c ∧ m (270 + R) c = lvQ mc day sh mi Q c) ∧ ∃ H' : Nat, m 119 11 = H' ∧ H ≤ H' ∧ (H' + 1 ≤ H + k ∨ H' = H) ∧ (∀ i : Nat, H ≤ i → i < H' → ∃ c : Nat, c + 1 < k ∧ 0 ≤ lvQ mc day sh mi Q c ∧ m 342 i = lvQ mc day sh mi Q c * 1024 + ((R : Int) * 8 + (c : Int)) ∧ m 343 i = arQ mc day sh mi Q (c + 1) * 1024 + ((R : Int) * 8 + (c : Int))) ∧ ∀ c : Nat, c + 1 < k → 0 ≤ lvQ mc day sh mi Q c → ∃ i : Nat, H ≤ i ∧ i < H' ∧ m 342 i = lvQ mc day sh mi Q c * 1024 + ((R : Int) * 8 + (c : Int)) ∧ m 343 i = arQ mc day sh mi Q (c + 1) * 1024 + ((R : Int) * 8 + (c : Int))) ⟨fun c i h => ?_, ⟨?_, ?_, ?_, ?_⟩, fun c h => by omega, H, ?_, Nat.le_refl _, Or.inr rfl, fun i h1 h2 => by omega, fun c h => by omega⟩ ?_ ?_) (fun _ m h => ok_some ?_))))))))))
  · rw [setM_ne (by omega), setM_ne (by omega), setM_ne (by omega), setM_ne (by omega)]
  · simp (disch := omega) only [setM_ne, setM_hit, true_and, and_true]
    omega
  · simp (disch := omega) only [setM_ne, setM_hit, true_and, and_true]
  · simp (disch := omega) only [setM_ne, setM_hit, true_and, and_true]
  · rw [setM_hit (by omega), mv, setM_ne (by omega), setM_ne (by omega), setM_ne (by omega), p 33 _ ⟨by unfold pC; omega, by omega⟩]
    exact len.1
  · simp (disch := omega) only [setM_ne, setM_hit, true_and, and_true]
    exact e2
  · rintro k m hk ⟨f1, ⟨f2, f3, f4, f5⟩, f6, H', g1, g2, g3, g4, g5⟩
    have cl := CI_call I hq.1 hk
    have pm : Per mc m := fun c i h => by
      rw [f1 c i (by obtain ⟨h, -⟩ := h; unfold pC at h; omega)]
      exact p c i h
    have D := Per_D I pm
    have he' : IsG (m 110) (m 111) (m 109 0) (day + qd Q) ((Q % 24 : Nat) : Int) e := by
      have r1 : m 110 = m0 110 := funext fun i => f1 110 i (by omega)
      have r2 : m 111 = m0 111 := funext fun i => f1 111 i (by omega)
      rw [r1, r2, f1 109 0 (by omega)]
      exact he
    have s1 : m (35 + Q % 24) k = stQ mc Q k := by rw [pm _ _ ⟨by unfold pC; omega, by omega⟩]; exact cl.1
    have a1 : m (60 + Q % 24) k = mc (60 + Q % 24) k := pm _ _ ⟨by unfold pC; omega, by omega⟩
    have a2 : m (85 + Q % 24) k = mc (85 + Q % 24) k := pm _ _ ⟨by unfold pC; omega, by omega⟩
    have b1 := bL k hk
    have b2 := bA k hk
    have l1 := CI_late I (d := day + qd Q) (t := ((Q % 24 : Nat) : Int)) (c := (k : Int) - 1)
    have l2 := CI_late I (d := day + qd Q) (t := ((Q % 24 : Nat) : Int)) (c := k)
    unfold C_Net_addRun_b1
    simp only [Int.toNat_natCast]
    rw [f5]
    refine ok_grd (by omega) (ok_ite (fun _ => ok_grd (by omega) (ok_ltv ?_)) (fun h => by omega))
    obtain ⟨m1, hm1⟩ : ∃ m1, m1 = setM m (124 + R) k (m (35 + Q % 24) k) := ⟨_, rfl⟩
    rw [← hm1]
    have x1 : ∀ c i, ¬ (c = 124 + R ∧ i = k) → m1 c i = m c i := fun c i h => by rw [hm1]; exact setM_ne h
    have x1' : m1 (124 + R) k = stQ mc Q k := by rw [hm1, setM_same]; exact s1
    have pm1 : Per mc m1 := fun c i h => by
      rw [x1 c i (by obtain ⟨h, -⟩ := h; unfold pC at h; omega)]
      exact pm c i h
    have rw1 : ∀ c, c = 110 ∨ c = 111 ∨ c = 112 ∨ c = 113 → m1 c = m c := fun c h => funext fun i => x1 c i (by omega)
    have D1 := Per_D I pm1
    have he1 : IsG (m1 110) (m1 111) (m1 109 0) (day + qd Q) ((Q % 24 : Nat) : Int) e := by
      rw [rw1 110 (by omega), rw1 111 (by omega), x1 109 0 (by omega)]
      exact he'
    rw [x1 (60 + Q % 24) k (by omega), a1]
    refine ok_grd (by unfold InR; omega) (ok_bind (at_ok D1.1 D1.2.1 D1.2.2 he1) (fun v hv => ?_))
    rw [Per_late pm1] at hv
    have v1 : mc (60 + Q % 24) k + (1440 * qd Q + mvQ sh mi Q) + v = arQ mc day sh mi Q k := by rw [hv]; rfl
    rw [v1]
    refine ok_grd (by unfold InR; omega) (ok_ltv ?_)
    obtain ⟨m2, hm2⟩ : ∃ m2, m2 = setM m1 (197 + R) k (arQ mc day sh mi Q k) := ⟨_, rfl⟩
    rw [← hm2]
    have x2 : ∀ c i, ¬ (c = 197 + R ∧ i = k) → m2 c i = m1 c i := fun c i h => by rw [hm2]; exact setM_ne h
    have x2' : m2 (197 + R) k = arQ mc day sh mi Q k := by rw [hm2, setM_same]
    have pm2 : Per mc m2 := fun c i h => by
      rw [x2 c i (by obtain ⟨h, -⟩ := h; unfold pC at h; omega)]
      exact pm1 c i h
    have rw2 : ∀ c, c = 110 ∨ c = 111 ∨ c = 112 ∨ c = 113 → m2 c = m1 c := fun c h => funext fun i => x2 c i (by omega)
    have D2 := Per_D I pm2
    have he2 : IsG (m2 110) (m2 111) (m2 109 0) (day + qd Q) ((Q % 24 : Nat) : Int) e := by
      rw [rw2 110 (by omega), rw2 111 (by omega), x2 109 0 (by omega)]
      exact he1
    rw [x2 (85 + Q % 24) k (by omega), x1 (85 + Q % 24) k (by omega), a2]
    refine ok_grd (by unfold InR; omega) (ok_bind (at_ok D2.1 D2.2.1 D2.2.2 he2) (fun v2 hv2 => ?_))
    rw [Per_late pm2] at hv2
    have v3 : mc (85 + Q % 24) k + (1440 * qd Q + mvQ sh mi Q) + v2 = lvQ mc day sh mi Q k := by rw [hv2]; rfl
    rw [v3]
    refine ok_grd (by unfold InR; omega) (ok_ltv ?_)
    obtain ⟨m3, hm3⟩ : ∃ m3, m3 = setM m2 (270 + R) k (lvQ mc day sh mi Q k) := ⟨_, rfl⟩
    rw [← hm3]
    have x3 : ∀ c i, ¬ (c = 270 + R ∧ i = k) → m3 c i = m2 c i := fun c i h => by rw [hm3]; exact setM_ne h
    have x3' : m3 (270 + R) k = lvQ mc day sh mi Q k := by rw [hm3, setM_same]
    have y : ∀ c i, ¬ ((c = 124 + R ∨ c = 197 + R ∨ c = 270 + R) ∧ i = k) → m3 c i = m c i := fun c i h => by
      rw [x3 c i (by omega), x2 c i (by omega), x1 c i (by omega)]
    have F1 : ∀ c i, ¬ ((c = 119 ∧ (i = 4 ∨ i = 11)) ∨ ((c = 120 ∨ c = 121 ∨ c = 122) ∧ i = R) ∨ c = 124 + R ∨ c = 197 + R ∨ c = 270 + R ∨ ((c = 342 ∨ c = 343) ∧ H ≤ i)) → m3 c i = m0 c i := fun c i h => by
      rw [y c i (by omega)]
      exact f1 c i h
    have F6 : ∀ c : Nat, c < k + 1 → m3 (124 + R) c = stQ mc Q c ∧ m3 (197 + R) c = arQ mc day sh mi Q c ∧ m3 (270 + R) c = lvQ mc day sh mi Q c := fun c hc => by
      by_cases hh : c = k
      · rw [hh, x3 (124 + R) k (by omega), x2 (124 + R) k (by omega), x1', x3 (197 + R) k (by omega), x2', x3']
        exact ⟨rfl, rfl, rfl⟩
      · rw [y _ c (by omega), y _ c (by omega), y _ c (by omega)]
        exact f6 c (by omega)
    refine ok_ite (fun h0 => ?_) (fun h0 => ok_grd (by unfold InR; omega) (ok_ltv (ok_some ⟨_, rfl, F1, ⟨?_, ?_, ?_, ?_⟩, F6, H', ?_, g2, by omega, fun i i1 i2 => ?_, fun c hc => by omega⟩)))
    · have F7 := F6 (k - 1) (by omega)
      have F8 := F6 k (by omega)
      have b3 := bL (k - 1) (by omega)
      have e5 : ((k : Int) - 1).toNat = k - 1 := by omega
      have e6 : ((k : Int) - 1 + 1).toNat = k := by omega
      have e7 : ((R : Nat) : Int).toNat = R := by omega
      have e8 : m3 119 11 = H' := by rw [y 119 11 (by omega)]; exact g1
      unfold C_Net_addHop
      rw [e5, e6, e7, F7.2.2, e8]
      refine ok_bind (Q := fun m' => (∀ c i, ¬ ((c = 119 ∧ i = 11) ∨ ((c = 342 ∨ c = 343) ∧ i = H')) → m' c i = m3 c i) ∧ ((lvQ mc day sh mi Q (k - 1) < 0 ∧ m' = m3) ∨ (0 ≤ lvQ mc day sh mi Q (k - 1) ∧ m' 119 11 = ((H' + 1 : Nat) : Int) ∧ m' 342 H' = lvQ mc day sh mi Q (k - 1) * 1024 + ((R : Int) * 8 + ((k - 1 : Nat) : Int)) ∧ m' 343 H' = arQ mc day sh mi Q k * 1024 + ((R : Int) * 8 + ((k - 1 : Nat) : Int))))) ?_ (fun m' hm' => ok_grd (by unfold InR; omega) (ok_ltv (ok_some ⟨_, rfl, fun c i h => ?_, ⟨?_, ?_, ?_, ?_⟩, fun c hc => ?_, ?_⟩)))
      · have e9 : ∀ z, setM m3 342 ((H' : Int)).toNat z 119 11 = H' := fun z => by rw [setM_ne (by omega)]; exact e8
        have e10 : ∀ z, setM m3 342 ((H' : Int)).toNat z (197 + R) k = arQ mc day sh mi Q k := fun z => by rw [setM_ne (by omega)]; exact F8.2.1
        refine ok_grd (by omega) (ok_ite (fun h => ok_some ⟨fun _ _ _ => rfl, Or.inl ⟨h, rfl⟩⟩) (fun h => ok_grd (by unfold InR; omega) (ok_ltv (ok_grd (by unfold InR; omega) (ok_ltv ?_)))))
        rw [e9, e10]
        refine ok_grd (by unfold InR; omega) (ok_ltv ?_)
        have e11 : ∀ z z', setM (setM m3 342 ((H' : Int)).toNat z) 343 ((H' : Int)).toNat z' 119 11 = H' := fun z z' => by rw [setM_ne (by omega)]; exact e9 z
        rw [e11]
        refine ok_grd (by unfold InR; omega) (ok_ltv (ok_some ⟨fun c i q => ?_, Or.inr ⟨by omega, ?_, ?_, ?_⟩⟩))
        · rw [setM_ne (by omega), setM_ne (by omega), setM_ne (by omega)]
        · rw [setM_same]
          omega
        · rw [setM_ne (by omega), setM_ne (by omega), setM_hit (by omega)]
          omega
        · rw [setM_ne (by omega), setM_hit (by omega)]
          omega
      · rw [hm'.1 c i (by omega)]
        exact F1 c i h
      · rw [hm'.1 119 4 (by omega), y 119 4 (by omega)]
        exact f2
      · rw [hm'.1 120 R (by omega), y 120 R (by omega)]
        exact f3
      · rw [hm'.1 121 R (by omega), y 121 R (by omega)]
        exact f4
      · rw [hm'.1 122 R (by omega), y 122 R (by omega)]
        exact f5
      · rw [hm'.1 (124 + R) c (by omega), hm'.1 (197 + R) c (by omega), hm'.1 (270 + R) c (by omega)]
        exact F6 c hc
      · have old : ∀ i : Nat, i < H' → m' 342 i = m 342 i ∧ m' 343 i = m 343 i := fun i hi => by
          rw [hm'.1 342 i (by omega), hm'.1 343 i (by omega), y 342 i (by omega), y 343 i (by omega)]
          exact ⟨rfl, rfl⟩
        rcases hm'.2 with ⟨z1, z2⟩ | ⟨z1, z2, z3, z4⟩
        · refine ⟨H', by rw [z2]; exact e8, g2, by omega, fun i i1 i2 => ?_, fun c hc hc2 => ?_⟩
          · obtain ⟨c, c1, c2, c3, c4⟩ := g4 i i1 i2
            rw [(old i i2).1, (old i i2).2]
            exact ⟨c, by omega, c2, c3, c4⟩
          · have hne : c ≠ k - 1 := by
              intro q
              rw [q] at hc2
              omega
            obtain ⟨i, i1, i2, i3, i4⟩ := g5 c (by omega) hc2
            refine ⟨i, i1, i2, ?_, ?_⟩
            · rw [(old i i2).1]; exact i3
            · rw [(old i i2).2]; exact i4
        · refine ⟨H' + 1, z2, by omega, by omega, fun i i1 i2 => ?_, fun c hc hc2 => ?_⟩
          · by_cases hi : i = H'
            · refine ⟨k - 1, by omega, z1, by rw [hi]; exact z3, ?_⟩
              rw [hi, z4, show k - 1 + 1 = k by omega]
            · obtain ⟨c, c1, c2, c3, c4⟩ := g4 i i1 (by omega)
              rw [(old i (by omega)).1, (old i (by omega)).2]
              exact ⟨c, by omega, c2, c3, c4⟩
          · by_cases hck : c = k - 1
            · refine ⟨H', by omega, by omega, by rw [hck]; exact z3, ?_⟩
              rw [z4, hck, show k - 1 + 1 = k by omega]
            · obtain ⟨i, i1, i2, i3, i4⟩ := g5 c (by omega) hc2
              refine ⟨i, i1, by omega, ?_, ?_⟩
              · rw [(old i i2).1]; exact i3
              · rw [(old i i2).2]; exact i4
    · rw [y 119 4 (by omega)]
      exact f2
    · rw [y 120 R (by omega)]
      exact f3
    · rw [y 121 R (by omega)]
      exact f4
    · rw [y 122 R (by omega)]
      exact f5
    · rw [y 119 11 (by omega)]
      exact g1
    · obtain ⟨c, c1, c2, c3, c4⟩ := g4 i i1 i2
      omega
  · rintro m ⟨f1, ⟨f2, f3, f4, f5⟩, f6, H', g1, g2, g3, g4, g5⟩
    unfold C_Net_addRun_b1
    simp only [Int.toNat_natCast]
    rw [f5, grd_pos (by omega), if_neg (by omega)]
  · dsimp only at h
    obtain ⟨f1, ⟨f2, f3, f4, f5⟩, f6, H', g1, g2, g3, g4, g5⟩ := h
    have ph : ∀ r : Nat, r < R → phi m r = phi m0 r := fun r hr => by
      unfold phi
      rw [f1 121 r (by omega), f1 120 r (by omega)]
    have phR : phi m R = Q := phi_of f3 f4
    refine ⟨fun c i h => f1 c i (by omega), H', f2, g1, by omega, ⟨fun r hr => ?_, fun r r' h1 h2 => ?_, fun q h1 h2 => ?_⟩, fun i hi => ?_, fun r c hh => ?_⟩
    · by_cases hrR : r = R
      · rw [hrR, phR]
        exact ⟨by omega, hq, f3, f4, f5, f6⟩
      · have o := nt.1 r (by omega)
        rw [ph r (by omega), f1 120 r (by omega), f1 121 r (by omega), f1 122 r (by omega)]
        refine ⟨by omega, o.2.1, o.2.2.1, o.2.2.2.1, o.2.2.2.2.1, fun c hc => ?_⟩
        rw [f1 (124 + r) c (by omega), f1 (197 + r) c (by omega), f1 (270 + r) c (by omega)]
        exact o.2.2.2.2.2 c hc
    · by_cases hrR : r' = R
      · rw [hrR, phR, ph r (by omega)]
        exact (nt.1 r (by omega)).1
      · rw [ph r (by omega), ph r' (by omega)]
        exact nt.2.1 r r' h1 (by omega)
    · by_cases hqQ : q = Q
      · exact ⟨R, by omega, by rw [phR, hqQ]⟩
      · obtain ⟨r, r1, r2⟩ := nt.2.2 q (by omega) h2
        exact ⟨r, by omega, by rw [ph r r1]; exact r2⟩
    · by_cases hiH : i < H
      · obtain ⟨r, c, ⟨h1, h2, h3⟩, h4, h5⟩ := nh.1 i hiH
        have len8 := (nt.1 r h1)
        have l8 := CI_len I len8.2.1.1
        refine ⟨r, c, ⟨by omega, ?_, ?_⟩, ?_, ?_⟩
        · rw [f1 122 r (by omega)]; exact h2
        · rw [f1 (270 + r) c (by omega)]; exact h3
        · rw [f1 342 i (by omega), h4]
          unfold klM
          rw [f1 (270 + r) c (by omega)]
        · rw [f1 343 i (by omega), h5]
          unfold kaM
          rw [f1 (197 + r) (c + 1) (by omega)]
      · obtain ⟨c, c1, c2, c3, c4⟩ := g4 i (by omega) hi
        have a := f6 c (by omega)
        have b := f6 (c + 1) (by omega)
        refine ⟨R, c, ⟨by omega, by rw [f5]; omega, by rw [a.2.2]; exact c2⟩, ?_, ?_⟩
        · unfold klM
          rw [a.2.2, c3]
        · unfold kaM
          rw [b.2.1, c4]
    · obtain ⟨h1, h2, h3⟩ := hh
      by_cases hrR : r = R
      · rw [hrR] at h2 h3 ⊢
        rw [f5] at h2
        have a := f6 c (by omega)
        have b := f6 (c + 1) (by omega)
        rw [a.2.2] at h3
        obtain ⟨i, i1, i2, i3, i4⟩ := g5 c (by omega) h3
        refine ⟨i, i2, ?_, ?_⟩
        · unfold klM
          rw [a.2.2, i3]
        · unfold kaM
          rw [b.2.1, i4]
      · rw [f1 122 r (by omega)] at h2
        rw [f1 (270 + r) c (by omega)] at h3
        obtain ⟨i, i1, i2, i3⟩ := nh.2 r c ⟨by omega, h2, h3⟩
        refine ⟨i, by omega, ?_, ?_⟩
        · rw [f1 342 i (by omega), i2]
          unfold klM
          rw [f1 (270 + r) c (by omega)]
        · rw [f1 343 i (by omega), i3]
          unfold kaM
          rw [f1 (197 + r) (c + 1) (by omega)]
end LAY
