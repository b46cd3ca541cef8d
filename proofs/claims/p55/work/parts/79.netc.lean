/-! ===== the class's net ===== -/
def NetK (m : Mem) (R H : Nat) : Prop := SoI (m 342) 0 H ∧ SoI (m 343) 0 H ∧ (∀ i : Nat, i < H → ∃ r c : Nat, hopM m R r c ∧ m 342 i = klM m r c) ∧ (∀ r c : Nat, hopM m R r c → ∃ i : Nat, i < H ∧ m 342 i = klM m r c) ∧ (∀ i : Nat, i < H → ∃ r c : Nat, hopM m R r c ∧ m 343 i = kaM m r c) ∧ ∀ r c : Nat, hopM m R r c → ∃ i : Nat, i < H ∧ m 343 i = kaM m r c
def NetW (mc : Mem) (cut : Int) (m : Mem) : Prop := m 1 4 = cut ∧ ∀ a b : Nat, a < nC mc → b < nC mc → m (17 + a) b = wC mc cut a b
def NetC (mc : Mem) (day sh mi : Int) (m : Mem) : Prop := ∃ R H : Nat, m 119 4 = R ∧ m 119 11 = H ∧ R ≤ 72 ∧ H ≤ 504 ∧ NetT mc day sh mi m R 72 ∧ NetK m R H
def FrY (m0 m : Mem) : Prop := ∀ c i, ¬ (17 ≤ c ∧ c ≤ 28) → ¬ (c = 1 ∧ i = 4) → ¬ (119 ≤ c ∧ c ≤ 344) → m c i = m0 c i
section NETC
variable {mc m m0 : Mem} {day sh mi cut : Int}
theorem NetT_ext {R Q Q' : Nat} (h : NetT mc day sh mi m R Q) (hq : Q ≤ Q') (hn : ∀ q, Q ≤ q → q < Q' → ¬ isQ mc day q) : NetT mc day sh mi m R Q' := by
  obtain ⟨h1, h2, h3⟩ := h
  refine ⟨fun r hr => ?_, h2, fun q a b => ?_⟩
  · have := h1 r hr
    exact ⟨by omega, this.2⟩
  · by_cases hh : q < Q
    · exact h3 q hh b
    · exact absurd b (hn q (by omega) a)
/-- tables alone count -/
theorem NetT_fr {m' : Mem} {R Q : Nat} (I : CI mc) (hR : R ≤ 72) (h : NetT mc day sh mi m R Q) (f : ∀ c i, 120 ≤ c → c ≤ 341 → m' c i = m c i) : NetT mc day sh mi m' R Q := by
  have ph : ∀ r, phi m' r = phi m r := fun r => by
    unfold phi
    rw [f 121 r (by omega) (by omega), f 120 r (by omega) (by omega)]
  obtain ⟨h1, h2, h3⟩ := h
  refine ⟨fun r hr => ?_, fun r r' a b => by rw [ph, ph]; exact h2 r r' a b, fun q a b => ?_⟩
  · have := h1 r hr
    rw [ph, f 120 r (by omega) (by omega), f 121 r (by omega) (by omega), f 122 r (by omega) (by omega)]
    refine ⟨this.1, this.2.1, this.2.2.1, this.2.2.2.1, this.2.2.2.2.1, fun c hc => ?_⟩
    rw [f (124 + r) c (by omega) (by omega), f (197 + r) c (by omega) (by omega), f (270 + r) c (by omega) (by omega)]
    exact this.2.2.2.2.2 c hc
  · obtain ⟨r, r1, r2⟩ := h3 q a b
    exact ⟨r, r1, by rw [ph]; exact r2⟩
theorem hopM_fr {m' : Mem} {R : Nat} (hR : R ≤ 72) (f : ∀ c i, 120 ≤ c → c ≤ 341 → m' c i = m c i) {r c : Nat} : (hopM m' R r c ↔ hopM m R r c) ∧ (r < R → klM m' r c = klM m r c ∧ kaM m' r c = kaM m r c) := by
  refine ⟨?_, fun h => ?_⟩
  · unfold hopM
    constructor
    · rintro ⟨a, b, d⟩
      rw [f 122 r (by omega) (by omega)] at b
      rw [f (270 + r) c (by omega) (by omega)] at d
      exact ⟨a, b, d⟩
    · rintro ⟨a, b, d⟩
      rw [← f 122 r (by omega) (by omega)] at b
      rw [← f (270 + r) c (by omega) (by omega)] at d
      exact ⟨a, b, d⟩
  · unfold klM kaM
    rw [f (270 + r) c (by omega) (by omega), f (197 + r) (c + 1) (by omega) (by omega)]
    exact ⟨rfl, rfl⟩
theorem alen342 : alen SHC 342 = 576 := by rfl
theorem alen343 : alen SHC 343 = 576 := by rfl
theorem alen344 : alen SHC 344 = 576 := by rfl
theorem Per_told (p : Per mc m) : ∀ a b : Nat, a < 12 → b < 12 → told m a b = told mc a b := fun a b ha hb => p _ _ ⟨by unfold pC; omega, by omega⟩
theorem linkP_ok (I : CI mc) (p : Per mc m0) : Ok (C_Stops_link cut m0) (fun m => (∀ c i, ¬ (17 ≤ c ∧ c ≤ 28) → ¬ (c = 1 ∧ i = 4) → m c i = m0 c i) ∧ Per mc m ∧ NetW mc cut m) := by
  have n := CI_n I
  have hT : TB (told m0) := fun a b ha hb => by
    rw [Per_told p a b ha hb]
    exact CI_TB I a b ha hb
  refine (link_ok (n := nC mc) (without := cut) (by rw [p 1 0 ⟨by unfold pC; omega, by omega⟩]; exact n.1) n.2 hT).mono (fun m h => ⟨h.1, fun c i hc => ?_, h.2.1, fun a b ha hb => ?_⟩)
  · have hc' := hc
    obtain ⟨hc1, hc2⟩ := hc
    rw [h.1 c i (by unfold pC at hc1; omega) hc2]
    exact p c i hc'
  · rw [h.2.2 a b ha hb]
    exact fw_congr (fun a b ha hb => Per_told p a b ha hb) _ _ _ (by omega) (by omega) (by omega)
theorem lay_ok (I : CI mc) (hd : 0 ≤ day ∧ day ≤ 27) (hm : -60 ≤ mi ∧ mi ≤ 60) (p : Per mc m0) : Ok (C_Net_lay day sh mi m0) (fun m => FrY m0 m ∧ Per mc m ∧ NetW mc (-1) m ∧ NetC mc day sh mi m) := by
  have tt := CI_t I
  have hsv : ∀ t : Nat, (t : Int) < mc 31 0 → 0 ≤ mc 32 t ∧ mc 32 t < 6 ∧ 0 ≤ mc 30 (mc 32 t).toNat ∧ mc 30 (mc 32 t).toNat < 268435456 := by
    intro t h
    obtain ⟨mx, I⟩ := I
    have b := I.2.2.1.2.2.2 t h
    have c := I.2.1.2.2.1
    have d := I.2.1.2.2.2.1 (mc 32 t).toNat (by omega)
    exact ⟨b.2.1, by omega, d.1, d.2.1⟩
  unfold C_Net_lay
  refine ok_bind (linkP_ok (cut := -1) I p) (fun m1 h1 => ok_ltv (ok_ltv (ok_ltv (ok_bq2 (Q := fun (x : Int × Mem) => (∀ c i, ¬ (119 ≤ c ∧ c ≤ 343) → x.2 c i = m1 c i) ∧ ∃ R H : Nat, x.2 119 4 = R ∧ x.2 119 11 = H ∧ H ≤ 7 * R ∧ R ≤ 72 ∧ NetT mc day sh mi x.2 R 72 ∧ NetH x.2 R H) ?_ (fun _ m8 h8 => ?_)))))
  · refine ok_loop (fun x => ∃ j : Nat, x.1 = (j : Int) - 1 ∧ j ≤ 3 ∧ (∀ c i, ¬ (119 ≤ c ∧ c ≤ 343) → x.2 c i = m1 c i) ∧ ∃ R H : Nat, x.2 119 4 = R ∧ x.2 119 11 = H ∧ H ≤ 7 * R ∧ R ≤ 24 * j ∧ NetT mc day sh mi x.2 R (24 * j) ∧ NetH x.2 R H) (fun x => (2 - x.1).toNat) ⟨0, by simp, by omega, fun c i h => ?_, 0, 0, ?_, ?_, by omega, by omega, ⟨fun r h => by omega, fun r r' h h2 => by omega, fun q h => by omega⟩, fun i h => by omega, fun r c h => by have := h.1; omega⟩ ?_
    · dsimp only
      rw [setM_ne (by omega), setM_ne (by omega)]
    · simp (disch := omega) only [setM_ne, setM_hit, true_and, and_true]
      rfl
    · simp (disch := omega) only [setM_ne, setM_hit, true_and, and_true]
      rfl
    · rintro ⟨x1, m4⟩ ⟨j, e1, j3, f1, R, H, r1, r2, r3, r4, r5, r6⟩
      dsimp only at e1 f1 r1 r2 r5 r6 ⊢
      subst e1
      unfold C_Net_lay_b1
      refine ok_ite (fun hj => ok_ltv (ok_bq2 (ok_for0 (n := (mc 31 0).toNat) (fun t m => (∀ c i, ¬ (119 ≤ c ∧ c ≤ 343) → m c i = m1 c i) ∧ ∃ R H : Nat, m 119 4 = R ∧ m 119 11 = H ∧ H ≤ 7 * R ∧ R ≤ 24 * j + t ∧ NetT mc day sh mi m R (24 * j + t) ∧ NetH m R H) ⟨f1, R, H, r1, r2, r3, r4, r5, r6⟩ ?_ ?_) (fun _ m h => ok_grd (by unfold InR; omega) (ok_ltv (ok_some ⟨⟨j + 1, by dsimp only; omega, by omega, h.1, ?_⟩, by dsimp only; omega⟩))))) (fun hj => ok_some ⟨f1, R, H, r1, r2, r3, by omega, ?_, r6⟩)
      · rintro t m ht ⟨g1, R, H, s1, s2, s3, s4, s5, s6⟩
        have pm : Per mc m := fun c i h => by
          rw [g1 c i (by obtain ⟨h, -⟩ := h; unfold pC at h; omega)]
          exact h1.2.1 c i h
        have e31 : m 31 0 = mc 31 0 := pm _ _ ⟨by unfold pC; omega, by omega⟩
        have e32 : m 32 t = mc 32 t := pm _ _ ⟨by unfold pC; omega, by omega⟩
        have e30 : m 30 (mc 32 t).toNat = mc 30 (mc 32 t).toNat := pm _ _ ⟨by unfold pC; omega, by omega⟩
        have sv := hsv t (by omega)
        obtain ⟨Q, hQ⟩ : ∃ Q, Q = 24 * j + t := ⟨_, rfl⟩
        have q1 : Q % 24 = t := by omega
        have q2 : qd Q = (j : Int) - 1 := by unfold qd; omega
        have iq : isQ mc day Q ↔ (0 ≤ day + qd Q ∧ day + qd Q ≤ 27 ∧ bit (mc 30 (mc 32 t).toNat) (day + qd Q).toNat = 1) := by
          unfold isQ
          rw [q1]
          exact ⟨fun h => h.2, fun h => ⟨by omega, h⟩⟩
        have D := Per_D I pm
        unfold C_Net_lay_b2
        rw [e31, Int.toNat_natCast, e32]
        rw [← hQ] at s4 s5
        rw [← q2]
        refine ok_ite (fun _ => ok_grd (by have := qd_bd (q := Q) (by omega); unfold InR; omega) (ok_bind (isOn_ok sv.1 sv.2.1 (by rw [e30]; exact sv.2.2)) (fun z hz => ?_))) (fun h => by omega)
        rw [e30] at hz
        have hz2 : ¬ z = 0 ↔ isQ mc day Q := by
          rw [hz, iq]
          by_cases hh : 0 ≤ day + qd Q ∧ day + qd Q < 28
          · rw [if_pos hh]
            have b01 := bit_01 (mc 30 (mc 32 t).toNat) (day + qd Q).toNat
            omega
          · rw [if_neg hh]
            omega
        refine ok_ite (fun hy => ok_ltv (ok_bind (find_ok D.1 D.2.1) (fun e he => ?_))) (fun hy => ok_grd (by unfold InR; omega) (ok_ltv (ok_some ⟨_, rfl, g1, R, H, s1, s2, s3, by omega, ?_, s6⟩)))
        · have hq := hz2.mp hy
          have mvq : (if (t : Int) = sh then mi else 0) = mvQ sh mi Q := by unfold mvQ; rw [q1]
          rw [mvq]
          have := addRun_ok (sh := sh) (mi := mi) (e := e) I hd hm (by omega) s4 pm hq s1 s2 s3 s5 s6 (by rw [q1]; exact he)
          rw [q1] at this
          refine ok_grd (by have := qd_bd (q := Q) (by omega); have := mvQ_bd (sh := sh) (q := Q) hm; unfold InR; omega) (ok_bind this (fun m' hm' => ok_grd (by unfold InR; omega) (ok_ltv (ok_some ⟨_, rfl, fun c i hc => ?_, ?_⟩))))
          · rw [hm'.1 c i hc]
            exact g1 c i hc
          · obtain ⟨H', k1, k2, k3, k4, k5⟩ := hm'.2
            exact ⟨R + 1, H', k1, k2, k3, by omega, by rw [hQ] at k4; exact k4, k5⟩
        · have : ¬ isQ mc day Q := fun q => hy (hz2.mpr q)
          exact NetT_ext (Q := Q) s5 (by omega) (fun q a b => by
            have : q = Q := by omega
            rw [this]
            assumption)
      · rintro m ⟨g1, -⟩
        have e31 : m 31 0 = mc 31 0 := by
          rw [g1 31 0 (by omega)]
          exact h1.2.1 _ _ ⟨by unfold pC; omega, by omega⟩
        unfold C_Net_lay_b2
        rw [e31, if_neg (by omega)]
      · dsimp only at h ⊢
        obtain ⟨-, R, H, s1, s2, s3, s4, s5, s6⟩ := h
        refine ⟨R, H, s1, s2, s3, by omega, NetT_ext s5 (by omega) (fun q a b z => ?_), s6⟩
        have := z.1
        omega
      · have : j = 3 := by omega
        rw [this] at r5
        exact r5
  · dsimp only at h8
    obtain ⟨f1, R, H, r1, r2, r3, r4, r5, r6⟩ := h8
    rw [r2]
    have p8 : Per mc m8 := fun c i h => by
      rw [f1 c i (by obtain ⟨h, -⟩ := h; unfold pC at h; omega)]
      exact h1.2.1 c i h
    refine ok_bind (sortUp_ok (k := 342) (s := 344) (n := H) (by omega) (by rw [alen342]; omega) (by rw [alen344]; omega) (by omega)) (fun m9 h9 => ?_)
    have e9 : m9 119 11 = H := by rw [h9.1 119 11 (by omega) (by omega)]; exact r2
    rw [e9]
    refine ok_bind (sortUp_ok (k := 343) (s := 344) (n := H) (by omega) (by rw [alen343]; omega) (by rw [alen344]; omega) (by omega)) (fun m10 h10 => ok_some ?_)
    have fr : ∀ c i, ¬ (342 ≤ c ∧ c ≤ 344) → m10 c i = m8 c i := fun c i h => by
      rw [h10.1 c i (by omega) (by omega), h9.1 c i (by omega) (by omega)]
    have frt : ∀ c i, 120 ≤ c → c ≤ 341 → m10 c i = m8 c i := fun c i _ _ => fr c i (by omega)
    have r342 : m10 342 = m9 342 := funext fun i => h10.1 342 i (by omega) (by omega)
    have r343 : m9 343 = m8 343 := funext fun i => h9.1 343 i (by omega) (by omega)
    have mem1 : ∀ v, (∃ i : Nat, i < H ∧ m10 342 i = v) ↔ ∃ i : Nat, i < H ∧ m8 342 i = v := fun v => by
      have a := cI_pos (f := m10 342) (v := v) (lo := 0) (n := H)
      have b := cI_pos (f := m8 342) (v := v) (lo := 0) (n := H)
      rw [r342, h9.2.2 v, ← r342, b] at a
      constructor
      · rintro ⟨i, i1, i2⟩
        obtain ⟨x, -, x2, x3⟩ := a.mpr ⟨i, by omega, by omega, i2⟩
        exact ⟨x, by omega, x3⟩
      · rintro ⟨i, i1, i2⟩
        obtain ⟨x, -, x2, x3⟩ := a.mp ⟨i, by omega, by omega, i2⟩
        exact ⟨x, by omega, x3⟩
    have mem2 : ∀ v, (∃ i : Nat, i < H ∧ m10 343 i = v) ↔ ∃ i : Nat, i < H ∧ m8 343 i = v := fun v => by
      have a := cI_pos (f := m10 343) (v := v) (lo := 0) (n := H)
      have b := cI_pos (f := m8 343) (v := v) (lo := 0) (n := H)
      rw [h10.2.2 v, r343, b] at a
      constructor
      · rintro ⟨i, i1, i2⟩
        obtain ⟨x, -, x2, x3⟩ := a.mpr ⟨i, by omega, by omega, i2⟩
        exact ⟨x, by omega, x3⟩
      · rintro ⟨i, i1, i2⟩
        obtain ⟨x, -, x2, x3⟩ := a.mp ⟨i, by omega, by omega, i2⟩
        exact ⟨x, by omega, x3⟩
    refine ⟨fun c i a b d => ?_, fun c i h => ?_, ⟨?_, fun a b ha hb => ?_⟩, R, H, ?_, ?_, by omega, by omega, NetT_fr I r4 r5 frt, ?_, ?_, fun i hi => ?_, fun r c hh => ?_, fun i hi => ?_, fun r c hh => ?_⟩
    · rw [fr c i (by omega), f1 c i (by omega), h1.1 c i a b]
    · rw [fr c i (by obtain ⟨h, -⟩ := h; unfold pC at h; omega)]
      exact p8 c i h
    · rw [fr 1 4 (by omega), f1 1 4 (by omega)]
      exact h1.2.2.1
    · have n := CI_n I
      rw [fr _ _ (by omega), f1 _ _ (by omega)]
      exact h1.2.2.2 a b ha hb
    · rw [fr 119 4 (by omega)]
      exact r1
    · rw [fr 119 11 (by omega)]
      exact r2
    · rw [r342]
      exact h9.2.1
    · exact h10.2.1
    · obtain ⟨x, x1, x2⟩ := (mem1 _).mp ⟨i, hi, rfl⟩
      obtain ⟨r, c, c1, c2, c3⟩ := r6.1 x x1
      have := hopM_fr (R := R) (r := r) (c := c) r4 frt
      exact ⟨r, c, this.1.mpr c1, by rw [(this.2 c1.1).1, ← c2, x2]⟩
    · have := hopM_fr (R := R) (r := r) (c := c) r4 frt
      obtain ⟨x, x1, x2, x3⟩ := r6.2 r c (this.1.mp hh)
      rw [(this.2 hh.1).1]
      exact (mem1 _).mpr ⟨x, x1, x2⟩
    · obtain ⟨x, x1, x2⟩ := (mem2 _).mp ⟨i, hi, rfl⟩
      obtain ⟨r, c, c1, c2, c3⟩ := r6.1 x x1
      have := hopM_fr (R := R) (r := r) (c := c) r4 frt
      exact ⟨r, c, this.1.mpr c1, by rw [(this.2 c1.1).2, ← c3, x2]⟩
    · have := hopM_fr (R := R) (r := r) (c := c) r4 frt
      obtain ⟨x, x1, x2, x3⟩ := r6.2 r c (this.1.mp hh)
      rw [(this.2 hh.1).2]
      exact (mem2 _).mpr ⟨x, x1, x3⟩
end NETC
