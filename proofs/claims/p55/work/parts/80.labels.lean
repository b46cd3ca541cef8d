/-! ===== the class's labels ===== -/
def labC (x : Nat) (m : Mem) : Lb := (m (x + 1), m (x + 2))
def Ctx (mc : Mem) (day sh mi cut : Int) (m : Mem) : Prop := Per mc m ∧ NetW mc cut m ∧ NetC mc day sh mi m
def cX (c i : Nat) : Prop := pC c i ∨ (17 ≤ c ∧ c ≤ 28) ∨ (119 ≤ c ∧ c ≤ 343)
def FrLb (x : Nat) (m0 m : Mem) : Prop := ∀ c i, ¬ (c = x + 1 ∨ c = x + 2) → m c i = m0 c i
section LABC
variable {mc m m0 : Mem} {day sh mi cut : Int} {x : Nat}
theorem NetK_fr {m' : Mem} {R H : Nat} (hR : R ≤ 72) (h : NetK m R H) (f : ∀ c i, 120 ≤ c → c ≤ 343 → m' c i = m c i) : NetK m' R H := by
  have frt : ∀ c i, 120 ≤ c → c ≤ 341 → m' c i = m c i := fun c i h1 h2 => f c i h1 (by omega)
  have r342 : m' 342 = m 342 := funext fun i => f 342 i (by omega) (by omega)
  have r343 : m' 343 = m 343 := funext fun i => f 343 i (by omega) (by omega)
  obtain ⟨h1, h2, h3, h4, h5, h6⟩ := h
  unfold NetK
  rw [r342, r343]
  refine ⟨h1, h2, fun i hi => ?_, fun r c hh => ?_, fun i hi => ?_, fun r c hh => ?_⟩
  · obtain ⟨r, c, c1, c2⟩ := h3 i hi
    have := hopM_fr (R := R) (r := r) (c := c) hR frt
    exact ⟨r, c, this.1.mpr c1, by rw [(this.2 c1.1).1, c2]⟩
  · have := hopM_fr (R := R) (r := r) (c := c) hR frt
    obtain ⟨i, i1, i2⟩ := h4 r c (this.1.mp hh)
    exact ⟨i, i1, by rw [(this.2 hh.1).1, i2]⟩
  · obtain ⟨r, c, c1, c2⟩ := h5 i hi
    have := hopM_fr (R := R) (r := r) (c := c) hR frt
    exact ⟨r, c, this.1.mpr c1, by rw [(this.2 c1.1).2, c2]⟩
  · have := hopM_fr (R := R) (r := r) (c := c) hR frt
    obtain ⟨i, i1, i2⟩ := h6 r c (this.1.mp hh)
    exact ⟨i, i1, by rw [(this.2 hh.1).2, i2]⟩
theorem Ctx_fr {m' : Mem} (I : CI mc) (h : Ctx mc day sh mi cut m) (f : ∀ c i, cX c i → m' c i = m c i) : Ctx mc day sh mi cut m' := by
  obtain ⟨h1, ⟨h2, h3⟩, R, H, r1, r2, r3, r4, r5, r6⟩ := h
  have n := CI_n I
  refine ⟨fun c i q => ?_, ⟨?_, fun a b ha hb => ?_⟩, R, H, ?_, ?_, r3, r4, NetT_fr I r3 r5 (fun c i a b => f c i (by unfold cX; omega)), NetK_fr r3 r6 (fun c i a b => f c i (by unfold cX; omega))⟩
  · rw [f c i (Or.inl q.1)]
    exact h1 c i q
  · rw [f 1 4 (by unfold cX pC; omega)]
    exact h2
  · rw [f _ _ (by unfold cX; omega)]
    exact h3 a b ha hb
  · rw [f _ _ (by unfold cX; omega)]
    exact r1
  · rw [f _ _ (by unfold cX; omega)]
    exact r2
/-- what labels need of the memory -/
def CtL (mc : Mem) (cut : Int) (m : Mem) : Prop := m 1 0 = nC mc ∧ (∀ a : Nat, a < nC mc → m 2 a = mc 2 a) ∧ NetW mc cut m
theorem CtL_of (I : CI mc) (p : Per mc m) (w : NetW mc cut m) : CtL mc cut m := by
  refine ⟨?_, fun a ha => p _ _ ⟨by unfold pC; omega, by omega⟩, w⟩
  rw [p 1 0 ⟨by unfold pC; omega, by omega⟩]
  exact (CI_n I).1
theorem CtL_fr {m' : Mem} (I : CI mc) (h : CtL mc cut m) (f : ∀ c i, c ≤ 28 → m' c i = m c i) : CtL mc cut m' := by
  have n := CI_n I
  obtain ⟨h1, h2, h3, h4⟩ := h
  refine ⟨by rw [f 1 0 (by omega)]; exact h1, fun a ha => by rw [f 2 a (by omega)]; exact h2 a ha, by rw [f 1 4 (by omega)]; exact h3, fun a b ha hb => by rw [f (17 + a) b (by omega)]; exact h4 a b ha hb⟩
theorem clear_ok (I : CI mc) (hx : 345 ≤ x) (C : CtL mc cut m0) : Ok (C_Labels_clear x m0) (fun m => FrLb x m0 m ∧ ∀ v : Nat, v < nC mc → m (x + 1) v = 1000000 ∧ m (x + 2) v = 1000000) := by
  have n := CI_n I
  unfold C_Labels_clear
  refine ok_ltv (ok_bq2 (ok_for0 (n := nC mc) (fun k m => FrLb x m0 m ∧ ∀ v : Nat, v < k → m (x + 1) v = 1000000 ∧ m (x + 2) v = 1000000) ⟨fun _ _ _ => rfl, fun v hv => by omega⟩ ?_ ?_) (fun _ m h => ok_some h))
  · rintro k m hk ⟨f1, f2⟩
    have e0 : m 1 0 = nC mc := by rw [f1 1 0 (by omega)]; exact C.1
    unfold C_Labels_clear_b1
    rw [e0]
    refine ok_ite (fun _ => ok_grd (by omega) (ok_ltv (ok_ltv (ok_grd (by unfold InR; omega) (ok_ltv (ok_some ⟨_, rfl, fun c i hc => ?_, fun v hv => ?_⟩)))))) (fun h => by omega)
    · rw [setM_ne (by omega), setM_ne (by omega)]
      exact f1 c i hc
    · by_cases hh : v = k
      · simp (disch := omega) only [setM_ne, setM_hit, true_and, and_true]
      · simp (disch := omega) only [setM_ne, setM_hit, true_and, and_true]
        exact f2 v (by omega)
  · rintro m ⟨f1, -⟩
    have e0 : m 1 0 = nC mc := by rw [f1 1 0 (by omega)]; exact C.1
    unfold C_Labels_clear_b1
    rw [e0, if_neg (by omega)]
theorem walkOn_ok {s : Nat} {t : Int} (I : CI mc) (hx : 345 ≤ x) (C : CtL mc cut m0) (hs : s < nC mc) (ht : -2000000 ≤ t ∧ t ≤ 2000000) : Ok (C_Labels_walkOn x s t m0) (fun m => (∀ c i, ¬ c = x + 2 → m c i = m0 c i) ∧ ∀ v : Nat, m (x + 2) v = if v < nC mc ∧ t + wC mc cut s v < m0 (x + 2) v then t + wC mc cut s v else m0 (x + 2) v) := by
  have n := CI_n I
  unfold C_Labels_walkOn
  refine ok_ltv (ok_bq2 (ok_for0 (n := nC mc) (fun k m => (∀ c i, ¬ c = x + 2 → m c i = m0 c i) ∧ ∀ v : Nat, m (x + 2) v = if v < k ∧ t + wC mc cut s v < m0 (x + 2) v then t + wC mc cut s v else m0 (x + 2) v) ⟨fun _ _ _ => rfl, fun v => by rw [if_neg (by omega)]⟩ ?_ ?_) (fun _ m h => ok_some h))
  · rintro k m hk ⟨f1, f2⟩
    have e0 : m 1 0 = nC mc := by rw [f1 1 0 (by omega)]; exact C.1
    have w : m (17 + s) k = wC mc cut s k := by rw [f1 _ _ (by omega)]; exact C.2.2.2 s k hs hk
    have wb := CI_w (cut := cut) I hs hk
    have e2 : m (x + 2) k = m0 (x + 2) k := by rw [f2 k, if_neg (by omega)]
    unfold C_Labels_walkOn_b1
    simp only [Int.toNat_natCast]
    rw [e0, w, e2]
    refine ok_ite (fun _ => ok_grd (by unfold InR; omega) (ok_ltv (ok_ite (fun h => ok_ltv (ok_grd (by unfold InR; omega) (ok_ltv (ok_some ⟨_, rfl, fun c i hc => ?_, fun v => ?_⟩)))) (fun h => ok_grd (by unfold InR; omega) (ok_ltv (ok_some ⟨_, rfl, f1, fun v => ?_⟩)))))) (fun h => by omega)
    · rw [setM_ne (by omega)]
      exact f1 c i hc
    · by_cases hv : v = k
      · rw [setM_hit (by omega), hv, if_pos ⟨by omega, h⟩]
      · rw [setM_ne (by omega), f2 v]
        by_cases z : v < k ∧ t + wC mc cut s v < m0 (x + 2) v
        · rw [if_pos z, if_pos ⟨by omega, z.2⟩]
        · rw [if_neg z, if_neg (fun y => z ⟨by omega, y.2⟩)]
    · rw [f2 v]
      by_cases z : v < k ∧ t + wC mc cut s v < m0 (x + 2) v
      · rw [if_pos z, if_pos ⟨by omega, z.2⟩]
      · rw [if_neg z, if_neg]
        intro y
        by_cases hv : v = k
        · apply h
          rw [← hv]
          exact y.2
        · exact z ⟨by omega, y.2⟩
  · rintro m ⟨f1, -⟩
    have e0 : m 1 0 = nC mc := by rw [f1 1 0 (by omega)]; exact C.1
    unfold C_Labels_walkOn_b1
    rw [e0, if_neg (by omega)]
theorem beginC_ok {a : Nat} {t : Int} (I : CI mc) (hx : 345 ≤ x) (C : CtL mc cut m0) (ha : a < nC mc) (ht : 0 ≤ t ∧ t ≤ 900000) : Ok (C_Labels_begin x a t m0) (fun m => FrLb x m0 m ∧ eqL (nC mc) (labC x m) (ini (wC mc cut) a t)) := by
  have n := CI_n I
  unfold C_Labels_begin
  refine ok_bind (clear_ok I hx C) (fun m1 h1 => ok_grd (by omega) (ok_ltv ?_))
  obtain ⟨m2, hm2⟩ : ∃ m2, m2 = setM m1 (x + 2) ((a : Int)).toNat t := ⟨_, rfl⟩
  rw [← hm2]
  have y : ∀ c i, ¬ (c = x + 2 ∧ i = a) → m2 c i = m1 c i := fun c i h => by rw [hm2]; exact setM_ne (by omega)
  have y2 : m2 (x + 2) a = t := by rw [hm2]; exact setM_hit (by omega)
  have C2 : CtL mc cut m2 := CtL_fr I C (fun c i h => by rw [y c i (by omega)]; exact h1.1 c i (by omega))
  refine ok_bind (walkOn_ok I hx C2 ha (by omega)) (fun m3 h3 => ok_some ⟨fun c i h => ?_, fun v hv => ?_⟩)
  · rw [h3.1 c i (by omega), y c i (by omega), h1.1 c i h]
  · have q := h1.2 v hv
    have wb := CI_w (cut := cut) I ha hv
    unfold labC ini
    dsimp only
    constructor
    · rw [h3.1 _ _ (by omega), y _ _ (by omega)]
      exact q.1
    · rw [h3.2 v]
      by_cases hva : v = a
      · have wd := CI_wd (cut := cut) I ha
        rw [hva, y2, if_pos rfl, wd, if_neg (by omega)]
      · rw [y _ _ (by omega), q.2, if_neg hva]
        by_cases z : t + wC mc cut a v < 1000000
        · rw [if_pos z, if_pos ⟨hv, z⟩]
        · rw [if_neg z, if_neg (fun h => z h.2)]
theorem canGetOn_ok {s : Nat} {t : Int} (I : CI mc) (C : CtL mc cut m0) (hs : s < nC mc) (rg : Rg (nC mc) (labC x m0)) : Ok (C_Labels_canGetOn x s t m0) (fun z => (z = 1 ∧ can (mc 2) (labC x m0) s t) ∨ (z = 0 ∧ ¬ can (mc 2) (labC x m0) s t)) := by
  have n := CI_n I
  have e1 := C.2.1 s hs
  have gb := CI_g I hs
  have b := rg s hs
  unfold labC at b
  dsimp only at b
  unfold C_Labels_canGetOn
  rw [Int.toNat_natCast, e1]
  refine ok_grd (by unfold InR; omega) (ok_some ?_)
  unfold can labC
  dsimp only
  by_cases h : (0 ≤ t) ∧ ((m0 (x + 2) s ≤ t) ∨ (m0 (x + 1) s + mc 2 s ≤ t))
  · rw [if_pos h]
    exact Or.inl ⟨rfl, h⟩
  · rw [if_neg h]
    exact Or.inr ⟨rfl, h⟩
theorem getOff_cut {s : Nat} {t : Int} (C : CtL mc cut m0) (h : (s : Int) = cut) : Ok (C_Labels_getOff x s t m0) (fun r => r = (0, m0)) := by
  unfold C_Labels_getOff
  rw [C.2.2.1]
  exact ok_grd (by omega) (ok_ite (fun _ => ok_some rfl) (fun q => absurd (Or.inl h) q))
theorem getOff_ok {s : Nat} {t : Int} (I : CI mc) (hx : 345 ≤ x) (C : CtL mc cut m0) (hs : s < nC mc) (hc : ¬ (s : Int) = cut) (ht : 0 ≤ t) (rg : Rg (nC mc) (labC x m0)) : Ok (C_Labels_getOff x s t m0) (fun r => FrLb x m0 r.2 ∧ labC x r.2 = gof (nC mc) (wC mc cut) (labC x m0) s t ∧ r.1 = if t < m0 (x + 1) s then 1 else 0) := by
  have n := CI_n I
  have b := rg s hs
  unfold labC at b
  dsimp only at b
  unfold C_Labels_getOff
  rw [C.2.2.1, Int.toNat_natCast]
  refine ok_grd (by omega) (ok_ite (fun h => ok_some ⟨fun _ _ _ => rfl, ?_, ?_⟩) (fun h => ok_grd (by omega) (ok_ltv ?_)))
  · rw [gof_no]
    show ¬ t < m0 (x + 1) s
    omega
  · rw [if_neg (by omega)]
  · obtain ⟨m2, hm2⟩ : ∃ m2, m2 = setM m0 (x + 1) s t := ⟨_, rfl⟩
    rw [← hm2]
    have y : ∀ c i, ¬ (c = x + 1 ∧ i = s) → m2 c i = m0 c i := fun c i h => by rw [hm2]; exact setM_ne (by omega)
    have y2 : m2 (x + 1) s = t := by rw [hm2]; exact setM_same _ _ _ _
    have C2 : CtL mc cut m2 := CtL_fr I C (fun c i h => y c i (by omega))
    have hlt : t < m0 (x + 1) s := by omega
    refine ok_bind (walkOn_ok I hx C2 hs (by omega)) (fun m3 h3 => ok_some ⟨fun c i h => ?_, ?_, ?_⟩)
    · dsimp only
      rw [h3.1 c i (by omega), y c i (by omega)]
    · have wd := CI_wd (cut := cut) I hs
      unfold labC gof
      dsimp only
      rw [if_pos hlt]
      refine Prod.ext ?_ ?_
      · funext v
        dsimp only
        rw [h3.1 _ _ (by omega)]
        by_cases hv : v = s
        · rw [if_pos hv, hv]; exact y2
        · rw [if_neg hv]; exact y _ _ (by omega)
      · funext v
        dsimp only
        rw [h3.2 v, y _ _ (by omega)]
        by_cases z : v < nC mc ∧ v ≠ s ∧ t + wC mc cut s v < m0 (x + 2) v
        · rw [if_pos z, if_pos ⟨z.1, z.2.2⟩]
        · rw [if_neg z, if_neg]
          rintro ⟨z1, z2⟩
          by_cases hv : v = s
          · rw [hv, wd] at z2
            omega
          · exact z ⟨z1, hv, z2⟩
    · rw [if_pos hlt]
theorem atC_ok {s : Nat} (hs : s < 12) : Ok (C_Labels_at x s m0) (fun z => z = min ((labC x m0).1 s) ((labC x m0).2 s)) := by
  unfold C_Labels_at
  rw [Int.toNat_natCast]
  refine ok_grd (by omega) (ok_some ?_)
  unfold labC
  dsimp only
  split <;> omega
end LABC
