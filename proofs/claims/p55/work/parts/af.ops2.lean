/-! ===== P55: the last chance, pairs, the chain, rides, vehicles ===== -/
def KeepP (mm mm' : Mem) : Prop := ∀ c i, pM c i → mm' c i = mm c i
def CHF (A : Mem) (F : Nat → Lb) (b : Nat) (due : Int) (K : Nat) (Kk Dd On Of : Nat → Nat) : Prop := ∀ j, j < K → onA A (Kk j) (Dd j) ∧ On j < Of j ∧ Of j < lnA A (Kk j) ∧ can (A 456) (F j) (stA A (Kk j) (On j)) (lvA A (Kk j) (On j) + byA (Dd j)) ∧ (j + 1 < K → arA A (Kk j) (Of j) + byA (Dd j) + (if stA A (Kk j) (Of j) = stA A (Kk (j + 1)) (On (j + 1)) then A 456 (stA A (Kk (j + 1)) (On (j + 1))) else wA A (stA A (Kk j) (Of j)) (stA A (Kk (j + 1)) (On (j + 1)))) ≤ lvA A (Kk (j + 1)) (On (j + 1)) + byA (Dd (j + 1))) ∧ (j + 1 = K → arA A (Kk j) (Of j) + byA (Dd j) + (if stA A (Kk j) (Of j) = b then 0 else wA A (stA A (Kk j) (Of j)) b) ≤ due)
theorem first_eq (f : Nat → Int) (v : Int) : ∀ n, f n = v → ∃ K, K ≤ n ∧ f K = v ∧ ∀ j, j < K → f j ≠ v := by
  intro n
  induction n using Nat.strongRecOn with
  | ind n ih =>
    intro h
    by_cases hh : ∃ j, j < n ∧ f j = v
    · obtain ⟨j, hj, e⟩ := hh
      obtain ⟨K, h1, h2⟩ := ih j hj e
      exact ⟨K, by omega, h2⟩
    · exact ⟨n, Nat.le_refl _, h, fun j hj e => hh ⟨j, hj, e⟩⟩
section OPT
variable {m m0 mm A : Mem} {a b : Nat} {z : Int}
theorem KeepP_T {mm' : Mem} (h : KeepP mm mm') : KeepT mm mm' := fun c i q => h c i (by unfold tM at q; unfold pM; omega)
theorem keep_inv {mm' : Mem} (I : Inv m0 mm) (h : KeepP mm mm') : Inv m0 mm' := Inv_fr I (fun _ _ _ => rfl) h
theorem ll_ex {y : Int} (I : Inv m mm) (ha : a < nC m) (hb : b < nC m) (hy : 0 ≤ y ∧ y ≤ 999999) : ∃ v, LlB m 10 a b y v := by
  obtain ⟨m1, e, l⟩ := lay_ok (day := 10) (sh := -1) (mi := 0) ⟨_, I⟩ (by omega) (by omega) (Ctx_self I)
  obtain ⟨x, e2, h⟩ := lastLeave_ok (day := 10) (a := a) (b := b) (y := y) ⟨_, I⟩ ⟨l.2.1, l.2.2.1, l.2.2.2⟩ ha hb hy (best_ex I (by omega) ha)
  exact ⟨x.1, h.2⟩
theorem ps_ex (I : Inv m mm) (ha : a < nC m) (hb : b < nC m) : ∃ (k : Nat) (lv ar : Nat → Int), k ≤ 504 ∧ PsB m 10 a b k lv ar ∧ PsE m 10 a b k lv := by
  obtain ⟨m1, e, l⟩ := lay_ok (day := 10) (sh := -1) (mi := 0) ⟨_, I⟩ (by omega) (by omega) (Ctx_self I)
  obtain ⟨m2, e2, f, k, k1, k5, P, E⟩ := collect_ok (day := 10) (a := a) (b := b) ⟨_, I⟩ ⟨l.2.1, l.2.2.1, l.2.2.2⟩ ha hb
  exact ⟨k, _, _, k5, P, E⟩
theorem pLast {y : Int} {L : Lb} (t : AT A) (g : GS A m) (ha : a < nA A) (hb : b < nA A) (hz : 0 ≤ z ∧ z ≤ 1439) (hy : 0 ≤ y ∧ y ≤ 2879) (bL : BestA A (ini (wA A) a z) L) (hL : aR L b ≤ y) : Ok (P_last a b 10 y m) (fun x => GS A x.2 ∧ hiS m x.2 ∧ z ≤ x.1 ∧ x.1 ≤ y ∧ ∀ x' L', 0 ≤ x' → x' ≤ 100000 → BestA A (ini (wA A) a x') L' → (aR L' b ≤ y ↔ x' ≤ x.1)) := by
  obtain ⟨mm, I, g, hA⟩ := g
  have n := n_tr I g.1
  have n6 := t.1
  have cn := CI_n ⟨_, I⟩
  obtain ⟨i1, i2, i3, -⟩ := id I.1
  obtain ⟨v, ll⟩ := ll_ex (y := y) I (a := a) (b := b) (by omega) (by omega) (by omega)
  have lA : ∀ x' L', 0 ≤ x' → x' ≤ 100000 → BestA A (ini (wA A) a x') L' → (aR L' b ≤ y ↔ x' ≤ v) := fun x' L' h1 h2 h3 => ll.2.2 x' L' h1 h2 ((best_tr I g t ha).mpr h3)
  have zv : z ≤ v := (lA z L hz.1 (by omega) bL).mp hL
  have hm : Ok (M_last a b 10 y mm) (fun r => KeepT mm r.2 ∧ r.2 0 0 = 0 ∧ r.1 = v) := by
    unfold M_last
    refine wp_bq2 (wp_isNoStop (by omega) (by omega) (fun _ => by exfalso; omega) (fun _ _ => ok_ite (fun q => absurd rfl q) (fun _ => wp_bq2 (wp_isNoStop (by (try dsimp only); (first | omega | (simp (disch := omega) only [setM_ne, setM_hit, true_and, and_true]; done) | (simp (disch := omega) only [setM_ne, setM_hit, true_and, and_true]; omega))) (by (try dsimp only); (first | omega | (simp (disch := omega) only [setM_ne, setM_hit, true_and, and_true]; done) | (simp (disch := omega) only [setM_ne, setM_hit, true_and, and_true]; omega))) (fun h => by exfalso; dsimp only at h; simp (disch := omega) only [setM_ne, setM_hit, true_and, and_true] at h; omega) (fun _ _ => ok_ite (fun q => absurd rfl q) (fun _ => wp_bq2 (wp_isThrownI (fun h => by exfalso; simp only [isIn0] at h; omega) (fun _ => ok_ite (fun q => absurd rfl q) (fun _ => ok_ltv ?_)))))))))
    have J : Inv m (setM (setM (setM mm 0 0 0) 0 0 0) 0 0 0) := by repeat (first | exact I | with_reducible refine Inv_thr ?_ _)
    obtain ⟨m3, hm3⟩ : ∃ m3, m3 = setM (setM (setM mm 0 0 0) 0 0 0) 0 0 0 := ⟨_, rfl⟩
    dsimp only
    rw [← hm3] at J ⊢
    have f3 : ∀ c i, ¬ (c = 0 ∧ i = 0) → m3 c i = mm c i := fun c i h => by rw [hm3, setM_ne h, setM_ne h, setM_ne h]
    refine ok_bq2 (earliestOf_ok (sh := -1) (mi := 0) (cut := -1) (t := 0) ⟨_, I⟩ (by omega) (by omega) (relM_set J) (by omega) (by omega) (by omega)) (fun t0 m4 e => ?_)
    dsimp only at e
    obtain ⟨e1, e2, e3, e4, e5⟩ := e
    have k0 := ll.2.2 0 _ (by omega) (by omega) e3
    rw [← e5] at k0
    have J2 : Inv m m4 := Inv_fr J (fun _ _ _ => rfl) (fun c i q => e1 c i (by unfold pM at q; omega) (by unfold pM at q; omega))
    refine ok_ite (fun ht => by exfalso; omega) (fun ht => wp_bq2 (wp_isThrown0 (ok_ite (fun q => absurd rfl q) (fun _ => ok_ltv (ok_ltv ?_)))))
    refine ok_bq3 (mLast_ok (Inv_thr J2 0) (by omega) (by omega) (by omega) (by omega) ll (by omega) (by dsimp only; exact (by (try dsimp only); exact setM_same _ _ _ _))) (fun v2 _ m5 h5 => ok_some ⟨fun c i q => ?_, h5.2.1, h5.1⟩)
    dsimp only at h5 ⊢
    rw [h5.2.2 c i (by unfold tM at q; unfold pM; omega)]
    unfold tM at q
    rw [setM_ne (by omega), e1 c i (by omega) (by omega), f3 c i (by omega)]
  refine (p_of (st_last _ _ _ _ _ _ I ⟨by omega, by omega⟩ ⟨by omega, by omega⟩ ⟨by omega, by omega⟩ ⟨by omega, by omega⟩) hm).mono (fun x hx => ?_)
  obtain ⟨hi, r, ⟨kt, e0, r1⟩, J, x1, x2⟩ := hx
  have ev : x.1 = v := by rw [x1 e0, r1]
  rw [ev]
  exact ⟨⟨r.2, J, LG_fr g kt, hiS_ar hA hi⟩, hi, zv, ll.1, lA⟩
theorem pPairs {k : Nat} {lv ar : Nat → Int} (I : Inv m mm) (ha : a < nC m) (hb : b < nC m) (hab : a ≠ b) (k5 : k ≤ 504) (P : PsB m 10 a b k lv ar) (E : PsE m 10 a b k lv) : Ok (P_pairs a b 10 m) (fun x => hiS m x.2 ∧ x.1 = k ∧ ∃ mm', Inv x.2 mm' ∧ KeepP mm mm') := by
  have cn := CI_n ⟨_, I⟩
  obtain ⟨i1, i2, i3, -⟩ := id I.1
  have hm : Ok (M_pairs a b 10 mm) (fun r => KeepP mm r.2 ∧ r.2 0 0 = 0 ∧ r.1 = k) := by
    unfold M_pairs
    refine wp_bq2 (wp_isNoStop (by omega) (by omega) (fun _ => by exfalso; omega) (fun _ _ => ok_ite (fun q => absurd rfl q) (fun _ => wp_bq2 (wp_isNoStop (by (try dsimp only); (first | omega | (simp (disch := omega) only [setM_ne, setM_hit, true_and, and_true]; done) | (simp (disch := omega) only [setM_ne, setM_hit, true_and, and_true]; omega))) (by (try dsimp only); (first | omega | (simp (disch := omega) only [setM_ne, setM_hit, true_and, and_true]; done) | (simp (disch := omega) only [setM_ne, setM_hit, true_and, and_true]; omega))) (fun h => by exfalso; dsimp only at h; simp (disch := omega) only [setM_ne, setM_hit, true_and, and_true] at h; omega) (fun _ _ => ok_ite (fun q => absurd rfl q) (fun _ => wp_bq2 (wp_isThrownI (fun h => by exfalso; simp only [isIn0] at h; omega) (fun _ => ok_ite (fun q => absurd rfl q) (fun _ => ?_)))))))))
    have J : Inv m (setM (setM (setM mm 0 0 0) 0 0 0) 0 0 0) := by repeat (first | exact I | with_reducible refine Inv_thr ?_ _)
    refine ok_bind (tellPairs_ok J (by omega) ha hb k5 P E) (fun m4 h4 => ok_some ⟨fun c i q => ?_, ?_, h4.2.1⟩)
    · dsimp only
      rw [FrTp_pM h4.1 c i q]
      unfold pM at q
      dsimp only
      rw [setM_ne (by omega), setM_ne (by omega), setM_ne (by omega)]
    · dsimp only
      rw [h4.1 0 0 (by omega) (by omega)]
      dsimp only
      exact setM_same _ _ _ _
  refine (p_of (st_pairs _ _ _ _ _ I ⟨by omega, by omega⟩ ⟨by omega, by omega⟩ ⟨by omega, by omega⟩) hm).mono (fun x hx => ?_)
  obtain ⟨hi, r, ⟨kt, e0, r1⟩, J, x1, x2⟩ := hx
  exact ⟨hi, by rw [x1 e0, r1], r.2, J, kt⟩
theorem pPair {k : Nat} {lv ar : Nat → Int} {idx isA : Int} (I : Inv m mm) (I0 : Inv m0 mm) (ha : a < nC m0) (hb : b < nC m0) (hab : a ≠ b) (k5 : k ≤ 504) (P : PsB m0 10 a b k lv ar) (E : PsE m0 10 a b k lv) (hidx : -10 ≤ idx ∧ idx ≤ 1000) (hA : isA = 0 ∨ isA = 1) : Ok (P_pair a b 10 idx isA m) (fun x => hiS m x.2 ∧ (0 ≤ idx → idx < k → x.1 = if ¬ isA = 0 then ar idx.toNat else lv idx.toNat) ∧ ((k : Int) ≤ idx → x.1 = -900003) ∧ ∃ mm', Inv x.2 mm' ∧ KeepP mm mm') := by
  have cn := CI_n ⟨_, I0⟩
  obtain ⟨i1, i2, i3, -⟩ := id I0.1
  have hm : Ok (M_pair a b 10 idx isA mm) (fun r => KeepP mm r.2 ∧ (0 ≤ idx → idx < k → r.2 0 0 = 0 ∧ r.1 = if ¬ isA = 0 then ar idx.toNat else lv idx.toNat) ∧ ((k : Int) ≤ idx → r.2 0 0 = 3)) := by
    unfold M_pair
    refine wp_bq2 (wp_isNoStop (by omega) (by omega) (fun _ => by exfalso; omega) (fun _ _ => ok_ite (fun q => absurd rfl q) (fun _ => wp_bq2 (wp_isNoStop (by (try dsimp only); (first | omega | (simp (disch := omega) only [setM_ne, setM_hit, true_and, and_true]; done) | (simp (disch := omega) only [setM_ne, setM_hit, true_and, and_true]; omega))) (by (try dsimp only); (first | omega | (simp (disch := omega) only [setM_ne, setM_hit, true_and, and_true]; done) | (simp (disch := omega) only [setM_ne, setM_hit, true_and, and_true]; omega))) (fun h => by exfalso; dsimp only at h; simp (disch := omega) only [setM_ne, setM_hit, true_and, and_true] at h; omega) (fun _ _ => ok_ite (fun q => absurd rfl q) (fun _ => wp_bq2 (wp_isThrownI (fun h => by exfalso; simp only [isIn0] at h; omega) (fun _ => ok_ite (fun q => absurd rfl q) (fun _ => ?_)))))))))
    have J : Inv m0 (setM (setM (setM mm 0 0 0) 0 0 0) 0 0 0) := by
      have I := I0
      repeat (first | exact I | with_reducible refine Inv_thr ?_ _)
    refine ok_bind (tellPairs_ok J (by omega) ha hb k5 P E) (fun m4 h4 => ?_)
    have kp : ∀ v : Int, KeepP mm (setM m4 0 0 v) := fun v c i q => by
      have q' := q
      unfold pM at q'
      rw [setM_ne (by omega), FrTp_pM h4.1 c i q]
      dsimp only
      rw [setM_ne (by omega), setM_ne (by omega), setM_ne (by omega)]
    rw [h4.2.1]
    refine ok_grd (by unfold InR; omega) (wp_bq2 (wp_isThrownI (fun h => ok_ite (fun _ => ok_some ⟨kp _, fun q1 q2 => ?_, fun _ => (by (try dsimp only); exact setM_same _ _ _ _)⟩) (fun q => absurd Int.one_ne_zero q)) (fun h => ok_ite (fun q => absurd rfl q) (fun _ => ?_))))
    · rw [isIn0] at h
      omega
    · rw [isIn0] at h
      have hr : 0 ≤ idx ∧ idx < k := by omega
      dsimp only
      have e33 : setM m4 0 0 0 0 33 = k := by rw [setM_ne (by omega)]; exact h4.2.1
      have e22 : ∀ i, setM m4 0 0 0 22 i = m4 22 i := fun i => setM_ne (by omega)
      have e23 : ∀ i, setM m4 0 0 0 23 i = m4 23 i := fun i => setM_ne (by omega)
      rw [e33, e22, e23]
      have t := h4.2.2 (k - 1 - idx.toNat) (by omega)
      have ei : ((k : Int) - 1 - idx).toNat = k - 1 - idx.toNat := by omega
      rw [ei, t.1, t.2, show k - 1 - (k - 1 - idx.toNat) = idx.toNat by omega]
      exact ok_grd (by unfold InR; omega) (ok_some ⟨kp _, fun _ _ => ⟨(by (try dsimp only); exact setM_same _ _ _ _), rfl⟩, fun q => by omega⟩)
  refine (p_of (st_pair _ _ _ _ _ _ _ I ⟨by omega, by omega⟩ ⟨by omega, by omega⟩ ⟨by omega, by omega⟩ ⟨by omega, by omega⟩ hA) hm).mono (fun x hx => ?_)
  obtain ⟨hi, r, ⟨kt, r1, r2⟩, J, x1, x2⟩ := hx
  refine ⟨hi, fun q1 q2 => ?_, fun q => ?_, r.2, J, kt⟩
  · have := r1 q1 q2
    rw [x1 this.1, this.2]
  · have := r2 q
    rw [x2 (by omega), this]
    rfl
theorem pRide {j K : Nat} {what : Int} (I : Inv m mm) (hK : mm 0 29 = K) (hj : j < K) (hw : what = 116 ∨ what = 100 ∨ what = 111 ∨ what = 102) (h19 : 0 ≤ mm 19 j ∧ mm 19 j ≤ 71) : Ok (P_ride j what m) (fun x => hiS m x.2 ∧ (∃ mm', Inv x.2 mm' ∧ ∀ c i, ¬ (c = 0 ∧ i = 0) → mm' c i = mm c i) ∧ x.1 = if what = 116 then (mm 19 j).tmod 24 else if what = 100 then (mm 19 j).tdiv 24 - 1 else if what = 111 then mm 20 j else mm 21 j) := by
  have ic := I.2.2.2.2.2.1
  have K12 : K ≤ 12 := by
    have := ic.2.2.2.1
    rw [hK, if_neg (by omega)] at this
    have := ic.2.1
    omega
  have hm : Ok (M_ride j what mm) (fun r => r.2 0 0 = 0 ∧ (∀ c i, ¬ (c = 0 ∧ i = 0) → r.2 c i = mm c i) ∧ r.1 = if what = 116 then (mm 19 j).tmod 24 else if what = 100 then (mm 19 j).tdiv 24 - 1 else if what = 111 then mm 20 j else mm 21 j) := by
    unfold M_ride
    refine wp_bq2 (wp_isThrownI (fun h => by exfalso; omega) (fun _ => ok_ite (fun q => absurd rfl q) (fun _ => ?_)))
    dsimp only
    simp only [show setM mm 0 0 0 0 29 = K by rw [setM_ne (by omega), hK]]
    refine ok_grd (by unfold InR; omega) (wp_bq2 (wp_isThrownI (fun h => by exfalso; rw [isIn0] at h; omega) (fun _ => ok_ite (fun q => absurd rfl q) (fun _ => ?_))))
    dsimp only
    have e : ∀ c i, ¬ (c = 0 ∧ i = 0) → setM (setM mm 0 0 0) 0 0 0 c i = mm c i := fun c i h => by rw [setM_ne h, setM_ne h]
    rw [e 19 _ (by omega), e 20 _ (by omega), e 21 _ (by omega), Int.toNat_natCast]
    have d24 : InR ((mm 19 j).tdiv 24 - 1) := by
      rw [show mm 19 j = (((mm 19 j).toNat : Nat) : Int) by omega, td24]
      unfold InR
      omega
    refine ok_grd ⟨fun _ _ _ => by omega, fun _ _ _ => by omega, fun _ _ _ => by omega, fun _ _ _ => by omega, fun _ _ => by omega, fun _ _ => by omega, fun _ _ => d24, fun _ => by omega, fun _ => by omega⟩ (ok_some ⟨(by (try dsimp only); exact setM_same _ _ _ _), e, rfl⟩)
  refine (p_of (st_ride m mm (j : Int) what I (show InR (mm 19 j) from ⟨by omega, by omega⟩) ⟨by omega, by omega⟩ ⟨by omega, by omega⟩) hm).mono (fun x hx => ?_)
  obtain ⟨hi, r, ⟨e0, kt, r1⟩, J, x1, x2⟩ := hx
  exact ⟨hi, ⟨r.2, J, kt⟩, by rw [x1 e0, r1]⟩
theorem mVeh_ok (I : Inv m mm) : Ok (M_vehicles 10 mm) (fun r => KeepP mm r.2 ∧ r.2 0 0 = 0 ∧ ∃ x : Nat → Int, (∀ v, v < nC m → DefP (Dv m 10 v) (x v)) ∧ r.1 = sI x (nC m)) := by
  unfold M_vehicles
  refine wp_bq2 (wp_isNoDay (fun h => by exfalso; omega) (fun _ _ => ok_ite (fun q => absurd rfl q) (fun _ => ok_ltv (ok_ltv ?_))))
  dsimp only
  refine ok_bq3 (vehM_ok (Inv_thr I 0) (by omega) ((by (try dsimp only); exact setM_same _ _ _ _))) (fun v _ m3 h3 => ok_some ⟨fun c i q => ?_, ?_, h3.2⟩)
  · dsimp only
    unfold pM at q
    try dsimp only at h3
    rw [h3.1 c i (by omega), setM_ne (by omega)]
  · dsimp only
    try dsimp only at h3
    rw [h3.1 0 0 (by omega), setM_same]
theorem pVeh (I : Inv m mm) (I0 : Inv m0 mm) : Ok (P_vehicles 10 m) (fun x => hiS m x.2 ∧ (∃ mm', Inv x.2 mm' ∧ KeepP mm mm') ∧ ∃ f : Nat → Int, (∀ v, v < nC m0 → DefP (Dv m0 10 v) (f v)) ∧ x.1 = sI f (nC m0)) := by
  refine (p_of (st_vehicles _ _ _ I ⟨by omega, by omega⟩) (mVeh_ok I0)).mono (fun x hx => ?_)
  obtain ⟨hi, r, ⟨kt, e0, f, h1, h2⟩, J, x1, x2⟩ := hx
  exact ⟨hi, ⟨r.2, J, kt⟩, f, h1, by rw [x1 e0, h2]⟩
theorem mVehM_ok (I : Inv m mm) : Ok (M_vehiclesByMatching 10 mm) (fun r => KeepP mm r.2 ∧ r.2 0 0 = 0 ∧ ∃ x : Nat → Int, (∀ v, v < nC m → DefP (Dv m 10 v) (x v)) ∧ r.1 = sI x (nC m)) := by
  unfold M_vehiclesByMatching
  exact ok_bq2 (mVeh_ok I) (fun _ _ h => ok_some h)
theorem pVehM (I : Inv m mm) (I0 : Inv m0 mm) : Ok (P_vehiclesByMatching 10 m) (fun x => hiS m x.2 ∧ (∃ mm', Inv x.2 mm' ∧ KeepP mm mm') ∧ ∃ f : Nat → Int, (∀ v, v < nC m0 → DefP (Dv m0 10 v) (f v)) ∧ x.1 = sI f (nC m0)) := by
  refine (p_of (st_vehiclesByMatching _ _ _ I ⟨by omega, by omega⟩) (mVehM_ok I0)).mono (fun x hx => ?_)
  obtain ⟨hi, r, ⟨kt, e0, f, h1, h2⟩, J, x1, x2⟩ := hx
  exact ⟨hi, ⟨r.2, J, kt⟩, f, h1, by rw [x1 e0, h2]⟩
theorem pSound (I : Inv m mm) : Ok (P_isSound 10 m) (fun x => x.1 = 1) := by
  have hm : Ok (M_isSound 10 mm) (fun r => r.2 0 0 = 0 ∧ r.1 = 1) := by
    unfold M_isSound
    exact wp_bq2 (wp_isNoDay (fun h => by exfalso; omega) (fun _ _ => ok_ite (fun q => absurd rfl q) (fun _ => ok_some ⟨(by (try dsimp only); exact setM_same _ _ _ _), rfl⟩)))
  refine (p_ofB (st_isSound _ _ _ I ⟨by omega, by omega⟩) hm).mono (fun x hx => ?_)
  obtain ⟨hi, r, ⟨e0, r1⟩, J, x1⟩ := hx
  rw [x1 e0, r1]
  rfl
/-! ### the chain -/
theorem seq_facts {mc : Mem} {B : Nat → Lb} {Q On Of : Nat → Nat} : ∀ {K stop : Nat} {y pause : Int}, Seq mc 10 B K stop y pause Q On Of → ∀ j, j < K → Q j < 72 ∧ isQ mc 10 (Q j) ∧ On j < Of j ∧ Of j < lenQ mc (Q j) ∧ can (mc 2) (B j) (stQ mc (Q j) (On j)) (lvQ mc 10 (-1) 0 (Q j) (On j)) ∧ (j + 1 < K → arQ mc 10 (-1) 0 (Q j) (Of j) + btw mc (stQ mc (Q (j + 1)) (On (j + 1))) (mc 2 (stQ mc (Q (j + 1)) (On (j + 1)))) (stQ mc (Q j) (Of j)) ≤ lvQ mc 10 (-1) 0 (Q (j + 1)) (On (j + 1))) ∧ (j + 1 = K → arQ mc 10 (-1) 0 (Q j) (Of j) + btw mc stop pause (stQ mc (Q j) (Of j)) ≤ y) := by
  intro K
  induction K with
  | zero => intro _ _ _ _ j h; omega
  | succ K ih =>
    rintro stop y pause ⟨h1, h2⟩ j hj
    obtain ⟨r1, r2, r3, r4, r5, r6, r7, r8⟩ := h1
    by_cases e : j = K
    · subst e
      exact ⟨r1, r2, r6, r3.1, r7, fun q => by omega, fun _ => r3.2.2⟩
    · obtain ⟨s1, s2, s3, s4, s5, s6, s7⟩ := ih h2 j (by omega)
      refine ⟨s1, s2, s3, s4, s5, fun q => ?_, fun q => by omega⟩
      by_cases e2 : j + 1 = K
      · have := s7 e2
        rw [← e2] at this
        exact this
      · exact s6 (by omega)
theorem chf_of (I : Inv m mm) (g : LG mm A) (t : AT A) {B : Nat → Lb} {Q On Of : Nat → Nat} {K : Nat} {due : Int} (hb : b < nA A) (h : Seq m 10 B K b due 0 Q On Of) : CHF A B b due K (fun j => Q j % 24) (fun j => Q j / 24) On Of := by
  intro j hj
  have tk := t.2.2.1
  have cv : ∀ j, j < K → ∀ c, c < lenQ m (Q j) → onA A (Q j % 24) (Q j / 24) ∧ lenQ m (Q j) = lnA A (Q j % 24) ∧ stQ m (Q j) c = stA A (Q j % 24) c ∧ stA A (Q j % 24) c < nA A ∧ lvQ m 10 (-1) 0 (Q j) c = lvA A (Q j % 24) c + byA (Q j / 24) ∧ arQ m 10 (-1) 0 (Q j) c = arA A (Q j % 24) c + byA (Q j / 24) := fun j hj c hc => by
    have f := seq_facts h j hj
    have eq : Q j = 24 * (Q j / 24) + Q j % 24 := by omega
    have o : onA A (Q j % 24) (Q j / 24) := (q_on I g.1 t (by omega) (by omega)).mp (by rw [← eq]; exact f.2.1)
    have ln := q_len I g.1 (k := Q j % 24) (d := Q j / 24) (by omega) o.1
    rw [← eq] at ln
    have cl := q_call I g.1 (k := Q j % 24) (d := Q j / 24) (c := c) (by omega) (by omega) o.1 (by rw [← ln]; exact hc)
    rw [← eq] at cl
    exact ⟨o, ln, cl.1, ((t.2.2.2 _ o.1).2.2.2.2 c (by rw [← ln]; exact hc)).2.1, cl.2.1, cl.2.2⟩
  obtain ⟨s1, s2, s3, s4, s5, s6, s7⟩ := seq_facts h j hj
  have c1 := cv j hj (On j) (by omega)
  have c2 := cv j hj (Of j) s4
  have gt := fun s hs => g_tr I g.1 s hs
  refine ⟨c1.1, s3, by rw [← c1.2.1]; exact s4, ?_, fun q => ?_, fun q => ?_⟩
  · rw [c1.2.2.1, c1.2.2.2.2.1] at s5
    unfold can at s5 ⊢
    rw [← gt _ c1.2.2.2.1]
    exact s5
  · have n1 := seq_facts h (j + 1) q
    have c3 := cv (j + 1) q (On (j + 1)) (by omega)
    have := s6 q
    rw [c3.2.2.1, c3.2.2.2.2.1, c2.2.2.1, c2.2.2.2.2.2] at this
    unfold btw at this
    rw [gt _ c3.2.2.2.1, w_tr I g _ _ c2.2.2.2.1 c3.2.2.2.1] at this
    exact this
  · have := s7 q
    rw [c2.2.2.1, c2.2.2.2.2.2] at this
    unfold btw at this
    rw [w_tr I g _ _ c2.2.2.2.1 hb] at this
    exact this
def ChP (A m : Mem) (a b : Nat) (z : Int) (x : Int × Mem) : Prop := hiS m x.2 ∧ ∃ mm', Inv x.2 mm' ∧ LG mm' A ∧ ∃ F T, SeA A a z F T ∧ (1000000 ≤ aR (F (T - 1)) b → x.1 = -900003) ∧ (aR (F (T - 1)) b < 1000000 → ∃ (K : Nat) (Kk Dd On Of : Nat → Nat), x.1 = K ∧ K ≤ T - 1 ∧ K ≤ 12 ∧ aR (F K) b = aR (F (T - 1)) b ∧ (∀ j, j < K → aR (F (T - 1)) b < aR (F j) b) ∧ CHF A F b (aR (F (T - 1)) b) K Kk Dd On Of ∧ mm' 0 29 = K ∧ ∀ j, j < K → mm' 19 j = ((24 * Dd j + Kk j : Nat) : Int) ∧ mm' 20 j = On j ∧ mm' 21 j = Of j)
set_option maxHeartbeats 1000000 in
theorem pChain (t : AT A) (g : GS A m) (ha : a < nA A) (hb : b < nA A) (hz : 0 ≤ z ∧ z ≤ 1439) : Ok (P_chain a b 10 z m) (ChP A m a b z) := by
  obtain ⟨mm, I, g, hA⟩ := g
  have n := n_tr I g.1
  have n6 := t.1
  have CI0 : CI m := ⟨_, I⟩
  have hm : Ok (M_chain a b 10 z mm) (fun r => KeepT mm r.2 ∧ ∃ F T, SeA A a z F T ∧ (1000000 ≤ aR (F (T - 1)) b → r.2 0 0 = 3) ∧ (aR (F (T - 1)) b < 1000000 → r.2 0 0 = 0 ∧ ∃ (K : Nat) (Kk Dd On Of : Nat → Nat), r.1 = K ∧ K ≤ T - 1 ∧ aR (F K) b = aR (F (T - 1)) b ∧ (∀ j, j < K → aR (F (T - 1)) b < aR (F j) b) ∧ CHF A F b (aR (F (T - 1)) b) K Kk Dd On Of ∧ r.2 0 29 = K ∧ ∀ j, j < K → r.2 19 j = ((24 * Dd j + Kk j : Nat) : Int) ∧ r.2 20 j = On j ∧ r.2 21 j = Of j)) := by
    unfold M_chain
    refine ok_bq2 (mask_ok (t := 0) I (by omega) (by omega) (by omega) hz) (fun r0 m0 h0 => ok_ite (fun q => absurd h0.1 q) (fun _ => ?_))
    dsimp only at h0
    obtain ⟨-, e0, J, f0⟩ := h0
    refine ok_bind (mTell_ok (z := z) J (by omega) (by omega)) (fun mm2 e => ?_)
    obtain ⟨f, e2, T, rom⟩ := e
    have se := se_of I g t ha (by omega) rom
    have rl : RelM m 10 (-1) 0 (-1) mm2 := RelM_inv J (fun c i h => f c i (by unfold pM at h; omega) (by unfold pM at h; omega)) e2
    obtain ⟨q1, q2, q3, q4, q5⟩ := id rom
    have eT : (T : Int) - 1 = ((T - 1 : Nat) : Int) := by omega
    rw [q1, eT]
    refine ok_grd (by unfold InR; omega) (ok_bind (atBy_ok (k := T - 1) (b := b) (by omega) (by omega)) (fun v hv => ok_ltv ?_))
    have ev : v = aR (exM mm2 T (T - 1)) b := by
      rw [hv]
      unfold exM
      rw [Nat.min_self]
    rw [ev]
    have kt : ∀ m9 : Mem, (∀ c i, ¬ (19 ≤ c ∧ c ≤ 21) → ¬ (c = 0 ∧ (i = 0 ∨ i = 29)) → m9 c i = mm2 c i) → KeepT mm m9 := fun m9 h c i q => by
      unfold tM at q
      rw [h c i (by omega) (by omega), f c i (by omega) (by omega), f0 c i (by omega)]
    refine wp_bq2 (wp_isThrownI (fun h => ok_ite (fun _ => ok_some ⟨kt _ (fun c i _ h9 => setM_ne (by omega)), exM mm2 T, T, se, fun _ => (by (try dsimp only); exact setM_same _ _ _ _), fun q => by omega⟩) (fun q => absurd Int.one_ne_zero q)) (fun h => ok_ite (fun q => absurd rfl q) (fun _ => ok_ltv ?_)))
    have mono : ∀ i j : Nat, aR (exM mm2 T (i + j)) b ≤ aR (exM mm2 T i) b := fun i j => by
      induction j with
      | zero => exact Int.le_refl _
      | succ j ih =>
        have := (se.2.2.2.2.2 (i + j) b hb).1
        rw [← Nat.add_assoc]
        omega
    obtain ⟨K, KT, k1, k2⟩ := first_eq (fun k => aR (exM mm2 T k) b) (aR (exM mm2 T (T - 1)) b) (T - 1) rfl
    try dsimp only at k1 k2
    have k3 : ∀ j : Nat, j < K → aR (exM mm2 T (T - 1)) b < aR (exM mm2 T j) b := fun j hj => by
      have a1 := k2 j hj
      have a2 := mono j (T - 1 - j)
      rw [show j + (T - 1 - j) = T - 1 by omega] at a2
      omega
    obtain ⟨m3, hm3⟩ : ∃ m3, m3 = setM mm2 0 0 0 := ⟨_, rfl⟩
    dsimp only
    rw [← hm3]
    have rows3 : ∀ j, rowM m3 j = rowM mm2 j := fun j => by
      unfold rowM
      exact Prod.ext (funext fun v => by show m3 18 (12 * j + v) = mm2 18 (12 * j + v); rw [hm3]; exact setM_ne (by omega)) (funext fun v => by show m3 17 (12 * j + v) = mm2 17 (12 * j + v); rw [hm3]; exact setM_ne (by omega))
    refine ok_bq1 (Q := fun z => z = (K : Int)) ?_ (fun many hmany => ok_ltv (ok_ltv (ok_ltv ?_)))
    · refine ok_loop (fun x => ∃ k : Nat, x = k ∧ k ≤ K) (fun x => 20 - x.toNat) ⟨0, rfl, Nat.zero_le _⟩ ?_
      rintro x ⟨k, rfl, e2⟩
      unfold M_chain_b1
      refine ok_bind (atBy_ok (k := k) (b := b) (by omega) (by omega)) (fun v hv => ?_)
      have ev : v = aR (exM mm2 T k) b := by
        rw [hv, rows3]
        unfold exM
        rw [Nat.min_eq_left (by omega)]
      rw [ev]
      refine ok_ite (fun hlt => ok_grd (by unfold InR; omega) (ok_ltv (ok_some ⟨⟨k + 1, by omega, ?_⟩, by omega⟩))) (fun hlt => ok_some ?_)
      · have : k ≠ K := fun z => by rw [z, k1] at hlt; omega
        omega
      · by_cases z : k = K
        · rw [z]
        · have := k3 k (by omega)
          exact absurd this hlt
    · subst hmany
      obtain ⟨m4, hm4⟩ : ∃ m4, m4 = setM m3 0 29 (K : Int) := ⟨_, rfl⟩
      rw [← hm4]
      have y4 : ∀ c i, ¬ (c = 0 ∧ (i = 0 ∨ i = 29)) → m4 c i = mm2 c i := fun c i hh => by rw [hm4, setM_ne (by omega), hm3, setM_ne (by omega)]
      have y429 : m4 0 29 = K := by rw [hm4, setM_same]
      have y40 : m4 0 0 = 0 := by rw [hm4, setM_ne (by omega), hm3, setM_same]
      have rows4 : ∀ j, rowM m4 j = rowM mm2 j := fun j => by
        unfold rowM
        exact Prod.ext (funext fun v => y4 18 _ (by omega)) (funext fun v => y4 17 _ (by omega))
      have ex4 : exM m4 T = exM mm2 T := funext fun k => rows4 _
      have rl4 : RelM m 10 (-1) 0 (-1) m4 := RelM_fr rl (fun c i hh => y4 c i (by unfold rM at hh; omega))
      have rom4 : RoM m 10 (-1) 0 (ini (wC m (-1)) a z) m4 T := by
        refine ⟨by rw [y4 0 28 (by omega)]; exact q1, q2, q3, fun k hk => ?_, ?_⟩
        · rw [rows4]
          exact q4 k hk
        · rw [rows4]
          exact q5
      have cm := chainM_ok (b := b) (K := K) CI0 (by omega) rl4 (by omega) rom4 (by omega) KT (by rw [ex4, k1]; exact Int.le_refl _) (by rw [ex4]; exact k3)
      rw [ex4] at cm
      refine ok_grd (by unfold InR; omega) (ok_ltv (ok_bq5 cm (fun _ _ _ _ m7 h7 => ok_some ?_)))
      obtain ⟨g1, Q, On, Of, sq, recs⟩ := h7
      dsimp only at g1 recs ⊢
      have e29 : m7 0 29 = K := by rw [g1 0 29 (by omega)]; exact y429
      refine ⟨kt _ (fun c i h9 h10 => by rw [g1 c i h9]; exact y4 c i h10), exM mm2 T, T, se, fun q => by omega, fun _ => ⟨?_, K, fun j => Q j % 24, fun j => Q j / 24, On, Of, e29, KT, k1, k3, chf_of I g t hb sq, e29, fun j hj => ?_⟩⟩
      · rw [g1 0 0 (by omega)]
        exact y40
      · have := recs j hj
        refine ⟨?_, this.2⟩
        rw [this.1]
        congr 1
        dsimp only
        omega
  refine (p_of (st_chain _ _ _ _ _ _ I ⟨by omega, by omega⟩ ⟨by omega, by omega⟩ ⟨by omega, by omega⟩ ⟨by omega, by omega⟩) hm).mono (fun x hx => ?_)
  obtain ⟨hi, r, ⟨kt, F, T, se, r1, r2⟩, J, x1, x2⟩ := hx
  refine ⟨hi, r.2, J, LG_fr g kt, F, T, se, fun q => ?_, fun q => ?_⟩
  · have := r1 q
    rw [x2 (by omega), this]
    rfl
  · obtain ⟨w0, K, Kk, Dd, On, Of, w1, w2, w3, w4, w5, w6, w7⟩ := r2 q
    have ic := J.2.2.2.2.2.1
    have K12 : K ≤ 12 := by
      have := ic.2.2.2.1
      rw [w6, if_neg (by omega)] at this
      have := ic.2.1
      omega
    exact ⟨K, Kk, Dd, On, Of, by rw [x1 w0, w1], w2, K12, w3, w4, w5, w6, w7⟩
end OPT
