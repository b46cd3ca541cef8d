/-! ===== P55: what is asked between two stops ===== -/
theorem j11 : jiand 1 1 = 1 := by decide +kernel
section ASK
variable {m m0 mm A : Mem} {a b : Nat} {z : Int}
theorem bestA_ge {L : Lb} (t : AT A) (w : AW A) (ha : a < nA A) (hz : z ≤ 1000000) (B : BestA A (ini (wA A) a z) L) : ∀ s, s < nA A → z ≤ L.1 s ∧ z ≤ L.2 s := best_ge hz (fun s hs => (t.2.1 s hs).1) (fun u v hu hv => (wA_bd w hu hv).1) (fun s x s' x' r => by have := rdA_st t r; exact ⟨this.1, this.2.1, this.2.2.1⟩) ha B
theorem bestA_gt {L : Lb} (t : AT A) (w : AW A) (ha : a < nA A) (hz : z < 1000000) (B : BestA A (ini (wA A) a z) L) : ∀ s, s < nA A → z + 1 ≤ L.1 s := by
  refine fun s hs => (B.1.2.2 (fun _ => z + 1, fun _ => z) ⟨fun s x s' x' r c => ?_, fun s v hs hv _ => ?_⟩ (fun s hs => ?_) s hs).1
  · have k := rdA_st t r
    have := (t.2.1 s k.1).1
    have c2 := c.2
    try dsimp only at c2 ⊢
    omega
  · have := (wA_bd w hs hv).1
    try dsimp only
    omega
  · have := (wA_bd w ha hs).1
    simp only [ini]
    refine ⟨by omega, ?_⟩
    split
    · omega
    · split <;> omega
theorem bestA_top {L : Lb} (B : BestA A (ini (wA A) a z) L) : ∀ s, s < nA A → L.1 s ≤ 1000000 := fun s hs => (B.1.1 s hs).1
theorem lab_bd {L : Lb} (t : AT A) (w : AW A) (ha : a < nA A) (hz : 0 ≤ z ∧ z ≤ 1439) (B : BestA A (ini (wA A) a z) L) (hb : b < nA A) : 0 ≤ aR L b ∧ (aR L b < 1000000 → aR L b ≤ 3420) := by
  have ge := bestA_ge t w ha (by omega) B
  have le := B.1.1
  have key : leL (nA A) (fun s => if L.1 s ≤ 2140 then L.1 s else 1000000, fun v => if L.2 v ≤ 3420 then L.2 v else 1000000) L := by
    refine B.1.2.2 _ ⟨fun s x s' x' r c => ?_, fun s v hs hv hsv => ?_⟩ (fun s hs => ?_)
    · have k := rdA_st t r
      have g0 := (t.2.1 s k.1).1
      have c' : can (A 456) L s x := by
        obtain ⟨c1, c2⟩ := c
        refine ⟨c1, ?_⟩
        try dsimp only at c2
        rcases c2 with c2 | c2
        · left
          split at c2 <;> omega
        · right
          split at c2 <;> omega
      have := B.2 s x s' x' r c'
      try dsimp only
      rw [if_pos (by omega)]
      exact this
    · have wb := wA_bd w hs hv
      have h2 := B.1.2.1 s v hs hv hsv
      have g1 := ge s hs
      try dsimp only
      by_cases q : L.1 s ≤ 2140
      · rw [if_pos q]
        rcases wb.2.2 with e | e
        · rw [e]
          split <;> omega
        · rw [if_pos (by omega)]
          exact h2
      · rw [if_neg q]
        split <;> omega
    · have l := le s hs
      have wb := wA_bd w ha hs
      try dsimp only
      refine ⟨?_, ?_⟩
      · have := l.1
        simp only [ini] at this ⊢
        split <;> omega
      · by_cases q : L.2 s ≤ 3420
        · rw [if_pos q]
          exact l.2
        · rw [if_neg q]
          have := l.2
          simp only [ini] at this ⊢
          by_cases e : s = a
          · rw [if_pos e] at this
            omega
          · rw [if_neg e] at this ⊢
            by_cases e2 : z + wA A a s < 1000000
            · rw [if_pos e2] at this
              omega
            · rw [if_neg e2]
              omega
  have k := key b hb
  have g := ge b hb
  have l := le b hb
  try dsimp only at k
  refine ⟨by unfold aR; omega, fun q => ?_⟩
  unfold aR at q ⊢
  have k1 := k.1
  have k2 := k.2
  split at k1 <;> split at k2 <;> omega
theorem least_aR {v : Nat} (rg : RgW A m) (hv : v < nA A) : W_least (m 459 v) (m 460 v) = aR (labW m) v := by
  have := rg v hv
  unfold W_least aR labW
  try dsimp only
  split <;> omega
theorem few_ch {f : Nat → Int} {K T : Nat} (hT : 1 ≤ T) (hK : K ≤ T - 1) (e : f K = f (T - 1)) (lt : ∀ j, j < K → f (T - 1) < f j) (mono : ∀ k, f (k + 1) ≤ f k) (fin : f (T - 1) < 1000000) : isCh f K ∧ chN f T = chN f K + 1 := by
  have mo : ∀ i j : Nat, f (i + j) ≤ f i := fun i j => by
    induction j with
    | zero => exact Int.le_refl _
    | succ j ih => have := mono (i + j); rw [← Nat.add_assoc]; omega
  have ic : isCh f K := by
    unfold isCh
    by_cases h : K = 0
    · rw [if_pos h, e]; exact fin
    · rw [if_neg h, e]; exact lt (K - 1) (by omega)
  refine ⟨ic, ?_⟩
  rw [← chN_pos ic]
  obtain ⟨j, hj⟩ : ∃ j, T = K + 1 + j := ⟨T - (K + 1), by omega⟩
  have fl : ∀ k, K ≤ k → k ≤ T - 1 → f k = f (T - 1) := fun k h1 h2 => by
    have a1 := mo K (k - K)
    have a2 := mo k (T - 1 - k)
    rw [show K + (k - K) = k by omega] at a1
    rw [show k + (T - 1 - k) = T - 1 by omega] at a2
    omega
  have key : ∀ j, K + 1 + j ≤ T → chN f (K + 1 + j) = chN f (K + 1) := by
    intro j
    induction j with
    | zero => intro _; rfl
    | succ j ih =>
      intro h
      rw [← Nat.add_assoc, chN_neg, ih (by omega)]
      unfold isCh
      rw [if_neg (by omega), fl (K + 1 + j) (by omega) (by omega), fl (K + 1 + j - 1) (by omega) (by omega)]
      omega
  rw [hj]
  exact key j (by omega)
theorem ch_none {f : Nat → Int} : ∀ {n : Nat}, (∀ k, k < n → f k = 1000000) → chN f n = 0 := by
  intro n
  induction n with
  | zero => intro _; rfl
  | succ n ih =>
    intro h
    rw [chN_neg, ih (fun k hk => h k (by omega))]
    unfold isCh
    by_cases e : n = 0
    · rw [if_pos e, h n (by omega)]; omega
    · rw [if_neg e, h n (by omega), h (n - 1) (by omega)]; omega
theorem se_fun {F F' : Nat → Lb} {T T' : Nat} (t : AT A) (h : SeA A a z F T) (h' : SeA A a z F' T') (hb : b < nA A) : (fun k => aR (F k) b) = fun k => aR (F' k) b := funext fun k => se_uniq t h h' k hb
theorem se_ch {F F' : Nat → Lb} {T T' : Nat} (t : AT A) (h : SeA A a z F T) (h' : SeA A a z F' T') (hb : b < nA A) : chN (fun k => aR (F k) b) T = chN (fun k => aR (F' k) b) T' := by
  have al : ∀ {F : Nat → Lb} {T : Nat}, SeA A a z F T → chN (fun k => aR (F k) b) 14 = chN (fun k => aR (F k) b) T := fun {F T} h => by
    obtain ⟨h1, h2, h3, h4, -⟩ := h
    have := chN_flat (f := fun k => aR (F k) b) (a := T) (fun k hk => by (try dsimp only); rw [h4 k (by omega), h4 (k - 1) (by omega)]) h1 (14 - T)
    rw [show T + (14 - T) = 14 by omega] at this
    exact this
  rw [← al h, ← al h', se_fun t h h' hb]
theorem se_due {F : Nat → Lb} {T : Nat} {L : Lb} (h : SeA A a z F T) (B : BestA A (ini (wA A) a z) L) (hb : b < nA A) : aR (F (T - 1)) b = aR L b := best_uq h.2.2.2.2.1 B hb
/-- along the kept chain one comes just then -/
theorem along_ok {mm1 : Mem} {F : Nat → Lb} {T K : Nat} {Kk Dd On Of : Nat → Nat} (t : AT A) (w : AW A) (ha : a < nA A) (hb : b < nA A) (hz : 0 ≤ z ∧ z ≤ 1439) (I : Inv m0 mm1) (g : LG mm1 A) (hA : ArA A m0) (se : SeA A a z F T) (fin : aR (F (T - 1)) b < 1000000) (K12 : K ≤ 12) (e0 : aR (F K) b = aR (F (T - 1)) b) (ch : CHF A F b (aR (F (T - 1)) b) K Kk Dd On Of) (h29 : mm1 0 29 = K) (kept : ∀ j, j < K → mm1 19 j = ((24 * Dd j + Kk j : Nat) : Int) ∧ mm1 20 j = On j ∧ mm1 21 j = Of j) : Ok (W_along K a b z m0) (fun x => x.1 = aR (F (T - 1)) b ∧ GS A x.2 ∧ hiS m0 x.2) := by
  have n6 := t.1
  have tk := t.2.2.1
  have lb := lab_bd t w ha hz se.2.2.2.2.1 hb
  obtain ⟨due, hdue⟩ : ∃ due, due = aR (F (T - 1)) b := ⟨_, rfl⟩
  rw [← hdue] at fin e0 ch lb ⊢
  have nI : ∀ m1 : Mem, hiS m0 m1 → (∃ mm2, Inv m1 mm2 ∧ ∀ c i, ¬ (c = 0 ∧ i = 0) → mm2 c i = mm1 c i) → GS A m1 := fun m1 h ⟨mm2, h1, h2⟩ => ⟨mm2, h1, LG_fr g (fun c i q => h2 c i (by unfold tM at q; omega)), hiS_ar hA h⟩
  unfold W_along
  refine ok_ltv (ok_ltv (ok_ltv (ok_ltv ?_)))
  refine ok_br5 (Q := fun r => match r with
    | .inl x => ∃ s : Nat, x.1 = s ∧ s < nA A ∧ 0 ≤ x.2.1 ∧ x.2.1 ≤ 5000 ∧ x.2.1 + A 457 (6 * s + b) = due ∧ hiS m0 x.2.2.2.2 ∧ GS A x.2.2.2.2
    | .inr _ => False) ?_ (fun s tm ir kk m6 h => ?_) (fun _ h => h.elim)
  · refine ok_loop (fun x => ∃ j : Nat, x.2.2.2.1 = j ∧ j ≤ K ∧ (j = 0 → x.1 = a ∧ x.2.1 = z ∧ x.2.2.1 = 0) ∧ (0 < j → x.1 = stA A (Kk (j - 1)) (Of (j - 1)) ∧ x.2.1 = arA A (Kk (j - 1)) (Of (j - 1)) + byA (Dd (j - 1)) ∧ x.2.2.1 = 1) ∧ hiS m0 x.2.2.2.2 ∧ ∃ mm2, Inv x.2.2.2.2 mm2 ∧ ∀ c i, ¬ (c = 0 ∧ i = 0) → mm2 c i = mm1 c i) (fun x => 20 - x.2.2.2.1.toNat) ⟨0, rfl, Nat.zero_le _, fun _ => ⟨rfl, rfl, rfl⟩, fun h => by omega, fun _ _ _ => rfl, mm1, I, fun _ _ _ => rfl⟩ ?_
    rintro ⟨s, tm, ir, kk, m⟩ ⟨j, h1, h2, h3, h4, h5, mm2, J, f2⟩
    try dsimp only at h1 h3 h4 h5 J ⊢
    subst h1
    unfold W_along_b1
    refine ok_grd (by omega) (ok_ite (fun hj => ?_) (fun hj => ok_some ?_))
    · have hjK : j < K := by omega
      obtain ⟨c1, c2, c3, c4, c5, c6⟩ := ch j hjK
      obtain ⟨k1, k2, k3⟩ := kept j hjK
      have on := (t.2.2.2 _ c1.1)
      have cOn := on.2.2.2.2 (On j) (by omega)
      have cOf := on.2.2.2.2 (Of j) c3
      have dd := c1.2.1
      have kk9 := c1.1
      have dOn : -1440 ≤ byA (Dd j) ∧ byA (Dd j) ≤ 1440 := by unfold byA; omega
      have v1 : (((24 * Dd j + Kk j : Nat) : Int)).tmod 24 = Kk j := by rw [tm24]; congr 1; omega
      have v2 : (((24 * Dd j + Kk j : Nat) : Int)).tdiv 24 - 1 = (Dd j : Int) - 1 := by rw [td24]; congr 2; omega
      -- the four questions
      have ask : ∀ (what : Int) (mm3 m3 : Mem), what = 116 ∨ what = 100 ∨ what = 111 ∨ what = 102 → Inv m3 mm3 → (∀ c i, ¬ (c = 0 ∧ i = 0) → mm3 c i = mm1 c i) → hiS m0 m3 → Ok (P_ride j what m3) (fun x => hiS m0 x.2 ∧ (∃ mm4, Inv x.2 mm4 ∧ ∀ c i, ¬ (c = 0 ∧ i = 0) → mm4 c i = mm1 c i) ∧ x.1 = if what = 116 then (Kk j : Int) else if what = 100 then (Dd j : Int) - 1 else if what = 111 then (On j : Int) else (Of j : Int)) := fun what mm3 m3 hw J3 f3 h3' => by
        have e19 : mm3 19 j = ((24 * Dd j + Kk j : Nat) : Int) := by rw [f3 19 j (by omega)]; exact k1
        refine (pRide J3 (by rw [f3 0 29 (by omega)]; exact h29) hjK hw (by rw [e19]; omega)).mono (fun x hx => ?_)
        obtain ⟨x1, ⟨mm4, x2, x3⟩, x4⟩ := hx
        refine ⟨fun c i q => by rw [x1 c i q]; exact h3' c i q, ⟨mm4, x2, fun c i q => by rw [x3 c i q]; exact f3 c i q⟩, ?_⟩
        rw [x4, e19, v1, v2, f3 20 j (by omega), f3 21 j (by omega), k2, k3]
      refine ok_bq2 (ask 116 mm2 m (by omega) J f2 h5) (fun r1 m2 g1 => ok_ltv ?_)
      obtain ⟨a2, ⟨mm3, J3, f3⟩, rfl⟩ := g1
      refine ok_bq2 (ask 100 mm3 m2 (by omega) J3 f3 a2) (fun r2 m3 g2 => ?_)
      obtain ⟨a3, ⟨mm4, J4, f4⟩, rfl⟩ := g2
      try dsimp only
      rw [if_pos rfl, if_neg (by decide), if_pos rfl]
      refine ok_grd (by unfold InR; omega) (ok_ltv (ok_bq2 (ask 111 mm4 m3 (by omega) J4 f4 a3) (fun r3 m4 g3 => ok_ltv ?_)))
      obtain ⟨a4, ⟨mm5, J5, f5⟩, rfl⟩ := g3
      refine ok_bq2 (ask 102 mm5 m4 (by omega) J5 f5 a4) (fun r4 m5 g4 => ok_ltv ?_)
      obtain ⟨a5, G6, rfl⟩ := g4
      try dsimp only
      rw [if_neg (by decide), if_neg (by decide), if_pos rfl, if_neg (by decide), if_neg (by decide), if_neg (by decide)]
      have hA5 : ArA A m5 := hiS_ar hA a5
      have b0 : m5 458 (1 + 14 * (Kk j : Int)).toNat = svA A (Kk j) := by
        rw [hA5 _ _ (by omega), show (1 + 14 * (Kk j : Int)).toNat = 1 + 14 * Kk j by omega]
        rfl
      have b1 : ∀ c : Nat, c < lnA A (Kk j) → m5 458 (1 + 14 * (Kk j : Int) + 2 + 3 * (c : Int)).toNat = stA A (Kk j) c := fun c hc => by
        rw [hA5 _ _ (by omega), show (1 + 14 * (Kk j : Int) + 2 + 3 * (c : Int)).toNat = 3 + 14 * Kk j + 3 * c by omega]
        exact (on.2.2.2.2 c hc).1
      have b2 : ∀ c : Nat, m5 458 (1 + 14 * (Kk j : Int) + 3 + 3 * (c : Int)).toNat = arA A (Kk j) c := fun c => by
        rw [hA5 _ _ (by omega), show (1 + 14 * (Kk j : Int) + 3 + 3 * (c : Int)).toNat = 4 + 14 * Kk j + 3 * c by omega]
        rfl
      have b3 : ∀ c : Nat, m5 458 (1 + 14 * (Kk j : Int) + 4 + 3 * (c : Int)).toNat = lvA A (Kk j) c := fun c => by
        rw [hA5 _ _ (by omega), show (1 + 14 * (Kk j : Int) + 4 + 3 * (c : Int)).toNat = 5 + 14 * Kk j + 3 * c by omega]
        rfl
      have hby : (1440 : Int) * ((Dd j : Int) - 1) = byA (Dd j) := rfl
      have no : ¬ ((Of j : Int) ≤ On j ∨ (m5 458 (1 + 14 * (Kk j : Int)).toNat = 1 ∧ ¬ byA (Dd j) = 0)) := by
        rintro (q | ⟨q1, q2⟩)
        · omega
        · rw [b0] at q1
          rcases c1.2.2 with q | q
          · omega
          · exact q2 (by unfold byA; omega)
      rw [hby]
      have ln4 := on.2.2.2.1
      refine ok_grd (by unfold InR; omega) (ok_ltv (ok_grd ⟨fun _ => by omega, fun _ => by omega⟩ (ok_ite (fun q => absurd q no) (fun _ => ok_grd (by unfold InR; omega) ?_))))
      rw [b1 (On j) (by omega), b1 (Of j) c3, b2, b3]
      refine ok_ltv ?_
      obtain ⟨sn, hs, hsn⟩ : ∃ sn : Nat, s = sn ∧ sn < nA A := by
        by_cases q : j = 0
        · exact ⟨a, (h3 q).1, ha⟩
        · have c0 := ch (j - 1) (by omega)
          exact ⟨_, (h4 (by omega)).1, ((t.2.2.2 _ c0.1.1).2.2.2.2 _ c0.2.2.1).2.1⟩
      have htm : -1440 ≤ tm ∧ tm ≤ 2140 := by
        by_cases q : j = 0
        · have := (h3 q).2.1
          omega
        · have c0 := ch (j - 1) (by omega)
          have := (h4 (by omega)).2.1
          have := ((t.2.2.2 _ c0.1.1).2.2.2.2 _ c0.2.2.1)
          have := c0.1.2.1
          unfold byA at *
          omega
      subst hs
      have gO := t.2.1 _ cOn.2.1
      have e56 : m5 456 (stA A (Kk j) (On j)) = A 456 (stA A (Kk j) (On j)) := hA5 _ _ (by omega)
      have e57 : m5 457 (6 * (sn : Int) + (stA A (Kk j) (On j) : Int)).toNat = A 457 (6 * sn + stA A (Kk j) (On j)) := by
        rw [i6]
        exact hA5 _ _ (by omega)
      have wb := way_bd w hsn cOn.2.1
      rw [Int.toNat_natCast, e56, e57]
      -- one is in time
      have rdy : (if ¬ ((stA A (Kk j) (On j) : Nat) : Int) = sn then tm + A 457 (6 * sn + stA A (Kk j) (On j)) else if ¬ ir = 0 then tm + A 456 (stA A (Kk j) (On j)) else tm) ≤ lvA A (Kk j) (On j) + byA (Dd j) := by
        by_cases q : j = 0
        · obtain ⟨y1, y2, y3⟩ := h3 q
          have ea : sn = a := by omega
          rw [y2, y3, ea]
          have r0 := se.2.2.1 0
          have q0 : F j = F 0 := by rw [q]
          rw [q0] at c4
          have i0 : eqL (nA A) (F 0) (ini (wA A) a z) := r0
          have i1 := i0 _ cOn.2.1
          obtain ⟨p1, p2⟩ := c4
          simp only [ini] at i1
          have p3 : (F 0).2 (stA A (Kk j) (On j)) ≤ lvA A (Kk j) (On j) + byA (Dd j) := by
            rcases p2 with p2 | p2
            · exact p2
            · omega
          by_cases e : stA A (Kk j) (On j) = a
          · rw [if_pos e] at i1
            rw [if_neg (fun h => h (by omega)), if_neg (fun h => h rfl)]
            omega
          · rw [if_neg e] at i1
            have ew : wA A a (stA A (Kk j) (On j)) = A 457 (6 * a + stA A (Kk j) (On j)) := by unfold wA; rw [if_neg (fun q => e q.symm)]
            rw [if_pos (by omega), ← ew]
            split at i1 <;> omega
        · obtain ⟨y1, y2, y3⟩ := h4 (by omega)
          have c0 := (ch (j - 1) (by omega)).2.2.2.2.1 (by omega)
          rw [show j - 1 + 1 = j by omega] at c0
          have es : sn = stA A (Kk (j - 1)) (Of (j - 1)) := by omega
          rw [y2, y3]
          rw [← es] at c0
          by_cases e : sn = stA A (Kk j) (On j)
          · rw [if_pos e] at c0
            rw [if_neg (fun h => h (by omega)), if_pos (by decide)]
            omega
          · rw [if_neg e] at c0
            have ew : wA A sn (stA A (Kk j) (On j)) = A 457 (6 * sn + stA A (Kk j) (On j)) := by unfold wA; rw [if_neg e]
            rw [ew] at c0
            rw [if_pos (by omega)]
            omega
      refine ok_grd ⟨fun _ _ => by omega, fun _ _ => by omega, fun _ _ => by unfold InR; omega, fun _ => by unfold InR; omega, fun _ => by unfold InR; omega, fun _ => by omega, fun _ => by omega, fun _ => by unfold InR; omega⟩ (ok_ltv (ok_grd (by unfold InR; omega) (ok_ite (fun q => by exfalso; omega) (fun _ => ok_grd (by unfold InR; omega) (ok_ltv (ok_grd (by unfold InR; omega) (ok_ltv (ok_ltv (ok_grd (by unfold InR; omega) (ok_ltv (ok_some ⟨⟨j + 1, by dsimp only; omega, by omega, fun q => by omega, fun _ => ?_, a5, G6⟩, by dsimp only; omega⟩)))))))))))
      rw [Nat.add_sub_cancel]
      exact ⟨rfl, rfl, rfl⟩
    · have hjK : j = K := by omega
      have G := nI m h5 ⟨mm2, J, f2⟩
      by_cases q : j = 0
      · obtain ⟨y1, y2, y3⟩ := h3 q
        refine ⟨a, y1, ha, by dsimp only; omega, by dsimp only; omega, ?_, h5, G⟩
        have r0 := se.2.2.1 0
        have i0 : eqL (nA A) (F 0) (ini (wA A) a z) := r0
        have i1 := i0 _ hb
        rw [← hjK, q] at e0
        unfold aR at e0
        simp only [ini] at i1
        try dsimp only
        rw [y2]
        by_cases e : b = a
        · rw [if_pos e] at i1
          rw [(w a b ha hb).1 e.symm]
          omega
        · rw [if_neg e] at i1
          have ew : wA A a b = A 457 (6 * a + b) := by unfold wA; rw [if_neg (fun q => e q.symm)]
          rw [← ew]
          split at i1 <;> omega
      · obtain ⟨y1, y2, y3⟩ := h4 (by omega)
        obtain ⟨c1, c2, c3, c4, c5, c6⟩ := ch (j - 1) (by omega)
        have c6 := c6 (by omega)
        have on := (t.2.2.2 _ c1.1)
        have cOn := on.2.2.2.2 (On (j - 1)) (by omega)
        have cOf := on.2.2.2.2 (Of (j - 1)) c3
        have dd := c1.2.1
        -- no way is earlier
        have und : UndA A (ini (wA A) a z) (F (j - 1)) := rw_und (und_ini (g := A 456) (Rd := RdA A) (fun x y hx hy => (wA_bd w hx hy).1) (by omega) eqL_rfl).2.1 (rdA_N t) (se.2.2.1 (j - 1))
        have B := se.2.2.2.2.1
        have cn : can (A 456) (F (T - 1)) (stA A (Kk (j - 1)) (On (j - 1))) (lvA A (Kk (j - 1)) (On (j - 1)) + byA (Dd (j - 1))) := can_mono (und.2.2 _ ⟨B.2, B.1.2.1⟩ B.1.1) cOn.2.1 c4
        have rd : RdA A (stA A (Kk (j - 1)) (On (j - 1))) (lvA A (Kk (j - 1)) (On (j - 1)) + byA (Dd (j - 1))) (stA A (Kk (j - 1)) (Of (j - 1))) (arA A (Kk (j - 1)) (Of (j - 1)) + byA (Dd (j - 1))) := ⟨_, _, _, _, c1, c2, c3, rfl, rfl, rfl, rfl⟩
        have l1 := B.2 _ _ _ _ rd cn
        have rst := rdA_st t rd
        have pos := cn.1
        refine ⟨_, y1, cOf.2.1, by dsimp only; omega, by dsimp only; omega, ?_, h5, G⟩
        try dsimp only
        rw [y2]
        unfold aR at hdue
        by_cases e : stA A (Kk (j - 1)) (Of (j - 1)) = b
        · rw [if_pos e] at c6
          rw [(w _ b cOf.2.1 hb).1 e]
          rw [e] at l1
          omega
        · rw [if_neg e] at c6
          have ew : wA A (stA A (Kk (j - 1)) (Of (j - 1))) b = A 457 (6 * stA A (Kk (j - 1)) (Of (j - 1)) + b) := by unfold wA; rw [if_neg e]
          have l2 := B.1.2.1 _ b cOf.2.1 hb e
          rw [← ew]
          omega
  · obtain ⟨sn, e1, e2, e3, e4, e5, e6, e7⟩ := h
    try dsimp only at e1 e3 e4 e5 e6 e7
    subst e1
    have wb := way_bd w e2 hb
    have e57 : m6 457 (6 * (sn : Int) + (b : Int)).toNat = A 457 (6 * sn + b) := by
      rw [i6]
      exact hiS_ar hA e6 _ _ (by omega)
    rw [e57]
    exact ok_grd (by unfold InR; omega) (ok_some ⟨e5, e7, e6⟩)
/-- the law's wall -/
theorem wallW_ok {y : Int} (hn : m 456 6 = nA A) (n6 : nA A ≤ 6) (rg : RgW A m) : Ok (loop (fun s => W_asked_b1 y m s.1 s.2) ((0 : Int), (0 : Int))) (fun r => r.1 = wS (aR (labW m)) y (nA A)) := by
  refine ok_loop (fun s => ∃ k : Nat, s.2 = k ∧ k ≤ nA A ∧ s.1 = wS (aR (labW m)) y k) (fun s => nA A - s.2.toNat) ⟨0, rfl, Nat.zero_le _, rfl⟩ ?_
  rintro ⟨x, v⟩ ⟨k, e1, e2, e3⟩
  try dsimp only at e1 e3 ⊢
  subst e1
  unfold W_asked_b1
  rw [hn, Int.toNat_natCast]
  refine ok_ite (fun h => ok_grd (by omega) (ok_ltv (ok_grd (by unfold InR; omega) (ok_ltv (ok_some ⟨⟨k + 1, by dsimp only; omega, by omega, ?_⟩, by dsimp only; omega⟩))))) (fun h => ok_some ?_)
  · have e := least_aR rg (v := k) (by omega)
    dsimp only [wS]
    rw [e]
    by_cases q : aR (labW m) k < y
    · rw [if_pos q, if_pos q, e3]
    · rw [if_neg q, if_neg q, e3, jior_0 (wS_in _ _ _)]
  · have : k = nA A := by omega
    rw [e3, this]
theorem RgW_hi {m1 : Mem} (h : RgW A m) (f : hiS m m1) : RgW A m1 := fun v hv => by
  rw [f 460 v (by omega), f 459 v (by omega)]
  exact h v hv
theorem labW_hi {m1 : Mem} (f : hiS m m1) : labW m1 = labW m := by
  unfold labW
  exact Prod.ext (funext fun v => f 460 v (by omega)) (funext fun v => by dsimp only; rw [f 459 v (by omega)])
theorem hiS_tr {m1 m2 : Mem} (h : hiS m m1) (h2 : hiS m1 m2) : hiS m m2 := fun c i q => by rw [h2 c i q]; exact h c i q
set_option maxHeartbeats 1000000 in
theorem asked_ok (t : AT A) (w : AW A) (g : GS A m) (ha : a < nA A) (hb : b < nA A) (hz : 0 ≤ z ∧ z ≤ 1439) (B : BestA A (ini (wA A) a z) (labW m)) (rg : RgW A m) : Ok (W_asked a b z m) (fun x => x.1 = 1 ∧ GS A x.2 ∧ hiS m x.2) := by
  have n6 := t.1
  obtain ⟨D, hD⟩ : ∃ D, D = aR (labW m) b := ⟨_, rfl⟩
  have bd := lab_bd t w ha hz B hb
  rw [← hD] at bd
  have Dtop : D ≤ 1000000 := by
    have := rg b hb
    rw [hD]
    unfold aR labW
    try dsimp only
    omega
  have ear : ∀ (x : Int × Mem) (m1 : Mem), EarP A m1 a b z x → x.1 = if 1000000 ≤ D then -900003 else D := fun x m1 h => by
    obtain ⟨-, -, L, bL, h1, h2⟩ := h
    have e : aR L b = D := by rw [hD]; exact best_uq bL B hb
    by_cases q : 1000000 ≤ D
    · rw [if_pos q]; exact h2 (by omega)
    · rw [if_neg q, h1 (by omega), e]
  unfold W_asked
  rw [Int.toNat_natCast, least_aR rg hb, ← hD]
  refine ok_grd (by omega) (ok_ltv (ok_bq2 (pEar t g ha hb hz) (fun r1 m1 h1 => ok_ltv ?_)))
  have v1 := ear _ _ h1
  try dsimp only at v1
  refine ok_kj (fun v m2 => v = 1 ∧ GS A m2 ∧ hiS m m2) (fun x => x.1 = 1 ∧ GS A x.2 ∧ hiS m x.2) ?_ ?_
  · -- what follows once the four ways agree
    rintro v m2 ⟨rfl, g2, f2⟩
    refine ok_ltv (ok_bq2 (pChoices t g2 ha hb hz) (fun r5 m6 h6 => ok_ltv ?_))
    obtain ⟨g6, f6, F, T, se, e5⟩ := h6
    try dsimp only at g6 f6 e5
    have f26 := hiS_tr f2 f6
    have due := se_due se B hb
    rw [← hD] at due
    have mono : ∀ i j : Nat, aR (F (i + j)) b ≤ aR (F i) b := fun i j => by
      induction j with
      | zero => exact Int.le_refl _
      | succ j ih =>
        have := (se.2.2.2.2.2 (i + j) b hb).1
        rw [← Nat.add_assoc]
        omega
    refine ok_ite (fun hbig => ?_) (fun hsm => ?_)
    · have c0 : chN (fun k => aR (F k) b) T = 0 := ch_none (fun k hk => by
        have := mono k (T - 1 - k)
        rw [show k + (T - 1 - k) = T - 1 by omega] at this
        have := (se.2.2.2.2.2 k b hb).2.1
        try dsimp only
        omega)
      rw [e5, c0]
      refine ok_ite (fun _ => ok_bq2 (pChain t g6 ha hb hz) (fun r13 m19 h19 => ?_)) (fun q => absurd ⟨by decide, rfl⟩ q)
      obtain ⟨f19, mm', J, lg, F', T', se', x1, -⟩ := h19
      try dsimp only at x1 f19 J
      have := x1 (by rw [se_due se' B hb, ← hD]; exact hbig)
      exact ok_ite (fun _ => ok_some ⟨rfl, ⟨mm', J, lg, hiS_ar (hiS_ar g.choose_spec.2.2 f26) f19⟩, hiS_tr f26 f19⟩) (fun q => absurd this q)
    · have hsm : D < 1000000 := by omega
      have D3 := bd.2 hsm
      refine ok_bq2 (pChain t g6 ha hb hz) (fun r6 m7 h7 => ok_ltv ?_)
      obtain ⟨f7, mm1, J7, lg7, F', T', se', -, x2⟩ := h7
      try dsimp only at x2 f7 J7
      have due' := se_due se' B hb
      rw [← hD] at due'
      obtain ⟨K, Kk, Dd, On, Of, rfl, KT, K12, k1, k2, chf, k29, kept⟩ := x2 (by rw [due']; exact hsm)
      have f27 := hiS_tr f26 f7
      have hA7 : ArA A m7 := hiS_ar g.choose_spec.2.2 f27
      have g7 : GS A m7 := ⟨mm1, J7, lg7, hA7⟩
      have few := few_ch (f := fun k => aR (F' k) b) se'.1 KT k1 k2 (fun k => (se'.2.2.2.2.2 k b hb).1) (by (try dsimp only); rw [due']; exact hsm)
      have chE : chN (fun k => aR (F k) b) T = chN (fun k => aR (F' k) b) K + 1 := by rw [se_ch t se se' hb]; exact few.2
      have cle := chN_le (f := fun k => aR (F' k) b) K
      refine ok_kj (fun v m8 => v = 1 ∧ GS A m8 ∧ hiS m m8) (fun x => x.1 = 1 ∧ GS A x.2 ∧ hiS m x.2) ?_ ?_
      · rintro v m8 ⟨rfl, g8, f8⟩
        have hn8 : m8 456 6 = nA A := by
          rw [f8 456 6 (by omega), g.choose_spec.2.2 456 6 (by omega)]
          exact n6.1
        rw [j11]
        refine ok_ltv (ok_ltv (ok_ltv (ok_bq2 (wallW_ok (y := D) hn8 (by omega) (RgW_hi rg f8)) (fun set v6 hs => ?_))))
        try dsimp only at hs
        rw [labW_hi f8] at hs
        refine ok_kj (fun v m11 => v = 1 ∧ GS A m11 ∧ hiS m m11) (fun x => x.1 = 1 ∧ GS A x.2 ∧ hiS m x.2) ?_ ?_
        · rintro v m11 ⟨rfl, g11, f11⟩
          rw [j11]
          refine ok_ltv (ok_kj (fun v m13 => v = 1 ∧ GS A m13 ∧ hiS m m13) (fun x => x.1 = 1 ∧ GS A x.2 ∧ hiS m x.2) ?_ ?_)
          · rintro v m13 ⟨rfl, g13, f13⟩
            exact ok_grd (Or.inr rfl) (ok_some ⟨rfl, g13, f13⟩)
          · intro kj4 hk4
            refine ok_ite (fun hd => ?_) (fun hd => hk4 _ _ ⟨rfl, g11, f11⟩)
            refine ok_bq2 (pLast (y := D) t g11 ha hb hz (by omega) B (by rw [← hD]; exact Int.le_refl _)) (fun last m14 h14 => ok_ltv ?_)
            obtain ⟨g14, f14, l1, l2, l3⟩ := h14
            try dsimp only at g14 f14 l1 l2 l3
            have fa := hiS_tr f11 f14
            refine ok_kj (fun v m15 => 0 ≤ v ∧ v ≤ D ∧ GS A m15 ∧ hiS m m15) (fun x => x.1 = 1 ∧ GS A x.2 ∧ hiS m x.2) ?_ ?_
            · rintro v m15 ⟨v0, v1', g15, f15⟩
              refine ok_ltv ?_
              rw [if_pos ⟨⟨l1, v0⟩, v1'⟩, j11]
              refine ok_ltv (ok_kj (fun v m17 => (v < 0 ∨ D < v) ∧ GS A m17 ∧ hiS m m17) (fun x => x.1 = 1 ∧ GS A x.2 ∧ hiS m x.2) ?_ ?_)
              · rintro v m17 ⟨hv, g17, f17⟩
                refine ok_ltv ?_
                rw [if_pos hv, j11]
                exact ok_ltv (hk4 _ _ ⟨rfl, g17, f17⟩)
              · intro kj6 hk6
                refine ok_ite (fun hl => ok_grd (by unfold InR; omega) (ok_bq2 (pEar t g15 ha hb (z := last + 1) (by omega)) (fun r12 m18 h18 => hk6 _ _ ?_))) (fun hl => hk6 _ _ ⟨Or.inl (by decide), g15, f15⟩)
                obtain ⟨g18, f18, L, bL, y1, y2⟩ := h18
                try dsimp only at g18 f18 y1 y2
                refine ⟨?_, g18, hiS_tr f15 f18⟩
                have k := l3 (last + 1) L (by omega) (by omega) bL
                by_cases q : aR L b < 1000000
                · right
                  rw [y1 q]
                  omega
                · left
                  rw [y2 (by omega)]
                  decide
            · intro kj5 hk5
              refine ok_ite (fun hl => ok_bq2 (pEar t g14 ha hb (z := last) (by omega)) (fun r11 m16 h16 => hk5 _ _ ?_)) (fun hl => hk5 _ _ ⟨by omega, Int.le_refl _, g14, fa⟩)
              obtain ⟨g16, f16, L, bL, y1, y2⟩ := h16
              try dsimp only at g16 f16 y1 y2
              have k := (l3 last L (by omega) (by omega) bL).mpr (Int.le_refl _)
              have ge := bestA_ge t w ha (by omega) bL b hb
              have e := y1 (by omega)
              refine ⟨?_, ?_, g16, hiS_tr fa f16⟩
              · rw [e]; unfold aR; omega
              · rw [e]; exact k
        · intro kj3 hk3
          refine ok_bq2 (pWall (y := D) t g8 ha hz (by omega)) (fun r9 m12 h12 => ?_)
          obtain ⟨g12, f12, L, bL, e9⟩ := h12
          try dsimp only at g12 f12 e9
          have eq : r9 = set := by
            rw [e9, hs]
            exact wS_congr (fun i hi => best_uq bL B hi)
          exact ok_ite (fun _ => hk3 _ _ ⟨rfl, g12, hiS_tr f8 f12⟩) (fun q => absurd eq q)
      · intro kj2 hk2
        refine ok_ite (fun _ => ?_) (fun q => absurd (by omega) q)
        refine ok_bq2 (along_ok t w ha hb hz J7 lg7 hA7 se' (by rw [due']; exact hsm) K12 k1 chf k29 kept) (fun r7 m9 h9 => ?_)
        obtain ⟨e7, g9, f9⟩ := h9
        try dsimp only at e7 g9 f9
        rw [due'] at e7
        refine ok_ite (fun _ => ?_) (fun q => absurd e7 q)
        rw [e5, chE]
        refine ok_grd (by unfold InR; omega) (ok_bq2 (pChoice (idx := ((chN (fun k => aR (F' k) b) K + 1 : Nat) : Int) - 1) t g9 ha hb hz (by omega) (fun F9 T9 se9 => by rw [se_ch t se9 se' hb, few.2]; omega)) (fun r8 m10 h10 => ?_))
        obtain ⟨g10, f10, F9, T9, k0, se9, y1, y2, y3, y4⟩ := h10
        try dsimp only at g10 f10 y4
        have fe := se_fun t se9 se' hb
        rw [fe] at y2 y3
        have ek : k0 = K := chN_uni y2 few.1 (by omega)
        have ev : aR (F9 k0) b = D := by
          have := congrFun fe k0
          try dsimp only at this
          rw [this, ek, k1, due']
        rw [ev, ek] at y4
        refine ok_grd (by unfold InR; omega) (ok_ite (fun _ => hk2 _ _ ⟨rfl, g10, hiS_tr f27 (hiS_tr f9 f10)⟩) (fun q => absurd y4 q))
  · intro kj hk
    refine ok_ite (fun _ => ?_) (fun q => absurd v1 q)
    refine ok_bq2 (pEarQ t h1.1 ha hb hz) (fun r2 m3 h3 => ok_ite (fun _ => ?_) (fun q => absurd (by rw [v1]; exact ear _ _ h3) q))
    refine ok_bq2 (pEarR t h3.1 ha hb hz) (fun r3 m4 h4 => ok_ite (fun _ => ?_) (fun q => absurd (by rw [v1]; exact ear _ _ h4) q))
    refine ok_bq2 (pEarP t h4.1 ha hb hz) (fun r4 m5 h5 => ok_ite (fun _ => hk _ _ ⟨rfl, h5.1, hiS_tr (hiS_tr (hiS_tr h1.2.1 h3.2.1) h4.2.1) h5.2.1⟩) (fun q => absurd (by rw [v1]; exact ear _ _ h5) q))
end ASK
