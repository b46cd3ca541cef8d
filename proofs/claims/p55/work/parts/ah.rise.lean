/-! ===== P55: pairs rise; vehicles are no more than trips ===== -/
section RIS
variable {m m0 mm A : Mem} {a b : Nat} {z : Int}
theorem arrb_tr (I : Inv m mm) (g : LG mm A) (hb : b < nA A) {y : Int} {L : Lb} : ArrB (nC m) (wC m (-1)) b y L ↔ ArrB (nA A) (wA A) b y L := by
  unfold ArrB
  rw [n_tr I g.1]
  constructor
  · rintro (h | ⟨s, hs, h⟩)
    · exact Or.inl h
    · exact Or.inr ⟨s, hs, by rw [← w_tr I g s b hs hb]; exact h⟩
  · rintro (h | ⟨s, hs, h⟩)
    · exact Or.inl h
    · exact Or.inr ⟨s, hs, by rw [w_tr I g s b hs hb]; exact h⟩
/-- one pair, in the arrays' words -/
theorem pair_is {k j : Nat} {lv ar : Nat → Int} (t : AT A) (w : AW A) (I : Inv m mm) (g : LG mm A) (ha : a < nA A) (hb : b < nA A) (P : PsB m 10 a b k lv ar) (hj : j < k) : 0 ≤ lv j ∧ lv j ≤ 10000 ∧ ar j < 1000000 ∧ 0 ≤ ar j ∧ ∀ L, BestA A (ini (wA A) a (lv j)) L → lv j < ar j ∧ ∀ y, ar j ≤ y ↔ ArrB (nA A) (wA A) b y L := by
  obtain ⟨⟨L0, b0, f0⟩, p1, p2, ⟨k1, k2, k3, k4⟩, p5⟩ := P j hj
  have s0 := Ps_0 P j (by omega)
  refine ⟨by omega, k3, p2, p1, fun L B => ?_⟩
  have BQ := (best_tr I g t ha).mpr B
  have arr : ArrB (nA A) (wA A) b (ar j) L := (arrb_tr I g hb).mp ((k1 (lv j) L (by omega) BQ).mpr (Int.le_refl _))
  have gt := bestA_gt t w ha (by omega) B
  refine ⟨?_, fun y => ⟨fun hy => ?_, fun hy => ?_⟩⟩
  · rcases arr with q | ⟨s, hs, q⟩
    · have := gt b hb
      omega
    · have := gt s hs
      have := wA_bd w hs hb
      omega
  · rcases arr with q | ⟨s, hs, q⟩
    · exact Or.inl (by omega)
    · exact Or.inr ⟨s, hs, by omega⟩
  · have le : leL (nC m) L0 L := best_mono b0 BQ (ini_le p5)
    rw [f0 y]
    refine (arrb_tr I g hb).mpr ?_
    rw [n_tr I g.1] at le
    rcases hy with q | ⟨s, hs, q⟩
    · have := (le b hb).1
      exact Or.inl (by omega)
    · have := (le s hs).1
      exact Or.inr ⟨s, hs, by omega⟩
theorem due_ok (n6 : nA A ≤ 6) (w : AW A) (hA : ArA A m) (hn : A 456 6 = nA A) (rg : RgW A m) (hb : b < nA A) : Ok (loop (fun s => W_rise_b2 b m s.1 s.2) ((1000000 : Int), (0 : Int))) (fun r => r.1 ≤ 1000000 ∧ ∀ y, r.1 ≤ y ↔ 1000000 ≤ y ∨ ∃ v, v < nA A ∧ m 460 v + A 457 (6 * v + b) ≤ y) := by
  refine ok_loop (fun s => ∃ k : Nat, s.2 = k ∧ k ≤ nA A ∧ 0 ≤ s.1 ∧ s.1 ≤ 1000000 ∧ ∀ y, s.1 ≤ y ↔ 1000000 ≤ y ∨ ∃ v, v < k ∧ m 460 v + A 457 (6 * v + b) ≤ y) (fun s => nA A - s.2.toNat) ⟨0, rfl, Nat.zero_le _, by (try dsimp only); omega, by (try dsimp only); omega, fun y => ⟨fun h => Or.inl h, fun h => by
    rcases h with h | ⟨v, hv, _⟩
    · exact h
    · omega⟩⟩ ?_
  rintro ⟨x, v⟩ ⟨k, e1, e2, e3, e4, e5⟩
  try dsimp only at e1 e3 e4 e5 ⊢
  subst e1
  unfold W_rise_b2
  rw [hA 456 6 (by omega), hn, Int.toNat_natCast, i6]
  refine ok_ite (fun h => ?_) (fun h => ok_some ?_)
  · have hk : k < nA A := by omega
    have r := rg k hk
    have wb := way_bd w hk hb
    rw [hA 457 _ (by omega)]
    have el : W_least x (m 460 k + A 457 (6 * k + b)) = min x (m 460 k + A 457 (6 * k + b)) := by
      unfold W_least
      split <;> omega
    rw [el]
    refine ok_grd (by unfold InR; omega) (ok_ltv (ok_grd (by unfold InR; omega) (ok_ltv (ok_some ⟨⟨k + 1, by (try dsimp only); omega, by omega, by (try dsimp only); omega, by (try dsimp only); omega, fun y => ?_⟩, by (try dsimp only); omega⟩))))
    try dsimp only
    constructor
    · intro q
      by_cases q1 : x ≤ y
      · rcases (e5 y).mp q1 with q2 | ⟨v, hv, q2⟩
        · exact Or.inl q2
        · exact Or.inr ⟨v, by omega, q2⟩
      · exact Or.inr ⟨k, by omega, by omega⟩
    · rintro (q | ⟨v, hv, q⟩)
      · have := (e5 y).mpr (Or.inl q)
        omega
      · by_cases e : v = k
        · rw [e] at q
          omega
        · have := (e5 y).mpr (Or.inr ⟨v, by omega, q⟩)
          omega
  · have : k = nA A := by omega
    rw [this] at e5
    exact ⟨e4, e5⟩
/-- what stays while pairs are asked -/
def StR (m0 mm A m : Mem) : Prop := (∀ c i, 455 ≤ c → c ≠ 459 → c ≠ 460 → m c i = m0 c i) ∧ ∃ mm', Inv m mm' ∧ KeepP mm mm'
theorem StR_hi {m1 : Mem} (h : StR m0 mm A m) (f : hiS m m1) (k : ∀ mm1, Inv m mm1 → KeepP mm mm1 → ∃ mm', Inv m1 mm' ∧ KeepP mm mm') : StR m0 mm A m1 := by
  obtain ⟨h1, mm1, h2, h3⟩ := h
  exact ⟨fun c i q1 q2 q3 => by rw [f c i q1]; exact h1 c i q1 q2 q3, k mm1 h2 h3⟩
theorem rise_ok (t : AT A) (w : AW A) (I : Inv m mm) (g : LG mm A) (hA : ArA A m) (ha : a < nA A) (hb : b < nA A) (hab : a ≠ b) : Ok (W_rise a b m) (fun x => x.1 = 1 ∧ StR m mm A x.2) := by
  have n6 := t.1
  have n := n_tr I g.1
  have cn := CI_n ⟨_, I⟩
  obtain ⟨k, lv, ar, k5, P, E⟩ := ps_ex I (a := a) (b := b) (by omega) (by omega)
  have pp : ∀ (m1 : Mem) (idx isA : Int), StR m mm A m1 → -10 ≤ idx ∧ idx ≤ 1000 → isA = 0 ∨ isA = 1 → Ok (P_pair a b 10 idx isA m1) (fun x => StR m mm A x.2 ∧ (0 ≤ idx → idx < k → x.1 = if ¬ isA = 0 then ar idx.toNat else lv idx.toNat) ∧ ((k : Int) ≤ idx → x.1 = -900003)) := fun m1 idx isA h hi hs => by
    obtain ⟨f, mm1, J, kp⟩ := h
    refine (pPair J (keep_inv I kp) (by omega) (by omega) hab k5 P E hi hs).mono (fun x hx => ?_)
    obtain ⟨x1, x2, x3, mm', x4, x5⟩ := hx
    exact ⟨⟨fun c i q1 q2 q3 => by rw [x1 c i q1]; exact f c i q1 q2 q3, mm', x4, fun c i q => by rw [x5 c i q]; exact kp c i q⟩, x2, x3⟩
  have arr : ∀ m1, StR m mm A m1 → ArA A m1 := fun m1 h c i q => by rw [h.1 c i (by omega) (by omega) (by omega)]; exact hA c i q
  unfold W_rise
  refine ok_bq2 (pPairs I (by omega) (by omega) hab k5 P E) (fun r m1 h1 => ok_ltv ?_)
  obtain ⟨f1, rfl, mm1, J1, kp1⟩ := h1
  try dsimp only at f1 J1
  have S1 : StR m mm A m1 := ⟨fun c i q _ _ => f1 c i q, mm1, J1, kp1⟩
  refine ok_kj (fun v m2 => v = 1 ∧ StR m mm A m2) (fun x => x.1 = 1 ∧ StR m mm A x.2) ?_ ?_
  · rintro v m2 ⟨rfl, S2⟩
    refine ok_ltv (ok_ltv (ok_bq3 (Q := fun x => x.1 = 1 ∧ StR m mm A x.2.2) ?_ (fun is k4 m11 h => ok_grd (Or.inr h.1) (ok_some h))))
    refine ok_loop (fun x => ∃ j : Nat, x.2.1 = j ∧ j ≤ k ∧ x.1 = 1 ∧ StR m mm A x.2.2) (fun x => 1000 - x.2.1.toNat) ⟨0, rfl, Nat.zero_le _, rfl, S2⟩ ?_
    rintro ⟨is, kk, m4⟩ ⟨j, e1, e2, e3, S4⟩
    try dsimp only at e1 e3 S4 ⊢
    subst e1
    subst e3
    unfold W_rise_b1
    refine ok_grd (by omega) (ok_ite (fun hj => ?_) (fun hj => ok_some ⟨rfl, S4⟩))
    have hjk : j < k := by omega
    obtain ⟨l1, l2, l3, l4, l5⟩ := pair_is t w I g ha hb P hjk
    refine ok_bq2 (pp m4 j 0 S4 (by omega) (Or.inl rfl)) (fun leave m5 h5 => ok_ltv ?_)
    obtain ⟨S5, v5, -⟩ := h5
    have v5 := v5 (by omega) (by omega)
    rw [if_neg (fun q => q rfl), Int.toNat_natCast] at v5
    try dsimp only at v5 S5
    subst v5
    refine ok_bq2 (pp m5 j 1 S5 (by omega) (Or.inr rfl)) (fun come m6 h6 => ok_ltv ?_)
    obtain ⟨S6, v6, -⟩ := h6
    have v6 := v6 (by omega) (by omega)
    rw [if_pos (by decide), Int.toNat_natCast] at v6
    try dsimp only at v6 S6
    subst v6
    have ex : ∃ L, BestA A (ini (wA A) a (lv j)) L := by
      obtain ⟨L, hL⟩ := best_ex (day := 10) I (by omega) (a := a) (by omega) (lv j) l1 l2
      exact ⟨L, (best_tr I g t ha).mp hL⟩
    obtain ⟨L0, B0⟩ := ex
    have lt := (l5 L0 B0).1
    refine ok_kj (fun v m7 => v = 1 ∧ StR m mm A m7) (fun x => match x with | .inl s => (∃ j' : Nat, s.2.1 = j' ∧ j' ≤ k ∧ s.1 = 1 ∧ StR m mm A s.2.2) ∧ 1000 - s.2.1.toNat < 1000 - (j : Int).toNat | .inr s => s.1 = 1 ∧ StR m mm A s.2.2) ?_ ?_
    · rintro v m7 ⟨rfl, S7⟩
      rw [j11]
      refine ok_ltv (ok_bind (reach_ok t w (arr m7 S7) ha ⟨l1, by omega⟩) (fun m10 h10 => ok_ltv (ok_ltv ?_)))
      obtain ⟨f10, B10, rg10⟩ := h10
      have S10 : StR m mm A m10 := by
        obtain ⟨q1, mm7, q2, q3⟩ := S7
        refine ⟨fun c i w1 w2 w3 => by rw [f10 c i (by omega)]; exact q1 c i w1 w2 w3, mm7, InvC_Inv m7 _ mm7 _ (fun c hc i => (f10 c i (by omega)).symm) (fun _ _ _ => rfl) q2, q3⟩
      refine ok_bq2 (due_ok n6.2.2 w (arr m10 S10) n6.1 rg10 hb) (fun due v6 hd => ok_ltv ?_)
      obtain ⟨d1, d2⟩ := hd
      try dsimp only at d1 d2
      have ed : due = ar j := by
        have c1 := (l5 _ B10).2
        have iff : ∀ y, y < 1000000 → (due ≤ y ↔ ar j ≤ y) := fun y hy => by
          rw [d2 y, c1 y]
          constructor
          · rintro (q | ⟨v, hv, q⟩)
            · omega
            · by_cases e : v = b
              · left
                rw [e, (w b b hb hb).1 rfl] at q
                show m10 460 b ≤ y
                omega
              · right
                refine ⟨v, hv, ?_⟩
                have ew : wA A v b = A 457 (6 * v + b) := by unfold wA; rw [if_neg e]
                rw [ew]
                exact q
          · rintro (q | ⟨v, hv, q⟩)
            · right
              refine ⟨b, hb, ?_⟩
              rw [(w b b hb hb).1 rfl]
              have q : m10 460 b ≤ y := q
              omega
            · right
              have q : m10 460 v + wA A v b ≤ y := q
              have r := rg10 v hv
              by_cases e : v = b
              · unfold wA at q
                rw [if_pos e] at q
                omega
              · refine ⟨v, hv, ?_⟩
                have ew : wA A v b = A 457 (6 * v + b) := by unfold wA; rw [if_neg e]
                rw [← ew]
                exact q
        have i1 := (iff (ar j) l3).mpr (Int.le_refl _)
        have i2 := (iff due (by omega)).mp (Int.le_refl _)
        omega
      rw [if_pos ed, j11]
      exact ok_ltv (ok_grd (by unfold InR; omega) (ok_ltv (ok_some ⟨⟨j + 1, by (try dsimp only); omega, by omega, rfl, S10⟩, by (try dsimp only); omega⟩)))
    · intro kj hk
      refine ok_ite (fun _ => ok_ite (fun q => (hk _ _ ⟨rfl, S6⟩).mono (fun x h => by rcases x with x | x <;> exact h)) (fun q => ok_grd (by unfold InR; omega) ?_)) (fun q => absurd ⟨l1, lt⟩ q)
      have hl := Ps_lv P (i := j - 1) (by omega)
      rw [show j - 1 + 1 = j by omega] at hl
      refine ok_bq2 (pp m6 ((j : Int) - 1) 0 S6 (by omega) (Or.inl rfl)) (fun r5 m8 h8 => ?_)
      obtain ⟨S8, v8, -⟩ := h8
      have v8 := v8 (by omega) (by omega)
      rw [if_neg (fun q => q rfl), show ((j : Int) - 1).toNat = j - 1 by omega] at v8
      try dsimp only at v8 S8
      refine ok_ite (fun _ => ?_) (fun q => by exfalso; omega)
      refine ok_bq2 (pp m8 ((j : Int) - 1) 1 S8 (by omega) (Or.inr rfl)) (fun r6 m9 h9 => ?_)
      obtain ⟨S9, v9, -⟩ := h9
      have v9 := v9 (by omega) (by omega)
      rw [if_pos (by decide), show ((j : Int) - 1).toNat = j - 1 by omega] at v9
      try dsimp only at v9 S9
      exact ok_ite (fun _ => (hk _ _ ⟨rfl, S9⟩).mono (fun x h => by rcases x with x | x <;> exact h)) (fun q => by exfalso; omega)
  · intro kj hk
    refine ok_ite (fun _ => ?_) (fun q => absurd (by omega) q)
    refine ok_bq2 (pp m1 k 1 S1 (by omega) (Or.inr rfl)) (fun r2 m3 h3 => ?_)
    obtain ⟨S3, -, v3⟩ := h3
    have v3 := v3 (Int.le_refl _)
    exact ok_ite (fun _ => hk _ _ ⟨rfl, S3⟩) (fun q => absurd v3 q)
/-- vehicles are no more than trips -/
theorem veh_le {f : Nat → Int} (h : ∀ v, v < nC m → DefP (Dv m 10 v) (f v)) : sI f (nC m) ≤ ((m 31 0).toNat : Nat) := by
  have c : ∀ v, v < nC m → f v ≤ sI (fun k => if m (35 + k) 0 = (v : Int) then 1 else 0) (m 31 0).toNat := fun v hv => by
    have nn : 0 ≤ sI (fun k => if m (35 + k) 0 = (v : Int) then (1 : Int) else 0) (m 31 0).toNat := by
      have := sI_le (f := fun _ => 0) (g := fun k => if m (35 + k) 0 = (v : Int) then (1 : Int) else 0) (n := (m 31 0).toNat) (fun k _ => by (try dsimp only); split <;> omega)
      rw [sI_0 (f := fun _ => 0) (fun _ _ => rfl)] at this
      exact this
    rcases (h v hv).2.2 with q | ⟨x, q⟩
    · omega
    · refine Int.le_trans q ?_
      unfold Dv sumT
      refine sI_le (fun k _ => ?_)
      try dsimp only
      by_cases e : m (35 + k) 0 = (v : Int)
      · rw [if_pos e]
        split
        · split <;> split <;> omega
        · omega
      · rw [if_neg e]
        split
        · rw [if_neg (fun q => e q.1)]
          split <;> omega
        · omega
  refine Int.le_trans (sI_le c) ?_
  rw [sI_swap (F := fun v k => if m (35 + k) 0 = (v : Int) then (1 : Int) else 0) (n := (m 31 0).toNat) (nC m)]
  have := sI_le (f := fun k => sI (fun v => if m (35 + k) 0 = (v : Int) then (1 : Int) else 0) (nC m)) (g := fun _ => 1) (n := (m 31 0).toNat) (fun k _ => by
    try dsimp only
    rw [sI_pt (h := fun _ => 1)]
    split <;> omega)
  rw [sI_one] at this
  exact this
end RIS
