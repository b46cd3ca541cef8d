/-! ===== P55: the drawn table ===== -/
/-- services of the drawn table -/
def SVd (mm : Mem) : Prop := mm 0 6 = 2 ∧ mm 0 14 = 0 ∧ ∀ d, d < 3 → mm 4 (9 + d) = 1 ∧ mm 4 (28 + (9 + d)) = if d = 1 then 1 else 0
/-- the told walks and the law's array -/
def WYd (n : Nat) (mm A : Mem) : Prop := ∀ a b, a < n → b < n → A 457 (6 * a + b) = (if a = b then 0 else if mm 2 (12 * a + b) = 0 then 1000000 else mm 2 (12 * a + b)) ∧ mm 2 (12 * a + b) ≤ 20
def STd (v : Nat) (mm A : Mem) : Prop := mm 0 1 = v ∧ ∀ u, u < v → A 456 u = mm 1 u ∧ 0 ≤ A 456 u ∧ A 456 u ≤ 5
/-- a call of a trip: told, and drawn -/
def CLd (n k c : Nat) (mm A : Mem) : Prop := ∃ v : Nat, v < n ∧ A 458 (3 + 14 * k + 3 * c) = v ∧ mm 7 (8 * k + c) = v ∧ mm 8 (8 * k + c) = A 458 (4 + 14 * k + 3 * c) ∧ mm 9 (8 * k + c) = A 458 (5 + 14 * k + 3 * c) ∧ 0 ≤ A 458 (4 + 14 * k + 3 * c) ∧ A 458 (4 + 14 * k + 3 * c) ≤ A 458 (5 + 14 * k + 3 * c) ∧ A 458 (5 + 14 * k + 3 * c) ≤ 700
def TRd (n k : Nat) (mm A : Mem) : Prop := (A 458 (1 + 14 * k) = 0 ∨ A 458 (1 + 14 * k) = 1) ∧ mm 5 k = A 458 (1 + 14 * k) ∧ ∃ l : Nat, A 458 (2 + 14 * k) = l ∧ 2 ≤ l ∧ l ≤ 4 ∧ mm 6 k = l ∧ (∀ c, c < l → CLd n k c mm A) ∧ ∀ c, c + 1 < l → A 458 (5 + 14 * k + 3 * c) < A 458 (4 + 14 * k + 3 * (c + 1))
section DRW
variable {m m0 mm A : Mem}
theorem j01 : jiand 1 1 = 1 := j11
theorem SVd_fr {mm' : Mem} (h : SVd mm) (f : ∀ c i, (c = 0 ∧ (i = 6 ∨ i = 14)) ∨ c = 4 → mm' c i = mm c i) : SVd mm' := by
  obtain ⟨h1, h2, h3⟩ := h
  refine ⟨by rw [f 0 6 (by omega)]; exact h1, by rw [f 0 14 (by omega)]; exact h2, fun d hd => ?_⟩
  rw [f 4 _ (by omega), f 4 _ (by omega)]
  exact h3 d hd
theorem CLd_fr {n k c : Nat} {mm' A' : Mem} (h : CLd n k c mm A) (f : ∀ c' i, (c' = 7 ∨ c' = 8 ∨ c' = 9) → i = 8 * k + c → mm' c' i = mm c' i) (fa : ∀ i, 3 + 14 * k + 3 * c ≤ i → i ≤ 5 + 14 * k + 3 * c → A' 458 i = A 458 i) : CLd n k c mm' A' := by
  obtain ⟨v, h1, h2, h3, h4, h5, h6, h7, h8⟩ := h
  refine ⟨v, h1, ?_⟩
  rw [fa _ (by omega) (by omega), fa (4 + 14 * k + 3 * c) (by omega) (by omega), fa (5 + 14 * k + 3 * c) (by omega) (by omega), f 7 _ (by omega) rfl, f 8 _ (by omega) rfl, f 9 _ (by omega) rfl]
  exact ⟨h2, h3, h4, h5, h6, h7, h8⟩
theorem TRd_fr {n k : Nat} {mm' A' : Mem} (h : TRd n k mm A) (f : ∀ c' i, ((c' = 5 ∨ c' = 6) ∧ i = k) ∨ ((c' = 7 ∨ c' = 8 ∨ c' = 9) ∧ 8 * k ≤ i ∧ i < 8 * k + 8) → mm' c' i = mm c' i) (fa : ∀ i, 1 + 14 * k ≤ i → i ≤ 14 + 14 * k → A' 458 i = A 458 i) : TRd n k mm' A' := by
  obtain ⟨h1, h2, l, h3, h4, h5, h6, h7, h8⟩ := h
  refine ⟨by rw [fa _ (by omega) (by omega)]; exact h1, by rw [fa _ (by omega) (by omega), f 5 k (by omega)]; exact h2, l, by rw [fa _ (by omega) (by omega)]; exact h3, h4, h5, by rw [f 6 k (by omega)]; exact h6, fun c hc => CLd_fr (h7 c hc) (fun c' i q1 q2 => f c' i (by omega)) (fun i q1 q2 => fa i (by omega) (by omega)), fun c hc => ?_⟩
  rw [fa _ (by omega) (by omega), fa _ (by omega) (by omega)]
  exact h8 c hc
/-- services -/
theorem dServices {P : Int × Mem → Prop} {kj : Int → Mem → Option (Int × Mem)} (I : Inv m mm) (h6 : mm 0 6 = 0) (h14 : mm 0 14 = 0) (h4 : ∀ i, mm 4 i = 0) (hk : ∀ m' mm', Inv m' mm' → hiS m m' → SVd mm' → (∀ c i, ¬ (c = 0 ∧ (i = 0 ∨ i = 6)) → ¬ c = 4 → mm' c i = mm c i) → Ok (kj 1 m') P) : Ok (bq2 (P_service m) fun r_2 m_4 =>
  if r_2 = 0 then
    bq2 (P_service m_4) fun r_3 m_5 =>
    if r_3 = 1 then
      bq2 (P_week 0 127 9 11 m_5) fun r_4 m_6 =>
      if r_4 = 3 then
        bq2 (P_putDay 1 10 1 m_6) fun r_5 m_7 =>
        if r_5 = 0 then
          kj 1 m_7
        else
          kj 0 m_7
      else
        kj 0 m_6
    else
      kj 0 m_5
  else
    kj 0 m_4) P := by
  refine ok_bq2 (p_of (m := m) (st_service _ _ I) (mService (s := 0) h6 (by omega))) (fun r2 m4 x2 => ?_)
  obtain ⟨s2, q2, ⟨e2, v2, c2, f2⟩, J2, y2, -⟩ := x2
  try dsimp only at s2 J2 y2
  refine ok_ite (fun _ => ?_) (fun q => absurd (by rw [y2 e2, v2]; rfl) q)
  refine ok_bq2 (p_of (m := m4) (st_service _ _ J2) (mService (s := 1) c2 (by omega))) (fun r3 m5 x3 => ?_)
  obtain ⟨s3, q3, ⟨e3, v3, c3, f3⟩, J3, y3, -⟩ := x3
  try dsimp only at s3 J3 y3
  refine ok_ite (fun _ => ?_) (fun q => absurd (by rw [y3 e3, v3]; rfl) q)
  have z4 : ∀ i, q3.2 4 i = 0 := fun i => by rw [f3 4 i (by omega), f2 4 i (by omega)]; exact h4 i
  refine ok_bq2 (p_of (m := m5) (st_week _ _ _ _ _ _ J3 ⟨by omega, by omega⟩ ⟨by omega, by omega⟩ ⟨by omega, by omega⟩ ⟨by omega, by omega⟩) (mWeek c3 z4)) (fun r4 m6 x4 => ?_)
  obtain ⟨s4, q4, ⟨e4, v4, c4, f4⟩, J4, y4, -⟩ := x4
  try dsimp only at s4 J4 y4
  refine ok_ite (fun _ => ?_) (fun q => absurd (by rw [y4 e4, v4]) q)
  have c46 : q4.2 0 6 = 2 := by rw [f4 0 6 (by omega) (by omega)]; exact c3
  refine ok_bq2 (p_ofB (m := m6) (st_putDay _ _ _ _ _ J4 ⟨by omega, by omega⟩ ⟨by omega, by omega⟩ (Or.inr rfl)) (mPutDay c46 (by rw [c4 38, if_neg (by omega)]))) (fun r5 m7 x5 => ?_)
  obtain ⟨s5, q5, ⟨e5, v5, c5, f5⟩, J5, y5⟩ := x5
  try dsimp only at s5 J5 y5
  refine ok_ite (fun _ => ?_) (fun q => absurd (by rw [y5 e5, v5]; rfl) q)
  refine hk m7 q5.2 J5 (hiS_tr (hiS_tr (hiS_tr s2 s3) s4) s5) ⟨by rw [f5 0 6 (by omega) (by omega)]; exact c46, by rw [f5 0 14 (by omega) (by omega), f4 0 14 (by omega) (by omega), f3 0 14 (by omega), f2 0 14 (by omega)]; exact h14, fun d hd => ?_⟩ (fun c i w1 w2 => by rw [f5 c i (by omega) (by omega), f4 c i (by omega) w2, f3 c i w1, f2 c i w1])
  refine ⟨by rw [f5 4 _ (by omega) (by omega), c4, if_pos (by omega)], ?_⟩
  by_cases e : d = 1
  · rw [if_pos e, e]
    exact c5
  · rw [if_neg e, f5 4 _ (by omega) (by omega), c4, if_neg (by omega)]
/-- stops -/
theorem dStops {n : Nat} (hn : 4 ≤ n ∧ n ≤ 6) (I : Inv m mm) (h1 : mm 0 1 = 0) : Ok (loop (fun s => W_drawn_b1 n s.1 s.2.1 s.2.2) ((1 : Int), (0 : Int), m)) (fun x => x.1 = 1 ∧ (∀ c i, 455 < c → ¬ (c = 456 ∧ i < n) → x.2.2 c i = m c i) ∧ ∃ mm', Inv x.2.2 mm' ∧ STd n mm' x.2.2 ∧ ∀ c i, ¬ (c = 0 ∧ (i = 0 ∨ i = 1)) → ¬ c = 1 → ¬ c = 3 → mm' c i = mm c i) := by
  refine ok_loop (fun x => ∃ v : Nat, x.2.1 = v ∧ v ≤ n ∧ x.1 = 1 ∧ (∀ c i, 455 < c → ¬ (c = 456 ∧ i < n) → x.2.2 c i = m c i) ∧ ∃ mm', Inv x.2.2 mm' ∧ STd v mm' x.2.2 ∧ ∀ c i, ¬ (c = 0 ∧ (i = 0 ∨ i = 1)) → ¬ c = 1 → ¬ c = 3 → mm' c i = mm c i) (fun x => n - x.2.1.toNat) ⟨0, rfl, Nat.zero_le _, rfl, fun _ _ _ _ => rfl, mm, I, ⟨h1, fun u h => by omega⟩, fun _ _ _ _ _ => rfl⟩ ?_
  rintro ⟨is, vv, m8⟩ ⟨v, e1, e2, e3, f1, mm8, J, ⟨s1, s2⟩, g1⟩
  try dsimp only at e1 e3 f1 J s2 ⊢
  subst e1
  subst e3
  unfold W_drawn_b1
  refine ok_grd (by omega) (ok_ite (fun hv => ok_grd (by omega) ?_) (fun hv => ok_some ?_))
  · refine ok_bq2 (draw_ok (m := m8) (n := 6) (by omega)) (fun r m9 h9 => ok_ltv ?_)
    obtain ⟨r0, r1, f9⟩ := h9
    try dsimp only at r0 r1 f9
    rw [Int.toNat_natCast]
    have J10 : Inv (setM m9 456 v r) mm8 := InvC_Inv m8 _ mm8 _ (fun c hc i => by rw [setM_ne (by omega), f9 c i (by omega)]) (fun _ _ _ => rfl) J
    refine ok_kjs (fun z m11 => z = 1 ∧ hiS (setM m9 456 v r) m11 ∧ ∃ mm', Inv m11 mm' ∧ mm' 0 1 = ((v + 1 : Nat) : Int) ∧ mm' 1 v = r ∧ ∀ c' i, ¬ (c' = 0 ∧ (i = 0 ∨ i = 1)) → ¬ (c' = 1 ∧ i = v) → ¬ c' = 3 → mm' c' i = mm8 c' i) ?_ ?_
    · rintro z m11 ⟨rfl, h11, mm', J', t1, t2, t3⟩
      rw [j11]
      refine ok_ltv (ok_grd (by unfold InR; omega) (ok_ltv (ok_some ⟨⟨v + 1, by (try dsimp only); omega, by omega, rfl, fun c i w1 w2 => ?_, mm', J', ⟨t1, fun u hu => ?_⟩, fun c i w1 w2 w3 => ?_⟩, by (try dsimp only); omega⟩)))
      · try dsimp only
        rw [h11 c i (by omega), setM_ne (by omega), f9 c i (by omega)]
        exact f1 c i w1 w2
      · try dsimp only
        rw [h11 456 u (by omega)]
        by_cases e : u = v
        · rw [e, setM_same, t2]
          exact ⟨rfl, r0, by omega⟩
        · rw [setM_ne (by omega), f9 456 u (by omega), t3 1 u (by omega) (by omega) (by omega)]
          exact s2 u (by omega)
      · rw [t3 c i w1 (by omega) w3]
        exact g1 c i w1 w2 w3
    · intro kj hk
      rw [setM_same]
      refine ok_bq2 (p_of (m := setM m9 456 v r) (st_stop _ _ _ J10 ⟨by omega, by omega⟩) (mStop (v := v) J10 s1 (by omega) (by omega))) (fun r7 m12 x => ?_)
      obtain ⟨h12, q, ⟨z0, v0, t1, t2, t3⟩, J', y1, -⟩ := x
      try dsimp only at h12 J' y1
      exact ok_ite (fun _ => hk _ _ ⟨rfl, h12, q.2, J', t1, t2, t3⟩) (fun w => absurd (by rw [y1 z0, v0]) w)
  · have : v = n := by omega
    subst this
    exact ⟨rfl, f1, mm8, J, ⟨s1, s2⟩, g1⟩
/-- no walk yet -/
theorem dWay {n : Nat} (hn : 4 ≤ n ∧ n ≤ 6) : Ok (loop (fun s => W_drawn_b2 n s.1 s.2) ((0 : Int), m)) (fun x => (∀ c i, ¬ c = 457 → x.2 c i = m c i) ∧ ∀ a b, a < n → b < n → x.2 457 (6 * a + b) = if a = b then 0 else 1000000) := by
  refine (ok_for0 (b := W_drawn_b2 n) (n := n) (fun k m' => (∀ c i, ¬ c = 457 → m' c i = m c i) ∧ ∀ a b, a < k → b < n → m' 457 (6 * a + b) = if a = b then 0 else 1000000) ⟨fun _ _ _ => rfl, fun a b h => by omega⟩ ?_ ?_).mono (fun _ h => h)
  · rintro k m1 hk ⟨f1, g1⟩
    unfold W_drawn_b2
    refine ok_ite (fun _ => ok_ltv (ok_bq2 (ok_for0 (b := W_drawn_b3 n k) (n := n) (fun o m' => (∀ c i, ¬ c = 457 → m' c i = m c i) ∧ ∀ a b, b < n → a < k ∨ (a = k ∧ b < o) → m' 457 (6 * a + b) = if a = b then 0 else 1000000) ⟨f1, fun a b hb h => g1 a b (by omega) hb⟩ ?_ ?_) (fun _ m2 h => ok_grd (by unfold InR; omega) (ok_ltv (ok_some ⟨_, rfl, h.1, fun a b ha hb => h.2 a b hb (by omega)⟩))))) (fun q => by exfalso; omega)
    · rintro o m2 ho ⟨f2, g2⟩
      unfold W_drawn_b3
      rw [i6]
      refine ok_ite (fun _ => ok_grd (by unfold InR; omega) (ok_ltv (ok_grd (by unfold InR; omega) (ok_ltv (ok_some ⟨_, rfl, fun c i q => ?_, fun a b hb h => ?_⟩))))) (fun q => by exfalso; omega)
      · rw [setM_ne (by omega)]
        exact f2 c i q
      · by_cases e : a = k ∧ b = o
        · rw [setM_hit (by omega), e.1, e.2]
          by_cases q : k = o
          · rw [if_pos (by omega), if_pos q]
          · rw [if_neg (by omega), if_neg q]
        · rw [setM_ne (by omega)]
          exact g2 a b hb (by omega)
    · rintro m2 _
      unfold W_drawn_b3
      rw [if_neg (by omega)]
  · rintro m1 _
    unfold W_drawn_b2
    rw [if_neg (by omega)]
/-- walks -/
theorem dWalks {n : Nat} (hn : 4 ≤ n ∧ n ≤ 6) (I : Inv m mm) (h1 : mm 0 1 = n) (h2 : ∀ i, mm 2 i = 0) (hw : ∀ a b, a < n → b < n → m 457 (6 * a + b) = if a = b then 0 else 1000000) : Ok (loop (fun s => W_drawn_b4 n s.1 s.2.1 s.2.2) ((1 : Int), (0 : Int), m)) (fun x => x.1 = 1 ∧ (∀ c i, 455 < c → ¬ c = 457 → x.2.2 c i = m c i) ∧ ∃ mm', Inv x.2.2 mm' ∧ WYd n mm' x.2.2 ∧ ∀ c i, ¬ (c = 0 ∧ i = 0) → ¬ c = 2 → ¬ c = 3 → mm' c i = mm c i) := by
  refine ok_loop (fun x => ∃ a0 : Nat, x.2.1 = a0 ∧ a0 ≤ n ∧ x.1 = 1 ∧ (∀ c i, 455 < c → ¬ c = 457 → x.2.2 c i = m c i) ∧ ∃ mm', Inv x.2.2 mm' ∧ WYd n mm' x.2.2 ∧ (∀ a b, a < b → b < n → a0 ≤ a → mm' 2 (12 * a + b) = 0) ∧ ∀ c i, ¬ (c = 0 ∧ i = 0) → ¬ c = 2 → ¬ c = 3 → mm' c i = mm c i) (fun x => n - x.2.1.toNat) ⟨0, rfl, Nat.zero_le _, rfl, fun _ _ _ _ => rfl, mm, I, fun a b ha hb => ⟨by show m 457 (6 * a + b) = _; rw [hw a b ha hb, h2]; rfl, by rw [h2]; omega⟩, fun a b _ _ _ => h2 _, fun _ _ _ _ _ => rfl⟩ ?_
  rintro ⟨is, aa, m19⟩ ⟨a0, e1, e2, e3, f1, mm1, J, wy, z, g1⟩
  try dsimp only at e1 e3 f1 J wy ⊢
  subst e1
  subst e3
  unfold W_drawn_b4
  refine ok_grd (by omega) (ok_ite (fun ha => ok_grd (by unfold InR; omega) (ok_ltv ?_)) (fun ha => ok_some ⟨rfl, f1, mm1, J, wy, g1⟩))
  refine ok_bq3 (Q := fun x : Int × Int × Mem => x.1 = 1 ∧ (∀ c i, 455 < c → ¬ c = 457 → x.2.2 c i = m c i) ∧ ∃ mm', Inv x.2.2 mm' ∧ WYd n mm' x.2.2 ∧ (∀ a b, a < b → b < n → a0 + 1 ≤ a → mm' 2 (12 * a + b) = 0) ∧ ∀ c i, ¬ (c = 0 ∧ i = 0) → ¬ c = 2 → ¬ c = 3 → mm' c i = mm c i) ?_ (fun is8 b9 m27 h => ok_grd (by unfold InR; omega) (ok_ltv (ok_some ⟨⟨a0 + 1, by (try dsimp only); omega, by omega, h.1, h.2⟩, by (try dsimp only); omega⟩)))
  refine ok_loop (fun x => ∃ b0 : Nat, x.2.1 = b0 ∧ a0 + 1 ≤ b0 ∧ b0 ≤ n ∧ x.1 = 1 ∧ (∀ c i, 455 < c → ¬ c = 457 → x.2.2 c i = m c i) ∧ ∃ mm', Inv x.2.2 mm' ∧ WYd n mm' x.2.2 ∧ (∀ a b, a < b → b < n → a0 < a ∨ (a = a0 ∧ b0 ≤ b) → mm' 2 (12 * a + b) = 0) ∧ ∀ c i, ¬ (c = 0 ∧ i = 0) → ¬ c = 2 → ¬ c = 3 → mm' c i = mm c i) (fun x => n - x.2.1.toNat) ⟨a0 + 1, by (try dsimp only); omega, by omega, by omega, rfl, f1, mm1, J, wy, fun a b q1 q2 q3 => z a b q1 q2 (by omega), g1⟩ ?_
  rintro ⟨is, bb, m20⟩ ⟨b0, e1, e2, e3, e4, f2, mm2, J2, wy2, z2, g2⟩
  try dsimp only at e1 e4 f2 J2 wy2 ⊢
  subst e1
  subst e4
  unfold W_drawn_b5
  refine ok_grd (by omega) (ok_ite (fun hb => ?_) (fun hb => ok_some ⟨rfl, f2, mm2, J2, wy2, fun a b q1 q2 q3 => z2 a b q1 q2 (by omega), g2⟩))
  refine ok_bq2 (draw_ok (m := m20) (n := 4) (by omega)) (fun r8 m21 h21 => ?_)
  obtain ⟨-, -, f21⟩ := h21
  try dsimp only at f21
  have J21 : Inv m21 mm2 := InvC_Inv m20 _ mm2 _ (fun c hc i => (f21 c i (by omega)).symm) (fun _ _ _ => rfl) J2
  refine ok_ite (fun _ => ?_) (fun _ => ok_grd (by unfold InR; omega) (ok_ltv (ok_some ⟨⟨b0 + 1, by (try dsimp only); omega, by omega, by omega, rfl, fun c i w1 w2 => by (try dsimp only); rw [f21 c i (by omega)]; exact f2 c i w1 w2, mm2, J21, fun a b ha hb => by (try dsimp only); rw [f21 _ _ (by omega)]; exact wy2 a b ha hb, fun a b q1 q2 q3 => z2 a b q1 q2 (by omega), g2⟩, by (try dsimp only); omega⟩)))
  refine ok_bq2 (draw_ok (m := m21) (n := 20) (by omega)) (fun r9 m22 h22 => ok_grd (by have := h22.1; have := h22.2.1; dsimp only at *; unfold InR; omega) (ok_ltv ?_))
  obtain ⟨r0, r1, f22⟩ := h22
  try dsimp only at r0 r1 f22
  rw [i6, i6]
  refine ok_grd (by unfold InR; omega) (ok_ltv (ok_grd (by unfold InR; omega) (ok_ltv ?_)))
  obtain ⟨m24, hm24⟩ : ∃ m24, m24 = setM (setM m22 457 (6 * a0 + b0) (1 + r9)) 457 (6 * b0 + a0) (1 + r9) := ⟨_, rfl⟩
  rw [← hm24]
  have J24 : Inv m24 mm2 := InvC_Inv m21 _ mm2 _ (fun c hc i => by rw [hm24, setM_ne (by omega), setM_ne (by omega), f22 c i (by omega)]) (fun _ _ _ => rfl) J21
  have n2 : mm2 0 1 = n := by rw [g2 0 1 (by omega) (by omega) (by omega)]; exact h1
  refine ok_kjs (fun v m25 => v = 1 ∧ hiS m24 m25 ∧ ∃ mm', Inv m25 mm' ∧ mm' 2 (12 * a0 + b0) = 1 + r9 ∧ mm' 2 (12 * b0 + a0) = 1 + r9 ∧ ∀ c i, ¬ (c = 0 ∧ i = 0) → ¬ (c = 2 ∧ (i = 12 * a0 + b0 ∨ i = 12 * b0 + a0)) → ¬ c = 3 → mm' c i = mm2 c i) ?_ ?_
  · rintro v m25 ⟨rfl, h25, mm', J', t1, t2, t3⟩
    rw [j11]
    refine ok_ltv (ok_grd (by unfold InR; omega) (ok_ltv (ok_some ⟨⟨b0 + 1, by (try dsimp only); omega, by omega, by omega, rfl, fun c i w1 w2 => ?_, mm', J', fun a b ha hb => ?_, fun a b q1 q2 q3 => ?_, fun c i w1 w2 w3 => ?_⟩, by (try dsimp only); omega⟩)))
    · try dsimp only
      rw [h25 c i (by omega), hm24, setM_ne (by omega), setM_ne (by omega), f22 c i (by omega), f21 c i (by omega)]
      exact f2 c i w1 w2
    · try dsimp only
      rw [h25 _ _ (by omega), hm24]
      by_cases q1 : a = b0 ∧ b = a0
      · rw [q1.1, q1.2, setM_same, t2, if_neg (by omega), if_neg (by omega)]
        exact ⟨rfl, by omega⟩
      · rw [setM_ne (by omega)]
        by_cases q2 : a = a0 ∧ b = b0
        · rw [q2.1, q2.2, setM_same, t1, if_neg (by omega), if_neg (by omega)]
          exact ⟨rfl, by omega⟩
        · rw [setM_ne (by omega), f22 _ _ (by omega), f21 _ _ (by omega), t3 2 _ (by omega) (by omega) (by omega)]
          exact wy2 a b ha hb
    · rw [t3 2 _ (by omega) (by omega) (by omega)]
      exact z2 a b q1 q2 (by omega)
    · rw [t3 c i w1 (by omega) w3]
      exact g2 c i w1 w2 w3
  · intro kj hk
    refine ok_bq2 (p_of (m := m24) (st_walk _ _ _ _ _ J24 ⟨by omega, by omega⟩ ⟨by omega, by omega⟩ ⟨by omega, by omega⟩) (mWalk (n := n) J24 n2 (by omega) (by omega) (by omega) (by omega) (by omega))) (fun r10 m26 x => ?_)
    obtain ⟨h26, q, ⟨z0, v0, t1, t2, t3⟩, J', y1, -⟩ := x
    try dsimp only at h26 J' y1
    exact ok_ite (fun _ => hk _ _ ⟨rfl, h26, q.2, J', t1, t2, t3⟩) (fun w => absurd (by rw [y1 z0, v0]; exact z2 a0 b0 (by omega) (by omega) (by omega)) w)
/-- a trip's calls -/
theorem dCalls {n k l : Nat} {s time : Int} {v : Nat} (hn : 4 ≤ n ∧ n ≤ 6) (hk : k < 9) (hl : 2 ≤ l ∧ l ≤ 4) (I : Inv m mm) (h1 : mm 0 1 = n) (h6 : mm 0 6 = 2) (h8 : mm 0 8 = k) (hs : s = 0 ∨ s = 1) (a1 : m 458 (1 + 14 * k) = s) (a2 : m 458 (2 + 14 * k) = l) (ht : 430 ≤ time ∧ time ≤ 559) (hv : v < n) : Ok (loop (fun x => W_drawn_b7 n k (1 + 14 * (k : Int)) x.1 x.2.1 x.2.2.1 x.2.2.2.1 x.2.2.2.2) ((1 : Int), time, (v : Int), (0 : Int), m)) (fun x => x.1 = 1 ∧ (∀ c i, 455 < c → ¬ (c = 458 ∧ 3 + 14 * k ≤ i) → x.2.2.2.2 c i = m c i) ∧ ∃ mm', Inv x.2.2.2.2 mm' ∧ TRd n k mm' x.2.2.2.2 ∧ mm' 0 8 = ((k + 1 : Nat) : Int) ∧ ∀ c i, ¬ (c = 0 ∧ (i = 0 ∨ i = 8)) → ¬ ((c = 5 ∨ c = 6) ∧ i = k) → ¬ ((c = 7 ∨ c = 8 ∨ c = 9) ∧ 8 * k ≤ i) → mm' c i = mm c i) := by
  refine ok_loop (fun x => ∃ c u : Nat, x.2.2.2.1 = c ∧ c ≤ l ∧ x.1 = 1 ∧ x.2.2.1 = u ∧ u < n ∧ 430 + 3 * (c : Int) ≤ x.2.1 ∧ x.2.1 ≤ 559 + 30 * (c : Int) ∧ (∀ c i, 455 < c → ¬ (c = 458 ∧ 3 + 14 * k ≤ i) → x.2.2.2.2 c i = m c i) ∧ ∃ mm', Inv x.2.2.2.2 mm' ∧ (c = 0 → mm' 0 8 = k) ∧ (0 < c → mm' 0 8 = ((k + 1 : Nat) : Int) ∧ mm' 5 k = s ∧ mm' 6 k = c ∧ (u : Int) ≠ mm' 7 (8 * k + (c - 1)) ∧ mm' 9 (8 * k + (c - 1)) < x.2.1) ∧ (∀ c', c' < c → CLd n k c' mm' x.2.2.2.2) ∧ (∀ c', c' + 1 < c → x.2.2.2.2 458 (5 + 14 * k + 3 * c') < x.2.2.2.2 458 (4 + 14 * k + 3 * (c' + 1))) ∧ ∀ c i, ¬ (c = 0 ∧ (i = 0 ∨ i = 8)) → ¬ ((c = 5 ∨ c = 6) ∧ i = k) → ¬ ((c = 7 ∨ c = 8 ∨ c = 9) ∧ 8 * k ≤ i) → mm' c i = mm c i) (fun x => l - x.2.2.2.1.toNat) ⟨0, v, rfl, Nat.zero_le _, rfl, rfl, hv, by (try dsimp only); omega, by (try dsimp only); omega, fun _ _ _ _ => rfl, mm, I, fun _ => h8, fun q => by omega, fun c' h => by omega, fun c' h => by omega, fun _ _ _ _ _ => rfl⟩ ?_
  rintro ⟨is, tm, vv, cc, m39⟩ ⟨c, u, e1, e2, e3, e4, e5, b1, b2, f1, mm1, J, z0, z1, rec, up, g1⟩
  try dsimp only at e1 e3 e4 b1 b2 f1 J z1 rec up ⊢
  subst e1
  subst e3
  subst e4
  have i0 : (1 + 14 * (k : Int)).toNat = 1 + 14 * k := by omega
  have i1 : (1 + 14 * (k : Int) + 1).toNat = 2 + 14 * k := by omega
  have i2 : (1 + 14 * (k : Int) + 2 + 3 * (c : Int)).toNat = 3 + 14 * k + 3 * c := by omega
  have i3 : (1 + 14 * (k : Int) + 3 + 3 * (c : Int)).toNat = 4 + 14 * k + 3 * c := by omega
  have i4 : (1 + 14 * (k : Int) + 4 + 3 * (c : Int)).toNat = 5 + 14 * k + 3 * c := by omega
  unfold W_drawn_b7
  rw [i0, i1, i2, i3, i4, f1 458 (2 + 14 * k) (by omega) (by omega), a2]
  refine ok_grd (by unfold InR; omega) (ok_ite (fun hc => ?_) (fun hc => ok_some ?_))
  · have hcl : c < l := by omega
    have n1 : mm1 0 1 = n := by rw [g1 0 1 (by omega) (by omega) (by omega)]; exact h1
    have n6 : mm1 0 6 = 2 := by rw [g1 0 6 (by omega) (by omega) (by omega)]; exact h6
    refine ok_grd (by unfold InR; omega) (ok_ltv (ok_grd (by unfold InR; omega) (ok_ltv ?_)))
    obtain ⟨m41, hm41⟩ : ∃ m41, m41 = setM (setM m39 458 (3 + 14 * k + 3 * c) (u : Int)) 458 (4 + 14 * k + 3 * c) tm := ⟨_, rfl⟩
    rw [← hm41]
    have q41 : ∀ c' i, ¬ (c' = 458 ∧ (i = 3 + 14 * k + 3 * c ∨ i = 4 + 14 * k + 3 * c)) → m41 c' i = m39 c' i := fun c' i q => by rw [hm41, setM_ne (by omega), setM_ne (by omega)]
    have q3 : m41 458 (3 + 14 * k + 3 * c) = u := by rw [hm41, setM_ne (by omega), setM_same]
    have q4 : m41 458 (4 + 14 * k + 3 * c) = tm := by rw [hm41, setM_same]
    -- the time of departure
    refine ok_kjs (fun x m42 => 0 ≤ x ∧ x ≤ 3 ∧ (c = 0 → x = 0) ∧ ∀ c' i, ¬ c' = 455 → m42 c' i = m41 c' i) ?_ ?_
    · rintro x m42 ⟨x0, x3, xc, f42⟩
      refine ok_grd (by unfold InR; omega) (ok_ltv (ok_grd (by unfold InR; omega) (ok_ltv ?_)))
      obtain ⟨m44, hm44⟩ : ∃ m44, m44 = setM m42 458 (5 + 14 * k + 3 * c) (tm + x) := ⟨_, rfl⟩
      rw [← hm44]
      have q44 : ∀ c' i, ¬ c' = 455 → ¬ (c' = 458 ∧ i = 5 + 14 * k + 3 * c) → m44 c' i = m41 c' i := fun c' i w1 w2 => by rw [hm44, setM_ne w2]; exact f42 c' i w1
      have q5 : m44 458 (5 + 14 * k + 3 * c) = tm + x := by rw [hm44, setM_same]
      have J44 : Inv m44 mm1 := InvC_Inv m39 _ mm1 _ (fun c' hc' i => by rw [q44 c' i (by omega) (by omega), q41 c' i (by omega)]) (fun _ _ _ => rfl) J
      have fa : ∀ c' i, 455 < c' → ¬ (c' = 458 ∧ (3 + 14 * k + 3 * c ≤ i ∧ i ≤ 5 + 14 * k + 3 * c)) → m44 c' i = m39 c' i := fun c' i w1 w2 => by rw [q44 c' i (by omega) (by omega), q41 c' i (by omega)]
      -- behind the call
      refine ok_kjs (fun w m45 => w = 1 ∧ hiS m44 m45 ∧ ∃ mm', Inv m45 mm' ∧ mm' 0 8 = ((k + 1 : Nat) : Int) ∧ mm' 5 k = s ∧ mm' 6 k = ((c + 1 : Nat) : Int) ∧ mm' 7 (8 * k + c) = u ∧ mm' 8 (8 * k + c) = tm ∧ mm' 9 (8 * k + c) = tm + x ∧ ∀ c' i, ¬ (c' = 0 ∧ (i = 0 ∨ i = 8)) → ¬ ((c' = 5 ∨ c' = 6) ∧ i = k) → ¬ ((c' = 7 ∨ c' = 8 ∨ c' = 9) ∧ i = 8 * k + c) → mm' c' i = mm1 c' i) ?_ ?_
      · rintro w m45 ⟨rfl, h45, mm', J', t1, t2, t3, t4, t5, t6, t7⟩
        rw [j11]
        refine ok_ltv (ok_bq2 (draw_ok (m := m45) (n := 25) (by omega)) (fun r19 m50 h50 => ?_))
        obtain ⟨r0, r1, f50⟩ := h50
        try dsimp only at r0 r1 f50
        refine ok_grd (by unfold InR; omega) (ok_ltv (ok_grd (by unfold InR; omega) (ok_bq2 (draw_ok (m := m50) (n := (n : Int) - 1) (by omega)) (fun r20 m51 h51 => ?_))))
        obtain ⟨r2, r3, f51⟩ := h51
        try dsimp only at r2 r3 f51
        have tmv : ((u : Int) + 1 + r20).tmod n = (((u + 1 + r20.toNat) % n : Nat) : Int) := by
          rw [show (u : Int) + 1 + r20 = ((u + 1 + r20.toNat : Nat) : Int) by omega, Int.tmod_eq_emod_of_nonneg (by omega)]
          rfl
        have ulo := Nat.mod_lt (u + 1 + r20.toNat) (show 0 < n by omega)
        have une : (u + 1 + r20.toNat) % n ≠ u := by
          intro q
          have d := Nat.div_add_mod (u + 1 + r20.toNat) n
          rw [q] at d
          obtain ⟨z, hz⟩ : ∃ z, z = (u + 1 + r20.toNat) / n := ⟨_, rfl⟩
          rw [← hz] at d
          rcases (by omega : z = 0 ∨ z = 1 ∨ 2 ≤ z) with e | e | e
          · rw [e, Nat.mul_zero] at d; omega
          · rw [e, Nat.mul_one] at d; omega
          · have := Nat.mul_le_mul_left n e
            omega
        rw [tmv]
        have g51 : ∀ c' i, 455 < c' → m51 c' i = m44 c' i := fun c' i w1 => by rw [f51 c' i (by omega), f50 c' i (by omega), h45 c' i (by omega)]
        refine ok_grd (by unfold InR; omega) (ok_ltv (ok_grd (by unfold InR; omega) (ok_ltv (ok_some ⟨⟨c + 1, (u + 1 + r20.toNat) % n, by (try dsimp only); omega, by omega, rfl, rfl, ulo, by (try dsimp only); omega, by (try dsimp only); omega, fun c' i w1 w2 => ?_, mm', ?_, fun q => by omega, fun _ => ⟨t1, t2, t3, ?_, ?_⟩, fun c' hc' => ?_, fun c' hc' => ?_, fun c' i w1 w2 w3 => ?_⟩, by (try dsimp only); omega⟩))))
        · try dsimp only
          rw [g51 c' i w1, fa c' i w1 (by omega)]
          exact f1 c' i w1 w2
        · exact InvC_Inv m45 _ mm' _ (fun c' hc' i => by show m45 c' i = m51 c' i; rw [f51 c' i (by omega), f50 c' i (by omega)]) (fun _ _ _ => rfl) J'
        · rw [Nat.add_sub_cancel, t4]
          omega
        · try dsimp only
          rw [Nat.add_sub_cancel, t6]
          omega
        · try dsimp only
          by_cases e : c' = c
          · rw [e]
            refine ⟨u, e5, ?_⟩
            rw [g51 _ _ (by omega), g51 458 (4 + 14 * k + 3 * c) (by omega), g51 458 (5 + 14 * k + 3 * c) (by omega), q5, q44 458 (3 + 14 * k + 3 * c) (by omega) (by omega), q44 458 (4 + 14 * k + 3 * c) (by omega) (by omega), q3, q4, t4, t5, t6]
            exact ⟨rfl, rfl, rfl, rfl, by omega, by omega, by omega⟩
          · exact CLd_fr (rec c' (by omega)) (fun c9 i w1 w2 => t7 c9 i (by omega) (by omega) (by omega)) (fun i w1 w2 => by rw [g51 _ _ (by omega), fa 458 i (by omega) (by omega)])
        · try dsimp only
          by_cases e : c' + 1 = c
          · rw [g51 458 _ (by omega), g51 458 _ (by omega), fa 458 (5 + 14 * k + 3 * c') (by omega) (by omega), e, q44 458 (4 + 14 * k + 3 * c) (by omega) (by omega), q4]
            obtain ⟨v9, -, -, -, -, y9, -⟩ := rec c' (by omega)
            rw [← y9]
            have := (z1 (by omega)).2.2.2.2
            rw [show c - 1 = c' by omega] at this
            exact this
          · rw [g51 458 _ (by omega), g51 458 _ (by omega), fa 458 (5 + 14 * k + 3 * c') (by omega) (by omega), fa 458 (4 + 14 * k + 3 * (c' + 1)) (by omega) (by omega)]
            exact up c' (by omega)
        · rw [t7 c' i w1 w2 (by omega)]
          exact g1 c' i w1 w2 w3
      · intro kj6 hk6
        have s44 : m44 458 (1 + 14 * k) = s := by rw [fa 458 _ (by omega) (by omega), f1 458 _ (by omega) (by omega)]; exact a1
        have a44 : m44 458 (4 + 14 * k + 3 * c) = tm := by rw [q44 458 _ (by omega) (by omega)]; exact q4
        rw [s44, a44]
        refine ok_ite (fun hc0 => ok_grd (by omega) (ok_kjs (fun w m45 => w = 1 ∧ hiS m44 m45 ∧ ∃ mm', Inv m45 mm' ∧ mm' 0 8 = ((k + 1 : Nat) : Int) ∧ mm' 5 k = s ∧ mm' 6 k = ((c + 1 : Nat) : Int) ∧ mm' 7 (8 * k + c) = u ∧ mm' 8 (8 * k + c) = tm ∧ mm' 9 (8 * k + c) = tm + x ∧ ∀ c' i, ¬ (c' = 0 ∧ (i = 0 ∨ i = 8)) → ¬ ((c' = 5 ∨ c' = 6) ∧ i = k) → ¬ ((c' = 7 ∨ c' = 8 ∨ c' = 9) ∧ i = 8 * k + c) → mm' c' i = mm1 c' i) (fun w m45 h => hk6 w m45 h) (fun kj8 hk8 => ?_))) (fun hc0 => ok_kj (fun w m45 => w = 1 ∧ hiS m44 m45 ∧ ∃ mm', Inv m45 mm' ∧ mm' 0 8 = ((k + 1 : Nat) : Int) ∧ mm' 5 k = s ∧ mm' 6 k = ((c + 1 : Nat) : Int) ∧ mm' 7 (8 * k + c) = u ∧ mm' 8 (8 * k + c) = tm ∧ mm' 9 (8 * k + c) = tm + x ∧ ∀ c' i, ¬ (c' = 0 ∧ (i = 0 ∨ i = 8)) → ¬ ((c' = 5 ∨ c' = 6) ∧ i = k) → ¬ ((c' = 7 ∨ c' = 8 ∨ c' = 9) ∧ i = 8 * k + c) → mm' c' i = mm1 c' i) _ (fun w m45 h => hk6 w m45 h) (fun kj7 hk7 => ?_))
        · have c0 : c = 0 := by omega
          have x00 := xc c0
          refine ok_bq2 (p_of (m := m44) (st_trip _ _ _ _ _ J44 (by rcases hs with q | q <;> rw [q] <;> exact ⟨by omega, by omega⟩) ⟨by omega, by omega⟩ ⟨by omega, by omega⟩) (mTrip (k := k) (n := n) J44 (z0 c0) (by omega) n1 e5 n6 hs (by omega))) (fun r18 m49 y => ?_)
          obtain ⟨h49, q, ⟨w0, w1, w2, w3, w4, w5, w6, w7, w8⟩, J', y1, -⟩ := y
          try dsimp only at h49 J' y1
          refine ok_ite (fun _ => hk8 _ _ ⟨rfl, h49, q.2, J', w2, w3, by rw [w4, c0]; rfl, by rw [c0]; exact w5, by rw [c0]; exact w6.trans (by omega), by rw [c0]; exact w7, fun c' i v1 v2 v3 => w8 c' i v1 v2 (by omega)⟩) (fun v => absurd (by rw [y1 w0, w1]) v)
        · have zz := z1 (by omega)
          have rc := rec (c - 1) (by omega)
          refine ok_bq2 (p_of (m := m44) (st_call _ _ _ _ _ _ J44 ⟨by omega, by omega⟩ ⟨by omega, by omega⟩ ⟨by omega, by omega⟩ ⟨by omega, by omega⟩) (mCall (k := k) (n := n) (c := c) J44 (by omega) n1 e5 zz.2.2.1 (by omega) (by omega) zz.2.2.2.2 (by omega) (by omega) (by omega) zz.2.2.2.1)) (fun r17 m47 y => ok_grd (by unfold InR; omega) ?_)
          obtain ⟨h47, q, ⟨w0, w1, w2, w3, w4, w5, w6⟩, J', y1, -⟩ := y
          try dsimp only at h47 J' y1
          refine ok_ite (fun _ => hk7 _ _ ⟨rfl, h47, q.2, J', by rw [w6 0 8 (by omega) (by omega) (by omega)]; exact zz.1, by rw [w6 5 k (by omega) (by omega) (by omega)]; exact zz.2.1, w2, w3, w4, w5, fun c' i v1 v2 v3 => w6 c' i (by omega) (by omega) v3⟩) (fun v => absurd (by rw [y1 w0, w1]; omega) v)
    · intro kj5 hk5
      refine ok_ite (fun q => hk5 _ _ ⟨Int.le_refl _, by omega, fun _ => rfl, fun _ _ _ => rfl⟩) (fun q => ok_bq2 (draw_ok (m := m41) (n := 4) (by omega)) (fun r16 m43 h => hk5 _ _ ⟨h.1, by have := h.2.1; dsimp only at this; omega, fun q2 => by omega, h.2.2⟩))
  · have hcl : c = l := by omega
    subst hcl
    have zz := z1 (by omega)
    refine ⟨rfl, f1, mm1, J, ⟨?_, ?_, c, ?_, hl.1, hl.2, zz.2.2.1, rec, up⟩, zz.1, g1⟩
    · try dsimp only
      rw [f1 458 (1 + 14 * k) (by omega) (by omega), a1]
      exact hs
    · try dsimp only
      rw [f1 458 (1 + 14 * k) (by omega) (by omega), a1]
      exact zz.2.1
    · try dsimp only
      rw [f1 458 (2 + 14 * k) (by omega) (by omega), a2]
/-- trips -/
theorem dTrips {n T : Nat} (hn : 4 ≤ n ∧ n ≤ 6) (hT : 3 ≤ T ∧ T ≤ 9) (I : Inv m mm) (h1 : mm 0 1 = n) (h6 : mm 0 6 = 2) (h8 : mm 0 8 = 0) : Ok (loop (fun s => W_drawn_b6 n T s.1 s.2.1 s.2.2) ((1 : Int), (0 : Int), m)) (fun x => x.1 = 1 ∧ (∀ c i, 455 < c → ¬ (c = 458 ∧ 0 < i) → x.2.2 c i = m c i) ∧ ∃ mm', Inv x.2.2 mm' ∧ (∀ k, k < T → TRd n k mm' x.2.2) ∧ mm' 0 8 = T ∧ ∀ c i, ¬ (c = 0 ∧ (i = 0 ∨ i = 8)) → ¬ (5 ≤ c ∧ c ≤ 9) → mm' c i = mm c i) := by
  refine ok_loop (fun x => ∃ k : Nat, x.2.1 = k ∧ k ≤ T ∧ x.1 = 1 ∧ (∀ c i, 455 < c → ¬ (c = 458 ∧ 0 < i) → x.2.2 c i = m c i) ∧ ∃ mm', Inv x.2.2 mm' ∧ (∀ k', k' < k → TRd n k' mm' x.2.2) ∧ mm' 0 8 = k ∧ ∀ c i, ¬ (c = 0 ∧ (i = 0 ∨ i = 8)) → ¬ (5 ≤ c ∧ c ≤ 9) → mm' c i = mm c i) (fun x => T - x.2.1.toNat) ⟨0, rfl, Nat.zero_le _, rfl, fun _ _ _ _ => rfl, mm, I, fun k' h => by omega, h8, fun _ _ _ _ => rfl⟩ ?_
  rintro ⟨is, kk, m31⟩ ⟨k, e1, e2, e3, f1, mm1, J, tr, z8, g1⟩
  try dsimp only at e1 e3 f1 J tr ⊢
  subst e1
  subst e3
  have i0 : (1 + 14 * (k : Int)).toNat = 1 + 14 * k := by omega
  have i1 : (1 + 14 * (k : Int) + 1).toNat = 2 + 14 * k := by omega
  unfold W_drawn_b6
  refine ok_grd (by omega) (ok_ite (fun hk => ?_) (fun hk => ok_some ?_))
  · have hkT : k < T := by omega
    refine ok_grd (by unfold InR; omega) (ok_ltv (ok_grd (by omega) ?_))
    simp only [i0, i1]
    refine (ok_kjs (fun v m32 => (v = 0 ∨ v = 1) ∧ ∀ c i, ¬ c = 455 → m32 c i = m31 c i) ?_ ?_)
    · rintro s m32 ⟨hs, f32⟩
      refine ok_ltv (ok_grd (by unfold InR; omega) (ok_bq2 (draw_ok (m := setM m32 458 (1 + 14 * k) s) (n := 3) (by omega)) (fun r13 m35 h35 => ?_)))
      obtain ⟨l0, l1, f35⟩ := h35
      try dsimp only at l0 l1 f35
      refine ok_grd (by unfold InR; omega) (ok_ltv (ok_bq2 (draw_ok (m := setM m35 458 (2 + 14 * k) (2 + r13)) (n := 130) (by omega)) (fun r14 m37 h37 => ?_)))
      obtain ⟨t0, t1, f37⟩ := h37
      try dsimp only at t0 t1 f37
      refine ok_grd (by unfold InR; omega) (ok_ltv (ok_bq2 (draw_ok (m := m37) (n := n) (by omega)) (fun r15 m38 h38 => ok_ltv (ok_ltv ?_))))
      obtain ⟨v0, v1, f38⟩ := h38
      try dsimp only at v0 v1 f38
      have fa : ∀ c i, 455 < c → ¬ (c = 458 ∧ (i = 1 + 14 * k ∨ i = 2 + 14 * k)) → m38 c i = m31 c i := fun c i w1 w2 => by
        rw [f38 c i (by omega), f37 c i (by omega), setM_ne (by omega), f35 c i (by omega), setM_ne (by omega), f32 c i (by omega)]
      have fc : ∀ c i, c < 455 → m38 c i = m31 c i := fun c i w1 => by
        rw [f38 c i (by omega), f37 c i (by omega), setM_ne (by omega), f35 c i (by omega), setM_ne (by omega), f32 c i (by omega)]
      have s1 : m38 458 (1 + 14 * k) = s := by rw [f38 _ _ (by omega), f37 _ _ (by omega), setM_ne (by omega), f35 _ _ (by omega), setM_same]
      have s2 : m38 458 (2 + 14 * k) = ((2 + r13.toNat : Nat) : Int) := by rw [f38 _ _ (by omega), f37 _ _ (by omega), setM_same]; omega
      have J38 : Inv m38 mm1 := InvC_Inv m31 _ mm1 _ (fun c hc i => (fc c i hc).symm) (fun _ _ _ => rfl) J
      have ev : r15 = ((r15.toNat : Nat) : Int) := by omega
      rw [ev]
      refine ok_bq5 (dCalls (l := 2 + r13.toNat) (s := s) (v := r15.toNat) hn (by omega) (by omega) J38 (by rw [g1 0 1 (by omega) (by omega)]; exact h1) (by rw [g1 0 6 (by omega) (by omega)]; exact h6) z8 hs s1 s2 (by omega) (by omega)) (fun is13 t5 v16 c4 m52 h52 => ?_)
      obtain ⟨w1, w2, mm', J', w3, w4, w5⟩ := h52
      try dsimp only at w1 w2 J' w3
      refine ok_grd (by unfold InR; omega) (ok_ltv (ok_some ⟨⟨k + 1, by (try dsimp only); omega, by omega, w1, fun c i y1 y2 => ?_, mm', J', fun k' hk' => ?_, w4, fun c i y1 y2 => ?_⟩, by (try dsimp only); omega⟩))
      · try dsimp only
        rw [w2 c i y1 (by omega), fa c i y1 (by omega)]
        exact f1 c i y1 y2
      · try dsimp only
        by_cases e : k' = k
        · rw [e]; exact w3
        · exact TRd_fr (tr k' (by omega)) (fun c' i q => w5 c' i (by omega) (by omega) (by omega)) (fun i q1 q2 => by rw [w2 458 i (by omega) (by omega), fa 458 i (by omega) (by omega)])
      · rw [w5 c i y1 (by omega) (by omega)]
        exact g1 c i y1 y2
    · intro kj hkj
      refine ok_bq2 (draw_ok (m := m31) (n := 3) (by omega)) (fun r12 m33 h33 => ok_ite (fun _ => hkj _ _ ⟨Or.inr rfl, h33.2.2⟩) (fun _ => hkj _ _ ⟨Or.inl rfl, h33.2.2⟩))
  · have : k = T := by omega
    subst this
    exact ⟨rfl, f1, mm1, J, tr, z8, g1⟩
theorem at_of {n T : Nat} (hn : 4 ≤ n ∧ n ≤ 6) (hT : 3 ≤ T ∧ T ≤ 9) (a1 : A 456 6 = n) (a2 : A 458 0 = T) (st : STd n mm A) (sv : SVd mm) (h8 : mm 0 8 = T) (tr : ∀ k, k < T → TRd n k mm A) : AT A ∧ LG0 mm A := by
  have en : nA A = n := by unfold nA; rw [a1]; omega
  have et : tkA A = T := by unfold tkA; rw [a2]; omega
  refine ⟨⟨by rw [en]; exact ⟨a1, hn.1, hn.2⟩, fun v hv => (st.2 v (by omega)).2, by rw [et]; exact ⟨a2, by omega⟩, fun k hk => ?_⟩, by rw [en]; exact st.1, fun v hv => ((st.2 v (by omega)).1).symm, by rw [et]; exact h8, sv.2.1, sv.1, sv.2.2, fun k hk => ?_⟩
  · obtain ⟨t1, t2, l, t3, t4, t5, t6, t7, t8⟩ := tr k (by omega)
    have el : lnA A k = l := by unfold lnA; rw [t3]; omega
    refine ⟨t1, by rw [el]; exact t3, by omega, by omega, fun c hc => ?_⟩
    obtain ⟨v, c1, c2, c3, c4, c5, c6, c7, c8⟩ := t7 c (by omega)
    have es : stA A k c = v := by unfold stA; rw [c2]; omega
    exact ⟨by rw [es]; exact c2, by omega, c6, c7, c8, fun q => t8 c (by omega)⟩
  · obtain ⟨t1, t2, l, t3, t4, t5, t6, t7, t8⟩ := tr k (by omega)
    have el : lnA A k = l := by unfold lnA; rw [t3]; omega
    refine ⟨t2, by rw [el]; exact t6, fun c hc => ?_⟩
    obtain ⟨v, c1, c2, c3, c4, c5, c6, c7, c8⟩ := t7 c (by omega)
    have es : stA A k c = v := by unfold stA; rw [c2]; omega
    exact ⟨by rw [es]; exact c3, c4, c5⟩
theorem drawn_ok (I : Inv m mm) (h1 : mm 0 1 = 0) (h6 : mm 0 6 = 0) (h8 : mm 0 8 = 0) (h14 : mm 0 14 = 0) (h2 : ∀ i, mm 2 i = 0) (h4 : ∀ i, mm 4 i = 0) : Ok (W_drawn m) (fun x => x.1 = 1 ∧ AT x.2 ∧ ∃ mm', Inv x.2 mm' ∧ LG0 mm' x.2 ∧ WYd (nA x.2) mm' x.2) := by
  unfold W_drawn
  refine ok_bq2 (draw_ok (m := m) (n := 3) (by omega)) (fun r m1 h => ?_)
  obtain ⟨r0, r1, f1⟩ := h
  try dsimp only at r0 r1 f1
  refine ok_grd (by unfold InR; omega) (ok_ltv (ok_ltv ?_))
  obtain ⟨n, hn0⟩ : ∃ n : Nat, 4 + r = n := ⟨(4 + r).toNat, by omega⟩
  rw [hn0]
  have hn : 4 ≤ n ∧ n ≤ 6 := by omega
  obtain ⟨m2, hm2⟩ : ∃ m2, m2 = setM m1 456 6 (n : Int) := ⟨_, rfl⟩
  rw [← hm2]
  have a6 : m2 456 6 = n := by rw [hm2, setM_same]
  have J2 : Inv m2 mm := InvC_Inv m _ mm _ (fun c hc i => by rw [hm2, setM_ne (by omega), f1 c i (by omega)]) (fun _ _ _ => rfl) I
  refine ok_kjs (fun v m3 => v = 1 ∧ hiS m2 m3 ∧ ∃ mm3, Inv m3 mm3 ∧ SVd mm3 ∧ ∀ c i, ¬ (c = 0 ∧ (i = 0 ∨ i = 6)) → ¬ c = 4 → mm3 c i = mm c i) ?_ ?_
  · rintro v m3 ⟨rfl, f3, mm3, J3, sv, g3⟩
    refine ok_ltv (ok_ltv (ok_bq3 (dStops hn J3 (by rw [g3 0 1 (by omega) (by omega)]; exact h1)) (fun is4 v6 m13 h13 => ok_ltv ?_)))
    obtain ⟨e13, f13, mm13, J13, st13, g13⟩ := h13
    try dsimp only at e13 f13 J13 st13
    refine ok_bq2 (dWay (m := m13) hn) (fun a4 m18 h18 => ok_ltv ?_)
    obtain ⟨f18, w18⟩ := h18
    try dsimp only at f18 w18
    have J18 : Inv m18 mm13 := InvC_Inv m13 _ mm13 _ (fun c hc i => (f18 c i (by omega)).symm) (fun _ _ _ => rfl) J13
    rw [e13]
    refine ok_bq3 (dWalks hn J18 st13.1 (fun i => by rw [g13 2 i (by omega) (by omega) (by omega), g3 2 i (by omega) (by omega)]; exact h2 i) w18) (fun is9 a8 m28 h28 => ?_)
    obtain ⟨e28, f28, mm28, J28, wy28, g28⟩ := h28
    try dsimp only at e28 f28 J28 wy28
    refine ok_bq2 (draw_ok (m := m28) (n := 7) (by omega)) (fun r11 m29 h29 => ?_)
    obtain ⟨r2, r3, f29⟩ := h29
    try dsimp only at r2 r3 f29
    refine ok_grd (by unfold InR; omega) (ok_ltv (ok_ltv (ok_ltv ?_)))
    obtain ⟨T, hT0⟩ : ∃ T : Nat, 3 + r11 = T := ⟨(3 + r11).toNat, by omega⟩
    rw [hT0, e28]
    have hT : 3 ≤ T ∧ T ≤ 9 := by omega
    obtain ⟨m30, hm30⟩ : ∃ m30, m30 = setM m29 458 0 (T : Int) := ⟨_, rfl⟩
    rw [← hm30]
    have J30 : Inv m30 mm28 := InvC_Inv m28 _ mm28 _ (fun c hc i => by rw [hm30, setM_ne (by omega), f29 c i (by omega)]) (fun _ _ _ => rfl) J28
    have gg : ∀ c i, ¬ (c = 0 ∧ (i = 0 ∨ i = 1 ∨ i = 6)) → ¬ (c = 1 ∨ c = 2 ∨ c = 3 ∨ c = 4) → mm28 c i = mm c i := fun c i w1 w2 => by
      rw [g28 c i (by omega) (by omega) (by omega), g13 c i (by omega) (by omega) (by omega), g3 c i (by omega) (by omega)]
    have n28 : mm28 0 1 = n := by rw [g28 0 1 (by omega) (by omega) (by omega)]; exact st13.1
    have sv28 : SVd mm28 := SVd_fr sv (fun c i q => by rw [g28 c i (by omega) (by omega) (by omega), g13 c i (by omega) (by omega) (by omega)])
    refine ok_bq3 (dTrips hn hT J30 n28 sv28.1 (by rw [gg 0 8 (by omega) (by omega)]; exact h8)) (fun is14 k4 m53 h53 => ?_)
    obtain ⟨e53, f53, mm53, J53, tr53, z53, g53⟩ := h53
    try dsimp only at e53 f53 J53 tr53
    have hi : ∀ c i, 455 < c → ¬ (c = 458 ∧ 0 < i) → m53 c i = m30 c i := f53
    have a456 : ∀ i, m53 456 i = m13 456 i := fun i => by
      rw [hi 456 i (by omega) (by omega), hm30, setM_ne (by omega), f29 456 i (by omega), f28 456 i (by omega) (by omega), f18 456 i (by omega)]
    have a6' : m53 456 6 = n := by rw [a456, f13 456 6 (by omega) (by omega), f3 456 6 (by omega)]; exact a6
    have aT : m53 458 0 = T := by rw [hi 458 0 (by omega) (by omega), hm30, setM_same]
    have st53 : STd n mm53 m53 := by
      refine ⟨by rw [g53 0 1 (by omega) (by omega)]; exact n28, fun u hu => ?_⟩
      rw [a456, g53 1 u (by omega) (by omega), g28 1 u (by omega) (by omega) (by omega)]
      exact st13.2 u hu
    have sv53 : SVd mm53 := SVd_fr sv28 (fun c i q => g53 c i (by omega) (by omega))
    have fin := at_of hn hT a6' aT st53 sv53 z53 tr53
    refine ok_grd (Or.inr e53) (ok_some ⟨e53, fin.1, mm53, J53, fin.2, ?_⟩)
    have en : nA m53 = n := by unfold nA; rw [a6']; omega
    try dsimp only
    rw [en]
    intro a b ha hb
    rw [hi 457 _ (by omega) (by omega), hm30, setM_ne (by omega), f29 457 _ (by omega), g53 2 _ (by omega) (by omega)]
    exact wy28 a b ha hb
  · intro kj hk
    exact dServices J2 h6 h14 h4 (fun m' mm' J' s' sv f' => hk _ _ ⟨rfl, s', mm', J', sv, f'⟩)
end DRW
