/-! ===== P55: what builds a table, by the reference ===== -/
section MUT
variable {m mm A : Mem}
theorem jand_bd (z : Int) : 0 ≤ jiand z 65535 ∧ jiand z 65535 ≤ 65535 := by
  unfold jiand
  have h : (i32 z &&& i32 65535).toInt = ((i32 z &&& i32 65535).toBitVec).toInt := rfl
  have h2 : ((i32 z &&& i32 65535).toBitVec).toNat ≤ 65535 := by
    rw [Int32.toBitVec_and, BitVec.toNat_and]
    exact Nat.and_le_right
  rw [h, BitVec.toInt_eq_toNat_of_lt (by omega)]
  omega
theorem draw_ok {n : Int} (hn : 0 < n) : Ok (W_draw n m) (fun x => 0 ≤ x.1 ∧ x.1 < n ∧ ∀ c i, ¬ c = 455 → x.2 c i = m c i) := by
  unfold W_draw
  refine ok_ltv (ok_grd hn (ok_some ⟨?_, ?_, fun c i h => setM_ne (by omega)⟩))
  · try dsimp only
    have := jand_bd (jiushr (setM m 455 0 (wr32 (wr32 (1103515245 * m 455 0) + 12345)) 455 0) 9)
    rw [Int.tmod_eq_emod_of_nonneg this.1]
    exact Int.emod_nonneg _ (by omega)
  · try dsimp only
    have := jand_bd (jiushr (setM m 455 0 (wr32 (wr32 (1103515245 * m 455 0) + 12345)) 455 0) 9)
    rw [Int.tmod_eq_emod_of_nonneg this.1]
    exact Int.emod_lt_of_pos _ hn
theorem mService {s : Nat} (h : mm 0 6 = s) (hs : s < 6) : Ok (M_service mm) (fun r => r.2 0 0 = 0 ∧ r.1 = s ∧ r.2 0 6 = ((s + 1 : Nat) : Int) ∧ ∀ c i, ¬ (c = 0 ∧ (i = 0 ∨ i = 6)) → r.2 c i = mm c i) := by
  unfold M_service
  refine wp_bq2 (wp_isThrownI (fun q => by exfalso; omega) (fun _ => ok_ite (fun q => absurd rfl q) (fun _ => ?_)))
  try dsimp only
  rw [show setM mm 0 0 0 0 6 = s by rw [setM_ne (by omega), h]]
  refine ok_grd (by unfold InR; omega) (ok_ltv ?_)
  rw [setM_same]
  refine ok_grd (by unfold InR; omega) (ok_some ⟨?_, by (try dsimp only); omega, ?_, fun c i q => ?_⟩)
  · try dsimp only
    rw [setM_ne (by omega), setM_same]
  · try dsimp only
    rw [setM_same]
    omega
  · try dsimp only
    rw [setM_ne (by omega), setM_ne (by omega)]
theorem jw (d : Nat) (h : 9 ≤ d) (h2 : d ≤ 11) : jiand (jishr 127 ((d : Int).tmod 7)) 1 = 1 := by
  obtain rfl | rfl | rfl : d = 9 ∨ d = 10 ∨ d = 11 := by omega
  · decide +kernel
  · decide +kernel
  · decide +kernel
theorem mWeek (h : mm 0 6 = 2) (h4 : ∀ i, mm 4 i = 0) : Ok (M_week 0 127 9 11 mm) (fun r => r.2 0 0 = 0 ∧ r.1 = 3 ∧ (∀ i : Nat, r.2 4 i = if 9 ≤ i ∧ i < 12 then 1 else 0) ∧ ∀ c i, ¬ (c = 0 ∧ i = 0) → ¬ c = 4 → r.2 c i = mm c i) := by
  unfold M_week
  refine wp_bq2 (wp_isNoService (by omega) (by omega) (fun _ => by exfalso; omega) (fun _ _ => ok_ite (fun q => absurd rfl q) (fun _ => wp_bq2 (wp_isThrownI (fun q => by exfalso; simp only [isIn0] at q; omega) (fun _ => ok_ite (fun q => absurd rfl q) (fun _ => ok_ltv ?_))))))
  try dsimp only
  obtain ⟨m0, hm0⟩ : ∃ m0, m0 = setM (setM mm 0 0 0) 0 0 0 := ⟨_, rfl⟩
  rw [← hm0]
  have f0 : ∀ c i, ¬ (c = 0 ∧ i = 0) → m0 c i = mm c i := fun c i q => by rw [hm0, setM_ne q, setM_ne q]
  have z0 : m0 0 0 = 0 := by rw [hm0, setM_same]
  refine ok_bq2 (Q := fun x : Int × Mem => (∀ i : Nat, x.2 4 i = if 9 ≤ i ∧ i < 12 then 1 else 0) ∧ ∀ c i, ¬ c = 4 → x.2 c i = m0 c i) ?_ (fun _ m5 h5 => ok_ltv (ok_ltv (ok_bq2 (Q := fun x : Int × Int => x.1 = 3) ?_ (fun many _ hm => ok_some ?_))))
  · refine ok_loop (fun x => ∃ d : Nat, x.1 = d ∧ 9 ≤ d ∧ d ≤ 12 ∧ (∀ i : Nat, x.2 4 i = if 9 ≤ i ∧ i < d then 1 else 0) ∧ ∀ c i, ¬ c = 4 → x.2 c i = m0 c i) (fun x => 12 - x.1.toNat) ⟨9, rfl, by omega, by omega, fun i => by show m0 4 i = _; rw [if_neg (by omega), f0 4 i (by omega)]; exact h4 i, fun _ _ _ => rfl⟩ ?_
    rintro ⟨x, m3⟩ ⟨d, e1, e2, e3, e4, e5⟩
    try dsimp only at e1 e4 e5 ⊢
    subst e1
    unfold M_week_b1
    refine ok_ite (fun hd => ok_ite (fun _ => ok_grd (by unfold InR; omega) (ok_ltv (ok_grd (by unfold InR; omega) (ok_ltv (ok_some ⟨⟨d + 1, by (try dsimp only); omega, by omega, by omega, fun i => ?_, fun c i q => ?_⟩, by (try dsimp only); omega⟩))))) (fun q => absurd (jw d (by omega) (by omega)) q)) (fun hd => ok_some ?_)
    · try dsimp only
      rw [show (28 * 0 + (d : Int)).toNat = d by omega]
      by_cases e : i = d
      · rw [e, setM_same, if_pos (by omega)]
      · rw [setM_ne (by omega), e4 i]
        by_cases q : 9 ≤ i ∧ i < d
        · rw [if_pos q, if_pos (by omega)]
        · rw [if_neg q, if_neg (by omega)]
    · try dsimp only
      rw [setM_ne (by omega)]
      exact e5 c i q
    · have : d = 12 := by omega
      rw [this] at e4
      exact ⟨e4, e5⟩
  · try dsimp only at h5
    refine ok_loop (fun x => ∃ d : Nat, x.2 = d ∧ d ≤ 28 ∧ x.1 = if d ≤ 9 then 0 else if d ≤ 12 then (d : Int) - 9 else 3) (fun x => 28 - x.2.toNat) ⟨0, rfl, by omega, rfl⟩ ?_
    rintro ⟨x, y⟩ ⟨d, e1, e2, e3⟩
    try dsimp only at e1 e3 ⊢
    subst e1
    unfold M_week_b2
    rw [show (28 * 0 + (d : Int)).toNat = d by omega, h5.1 d]
    have ex : x + (if ¬ (if 9 ≤ d ∧ d < 12 then (1 : Int) else 0) = 0 then 1 else 0) = if d + 1 ≤ 9 then 0 else if d + 1 ≤ 12 then ((d + 1 : Nat) : Int) - 9 else 3 := by
      rw [e3]
      have z : (if ¬ (if 9 ≤ d ∧ d < 12 then (1 : Int) else 0) = 0 then (1 : Int) else 0) = if 9 ≤ d ∧ d < 12 then 1 else 0 := by
        by_cases q : 9 ≤ d ∧ d < 12
        · rw [if_pos q]; rfl
        · rw [if_neg q]; rfl
      rw [z]
      (repeat' split) <;> omega
    rw [ex]
    have exb : 0 ≤ (if d + 1 ≤ 9 then (0 : Int) else if d + 1 ≤ 12 then ((d + 1 : Nat) : Int) - 9 else 3) ∧ (if d + 1 ≤ 9 then (0 : Int) else if d + 1 ≤ 12 then ((d + 1 : Nat) : Int) - 9 else 3) ≤ 3 := by
      split
      · omega
      · split <;> omega
    refine ok_ite (fun hd => ok_grd (by unfold InR; omega) (ok_ltv (ok_grd (by unfold InR; omega) (ok_ltv (ok_some ⟨⟨d + 1, by (try dsimp only); omega, by omega, rfl⟩, by (try dsimp only); omega⟩))))) (fun hd => ok_some ?_)
    have : d = 28 := by omega
    rw [this] at e3
    exact e3
  · try dsimp only at hm h5 ⊢
    refine ⟨by rw [h5.2 0 0 (by omega)]; exact z0, hm, h5.1, fun c i q1 q2 => ?_⟩
    rw [h5.2 c i q2, f0 c i q1]
theorem mPutDay (h : mm 0 6 = 2) (h4 : mm 4 38 = 0) : Ok (M_putDay 1 10 1 mm) (fun r => r.2 0 0 = 0 ∧ r.1 = 0 ∧ r.2 4 38 = 1 ∧ ∀ c i, ¬ (c = 0 ∧ i = 0) → ¬ (c = 4 ∧ i = 38) → r.2 c i = mm c i) := by
  unfold M_putDay
  refine wp_bq2 (wp_isNoService (by omega) (by omega) (fun _ => by exfalso; omega) (fun _ _ => ok_ite (fun q => absurd rfl q) (fun _ => wp_bq2 (wp_isNoDay (fun q => by exfalso; omega) (fun _ _ => ok_ite (fun q => absurd rfl q) (fun _ => ?_))))))
  try dsimp only
  rw [show (28 * 1 + 10 : Int).toNat = 38 from rfl, show setM (setM mm 0 0 0) 0 0 0 4 38 = 0 by rw [setM_ne (by omega), setM_ne (by omega), h4]]
  refine ok_grd (by unfold InR; omega) (ok_ltv (ok_grd (Or.inr rfl) (ok_ltv (ok_grd (Or.inl rfl) (ok_some ⟨?_, rfl, (by (try dsimp only); exact setM_same _ _ _ _), fun c i q1 q2 => ?_⟩)))))
  · try dsimp only
    rw [setM_ne (by omega), setM_same]
  · try dsimp only
    rw [setM_ne q2, setM_ne q1, setM_ne q1]
theorem mTB (I : Inv m mm) : TB (toldM mm) := fun a b ha hb => by
  have h := I.1.2.2.2.2.2.2.1 a b ha hb
  unfold toldM
  rw [h.1]
  exact h.2
theorem mStop {c : Int} {v : Nat} (I : Inv m mm) (hv : mm 0 1 = v) (hv2 : v < 12) (hc : 0 ≤ c ∧ c ≤ 30) : Ok (M_stop c mm) (fun r => r.2 0 0 = 0 ∧ r.1 = v ∧ r.2 0 1 = ((v + 1 : Nat) : Int) ∧ r.2 1 v = c ∧ ∀ c' i, ¬ (c' = 0 ∧ (i = 0 ∨ i = 1)) → ¬ (c' = 1 ∧ i = v) → ¬ c' = 3 → r.2 c' i = mm c' i) := by
  unfold M_stop
  refine wp_bq2 (wp_isThrownI (fun q => by exfalso; rw [isIn0] at q; omega) (fun _ => ok_ite (fun q => absurd rfl q) (fun _ => wp_bq2 (wp_isThrownI (fun q => by exfalso; dsimp only at q; simp (disch := omega) only [setM_ne, setM_hit, true_and, and_true] at q; omega) (fun _ => ok_ite (fun q => absurd rfl q) (fun _ => ?_))))))
  try dsimp only
  obtain ⟨m2, hm2⟩ : ∃ m2, m2 = setM (setM mm 0 0 0) 0 0 0 := ⟨_, rfl⟩
  rw [← hm2]
  have f2 : ∀ c i, ¬ (c = 0 ∧ i = 0) → m2 c i = mm c i := fun c i q => by rw [hm2, setM_ne q, setM_ne q]
  have z2 : m2 0 0 = 0 := by rw [hm2, setM_same]
  rw [f2 0 1 (by omega), hv, Int.toNat_natCast]
  refine ok_grd (by omega) (ok_ltv ?_)
  rw [show setM m2 1 v c 0 1 = v by rw [setM_ne (by omega), f2 0 1 (by omega), hv]]
  refine ok_grd (by unfold InR; omega) (ok_ltv ?_)
  have tb : TB (toldM (setM (setM m2 1 v c) 0 1 ((v : Int) + 1))) := by
    have e : toldM (setM (setM m2 1 v c) 0 1 ((v : Int) + 1)) = toldM mm := by
      funext a b
      unfold toldM
      rw [setM_ne (by omega), setM_ne (by omega), f2 _ _ (by omega)]
    rw [e]
    exact mTB I
  refine ok_bind (walks_ok (n := v + 1) (by rw [setM_same]; omega) (by omega) tb) (fun m5 h5 => ?_)
  have e1 : m5 0 1 = ((v + 1 : Nat) : Int) := by rw [h5.1 0 1 (by omega), setM_same]; omega
  rw [e1]
  refine ok_grd (by unfold InR; omega) (ok_some ⟨?_, by (try dsimp only); omega, e1, ?_, fun c' i q1 q2 q3 => ?_⟩)
  · try dsimp only
    rw [h5.1 0 0 (by omega), setM_ne (by omega), setM_ne (by omega), z2]
  · try dsimp only
    rw [h5.1 1 v (by omega), setM_ne (by omega), setM_same]
  · try dsimp only
    rw [h5.1 c' i q3, setM_ne (by omega), setM_ne q2, f2 c' i (by omega)]
theorem mWalk {a b n : Nat} {t : Int} (I : Inv m mm) (hn : mm 0 1 = n) (hn2 : n ≤ 12) (ha : a < n) (hb : b < n) (hab : a ≠ b) (ht : 0 ≤ t ∧ t ≤ 60) : Ok (M_walk a b t mm) (fun r => r.2 0 0 = 0 ∧ r.1 = mm 2 (12 * a + b) ∧ r.2 2 (12 * a + b) = t ∧ r.2 2 (12 * b + a) = t ∧ ∀ c i, ¬ (c = 0 ∧ i = 0) → ¬ (c = 2 ∧ (i = 12 * a + b ∨ i = 12 * b + a)) → ¬ c = 3 → r.2 c i = mm c i) := by
  unfold M_walk
  refine wp_bq2 (wp_isNoStop (by omega) (by omega) (fun _ => by exfalso; omega) (fun _ _ => ok_ite (fun q => absurd rfl q) (fun _ => wp_bq2 (wp_isNoStop (by (try dsimp only); (first | omega | (simp (disch := omega) only [setM_ne, setM_hit, true_and, and_true]; done) | (simp (disch := omega) only [setM_ne, setM_hit, true_and, and_true]; omega))) (by (try dsimp only); (first | omega | (simp (disch := omega) only [setM_ne, setM_hit, true_and, and_true]; done) | (simp (disch := omega) only [setM_ne, setM_hit, true_and, and_true]; omega))) (fun h => by exfalso; dsimp only at h; simp (disch := omega) only [setM_ne, setM_hit, true_and, and_true] at h; omega) (fun _ _ => ok_ite (fun q => absurd rfl q) (fun _ => wp_bq2 (wp_isThrownI (fun h => by exfalso; simp only [isIn0] at h; omega) (fun _ => ok_ite (fun q => absurd rfl q) (fun _ => ?_)))))))))
  try dsimp only
  obtain ⟨m3, hm3⟩ : ∃ m3, m3 = setM (setM (setM mm 0 0 0) 0 0 0) 0 0 0 := ⟨_, rfl⟩
  rw [← hm3]
  have f3 : ∀ c i, ¬ (c = 0 ∧ i = 0) → m3 c i = mm c i := fun c i q => by rw [hm3, setM_ne q, setM_ne q, setM_ne q]
  have z3 : m3 0 0 = 0 := by rw [hm3, setM_same]
  rw [i12, i12]
  refine ok_grd (by unfold InR; omega) (ok_ltv (ok_ltv (ok_grd (by unfold InR; omega) (ok_ltv ?_))))
  have tb : TB (toldM (setM (setM m3 2 (12 * a + b) t) 2 (12 * b + a) t)) := fun x y hx hy => by
    have k := mTB I x y hx hy
    unfold toldM at k ⊢
    by_cases e1 : 12 * x + y = 12 * b + a
    · rw [e1, setM_same]
      exact ⟨ht.1, ht.2, fun q => by omega⟩
    · rw [setM_ne (by omega)]
      by_cases e2 : 12 * x + y = 12 * a + b
      · rw [e2, setM_same]
        exact ⟨ht.1, ht.2, fun q => by omega⟩
      · rw [setM_ne (by omega), f3 2 _ (by omega)]
        exact k
  refine ok_bind (walks_ok (n := n) (by rw [setM_ne (by omega), setM_ne (by omega), f3 0 1 (by omega), hn]) hn2 tb) (fun m6 h6 => ok_some ⟨?_, f3 2 _ (by omega), ?_, ?_, fun c i q1 q2 q3 => ?_⟩)
  · try dsimp only
    rw [h6.1 0 0 (by omega), setM_ne (by omega), setM_ne (by omega), z3]
  · try dsimp only
    rw [h6.1 2 _ (by omega), setM_ne (by omega), setM_same]
  · try dsimp only
    rw [h6.1 2 _ (by omega), setM_same]
  · try dsimp only
    rw [h6.1 c i q3, setM_ne (by omega), setM_ne (by omega), f3 c i q1]
theorem mTrip {k n v : Nat} {s t : Int} (I : Inv m mm) (hk : mm 0 8 = k) (hk2 : k < 24) (hn : mm 0 1 = n) (hv : v < n) (h6 : mm 0 6 = 2) (hs : s = 0 ∨ s = 1) (ht : 0 ≤ t ∧ t ≤ 2879) : Ok (M_trip s v t mm) (fun r => r.2 0 0 = 0 ∧ r.1 = k ∧ r.2 0 8 = ((k + 1 : Nat) : Int) ∧ r.2 5 k = s ∧ r.2 6 k = 1 ∧ r.2 7 (8 * k) = v ∧ r.2 8 (8 * k) = t ∧ r.2 9 (8 * k) = t ∧ ∀ c i, ¬ (c = 0 ∧ (i = 0 ∨ i = 8)) → ¬ ((c = 5 ∨ c = 6) ∧ i = k) → ¬ ((c = 7 ∨ c = 8 ∨ c = 9) ∧ i = 8 * k) → r.2 c i = mm c i) := by
  have n12 := CI_n ⟨_, I⟩
  have i1 := I.1.1
  unfold M_trip
  refine wp_bq2 (wp_isNoService (by omega) (by omega) (fun _ => by exfalso; omega) (fun _ _ => ok_ite (fun q => absurd rfl q) (fun _ => wp_bq2 (wp_isNoStop (by (try dsimp only); (first | omega | (simp (disch := omega) only [setM_ne, setM_hit, true_and, and_true]; done) | (simp (disch := omega) only [setM_ne, setM_hit, true_and, and_true]; omega))) (by (try dsimp only); (first | omega | (simp (disch := omega) only [setM_ne, setM_hit, true_and, and_true]; done) | (simp (disch := omega) only [setM_ne, setM_hit, true_and, and_true]; omega))) (fun h => by exfalso; dsimp only at h; simp (disch := omega) only [setM_ne, setM_hit, true_and, and_true] at h; omega) (fun _ _ => ok_ite (fun q => absurd rfl q) (fun _ => wp_bq2 (wp_isThrownI (fun h => by exfalso; simp only [isIn0] at h; omega) (fun _ => ok_ite (fun q => absurd rfl q) (fun _ => wp_bq2 (wp_isThrownI (fun h => by exfalso; dsimp only at h; simp (disch := omega) only [setM_ne, setM_hit, true_and, and_true] at h; omega) (fun _ => ok_ite (fun q => absurd rfl q) (fun _ => ?_))))))))))))
  try dsimp only
  obtain ⟨m4, hm4⟩ : ∃ m4, m4 = setM (setM (setM (setM mm 0 0 0) 0 0 0) 0 0 0) 0 0 0 := ⟨_, rfl⟩
  rw [← hm4]
  have f4 : ∀ c i, ¬ (c = 0 ∧ i = 0) → m4 c i = mm c i := fun c i q => by rw [hm4, setM_ne q, setM_ne q, setM_ne q, setM_ne q]
  have z4 : m4 0 0 = 0 := by rw [hm4, setM_same]
  have e8 : m4 0 8 = k := by rw [f4 0 8 (by omega)]; exact hk
  have e88 : (8 * (k : Int)).toNat = 8 * k := by omega
  unfold M_added
  simp only [setM_ne (m := m4) (c := 5) (c' := 0) (i' := 8) (i := _) (by omega : ¬ ((0 : Nat) = 5 ∧ _)), e8, Int.toNat_natCast]
  refine ok_bq2 (Q := fun r : Int × Mem => r.1 = k ∧ r.2 = setM (setM (setM (setM (setM (setM m4 5 k s) 6 k 1) 7 (8 * k) v) 8 (8 * k) t) 9 (8 * k) t) 0 8 ((k : Int) + 1)) ?_ (fun x m5 h5 => ok_some ?_)
  · refine ok_grd (by omega) (ok_ltv ?_)
    have a1 : ∀ v, setM m4 5 k v 0 8 = k := fun v => by rw [setM_ne (by omega), e8]
    rw [a1, Int.toNat_natCast]
    refine ok_grd (by omega) (ok_ltv ?_)
    have a2 : ∀ v w, setM (setM m4 5 k v) 6 k w 0 8 = k := fun v w => by rw [setM_ne (by omega), a1]
    rw [a2, e88]
    refine ok_grd (by unfold InR; omega) (ok_ltv ?_)
    have a3 : ∀ v w x, setM (setM (setM m4 5 k v) 6 k w) 7 (8 * k) x 0 8 = k := fun v w x => by rw [setM_ne (by omega), a2]
    rw [a3, e88]
    refine ok_grd (by unfold InR; omega) (ok_ltv ?_)
    have a4 : ∀ v w x y, setM (setM (setM (setM m4 5 k v) 6 k w) 7 (8 * k) x) 8 (8 * k) y 0 8 = k := fun v w x y => by rw [setM_ne (by omega), a3]
    rw [a4, e88]
    refine ok_grd (by unfold InR; omega) (ok_ltv ?_)
    have a5 : ∀ v w x y z, setM (setM (setM (setM (setM m4 5 k v) 6 k w) 7 (8 * k) x) 8 (8 * k) y) 9 (8 * k) z 0 8 = k := fun v w x y z => by rw [setM_ne (by omega), a4]
    rw [a5]
    refine ok_grd (by unfold InR; omega) (ok_ltv ?_)
    rw [setM_same]
    exact ok_grd (by unfold InR; omega) (ok_some ⟨by dsimp only; omega, rfl⟩)
  · try dsimp only at h5 ⊢
    obtain ⟨rfl, rfl⟩ := h5
    refine ⟨?_, rfl, ?_, ?_, ?_, ?_, ?_, ?_, fun c i q1 q2 q3 => ?_⟩
    · simp (disch := omega) only [setM_ne, setM_hit, true_and, and_true]
      exact z4
    · rw [setM_same]; omega
    · simp (disch := omega) only [setM_ne, setM_hit]
    · simp (disch := omega) only [setM_ne, setM_hit]
    · simp (disch := omega) only [setM_ne, setM_hit]
    · simp (disch := omega) only [setM_ne, setM_hit]
    · simp (disch := omega) only [setM_ne, setM_hit]
    · simp (disch := omega) only [setM_ne]
      exact f4 c i (by omega)
theorem mCall {k n v c : Nat} {x y : Int} (I : Inv m mm) (hT : (k : Int) < mm 0 8) (hn : mm 0 1 = n) (hv : v < n) (hc : mm 6 k = c) (hc1 : 1 ≤ c) (hc2 : c < 8) (hx : mm 9 (8 * k + (c - 1)) < x) (hxy : x ≤ y) (hx0 : 0 ≤ x) (hy : y ≤ 2879) (hs : (v : Int) ≠ mm 7 (8 * k + (c - 1))) : Ok (M_call k v x y mm) (fun r => r.2 0 0 = 0 ∧ r.1 = ((c + 1 : Nat) : Int) ∧ r.2 6 k = ((c + 1 : Nat) : Int) ∧ r.2 7 (8 * k + c) = v ∧ r.2 8 (8 * k + c) = x ∧ r.2 9 (8 * k + c) = y ∧ ∀ c' i, ¬ (c' = 0 ∧ i = 0) → ¬ (c' = 6 ∧ i = k) → ¬ ((c' = 7 ∨ c' = 8 ∨ c' = 9) ∧ i = 8 * k + c) → r.2 c' i = mm c' i) := by
  have n12 := CI_n ⟨_, I⟩
  have i1 := I.1.1
  have it := I.2.2.1
  have k24 : k < 24 := by have := it.1; have := it.2.2.1; omega
  have e88 : (8 * (k : Int) + (c : Int)).toNat = 8 * k + c := by omega
  have e89 : (8 * (k : Int) + (c : Int) - 1).toNat = 8 * k + (c - 1) := by omega
  have T24 : 0 ≤ mm 0 8 ∧ mm 0 8 ≤ 24 := by have := it.1; have := it.2.1; have := it.2.2.1; omega
  unfold M_call
  refine wp_bq2 (wp_isNoTrip (by omega) (by omega) (fun _ => by exfalso; omega) (fun _ _ => ok_ite (fun q => absurd rfl q) (fun _ => wp_bq2 (wp_isNoStop (by (try dsimp only); (first | omega | (simp (disch := omega) only [setM_ne, setM_hit, true_and, and_true]; done) | (simp (disch := omega) only [setM_ne, setM_hit, true_and, and_true]; omega))) (by (try dsimp only); (first | omega | (simp (disch := omega) only [setM_ne, setM_hit, true_and, and_true]; done) | (simp (disch := omega) only [setM_ne, setM_hit, true_and, and_true]; omega))) (fun h => by exfalso; dsimp only at h; simp (disch := omega) only [setM_ne, setM_hit, true_and, and_true] at h; omega) (fun _ _ => ok_ite (fun q => absurd rfl q) (fun _ => ?_))))))
  try dsimp only
  obtain ⟨m2, hm2⟩ : ∃ m2, m2 = setM (setM mm 0 0 0) 0 0 0 := ⟨_, rfl⟩
  rw [← hm2]
  have f2 : ∀ c i, ¬ (c = 0 ∧ i = 0) → m2 c i = mm c i := fun c i q => by rw [hm2, setM_ne q, setM_ne q]
  rw [f2 6 _ (by omega), Int.toNat_natCast, hc]
  refine ok_grd (by unfold InR; omega) (ok_ltv ?_)
  simp only [e89, f2 9 (8 * k + (c - 1)) (by omega), f2 7 (8 * k + (c - 1)) (by omega)]
  have no : ¬ ((((M_isIn x 0 2879 = 0 ∨ M_isIn y 0 2879 = 0) ∨ x ≤ mm 9 (8 * k + (c - 1))) ∨ y < x) ∨ (v : Int) = mm 7 (8 * k + (c - 1))) := by
    rw [isIn0, isIn0]
    omega
  refine ok_grd ⟨fun _ => by unfold InR; omega, fun _ => by omega, fun _ => by omega, fun _ => by unfold InR; omega, fun _ => by omega, fun _ => by omega⟩ (ok_ltv (wp_bq2 (wp_isThrownI (fun q => absurd q no) (fun _ => ok_ite (fun q => absurd rfl q) (fun _ => ?_)))))
  try dsimp only
  simp only [show setM m2 0 0 0 6 k = c by rw [setM_ne (by omega), f2 6 k (by omega)]; exact hc]
  refine wp_bq2 (wp_isThrownI (fun q => by exfalso; omega) (fun _ => ok_ite (fun q => absurd rfl q) (fun _ => ?_)))
  try dsimp only
  obtain ⟨m4, hm4⟩ : ∃ m4, m4 = setM (setM m2 0 0 0) 0 0 0 := ⟨_, rfl⟩
  rw [← hm4, e88]
  have f4 : ∀ c i, ¬ (c = 0 ∧ i = 0) → m4 c i = mm c i := fun c i q => by rw [hm4, setM_ne q, setM_ne q]; exact f2 c i q
  have z4 : m4 0 0 = 0 := by rw [hm4, setM_same]
  refine ok_grd (by omega) (ok_ltv (ok_ltv (ok_ltv ?_)))
  have e6 : ∀ a b d, setM (setM (setM m4 7 (8 * k + c) a) 8 (8 * k + c) b) 9 (8 * k + c) d 6 k = c := fun a b d => by rw [setM_ne (by omega), setM_ne (by omega), setM_ne (by omega), f4 6 k (by omega)]; exact hc
  rw [e6]
  refine ok_grd (by unfold InR; omega) (ok_ltv (ok_some ⟨?_, ?_, ?_, ?_, ?_, ?_, fun c' i q1 q2 q3 => ?_⟩))
  · try dsimp only
    simp (disch := omega) only [setM_ne, setM_hit, true_and, and_true]
    exact z4
  · try dsimp only
    rw [setM_same]; omega
  · try dsimp only
    rw [setM_same]; omega
  · try dsimp only
    simp (disch := omega) only [setM_ne, setM_hit]
  · try dsimp only
    simp (disch := omega) only [setM_ne, setM_hit]
  · try dsimp only
    simp (disch := omega) only [setM_ne, setM_hit]
  · try dsimp only
    simp (disch := omega) only [setM_ne]
    exact f4 c' i q1
end MUT
