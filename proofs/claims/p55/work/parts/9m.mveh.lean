/-! ===== the reference's vehicles ===== -/
section MVE
variable {mc mm m m0 : Mem} {day : Int}
theorem sI_neg {f : Nat → Int} : ∀ n : Nat, sI (fun k => - f k) n = - sI f n := by
  intro n
  induction n with
  | zero => rfl
  | succ n ih => simp only [sI]; rw [ih]; omega
theorem sI_ins {a b : Nat → Int} {p : Nat} {t : Int} {G : Int → Int} : ∀ {n : Nat}, p ≤ n → (∀ i, i < p → b i = a i) → b p = t → (∀ i, p ≤ i → i < n → b (i + 1) = a i) → sI (fun j => G (b j)) (n + 1) = sI (fun j => G (a j)) n + G t := by
  intro n
  induction n with
  | zero =>
    intro h1 _ h3 _
    have : p = 0 := by omega
    rw [this] at h3
    simp only [sI]
    rw [h3]
  | succ n ih =>
    intro h1 h2 h3 h4
    by_cases hp : p = n + 1
    · show sI (fun j => G (b j)) (n + 1) + G (b (n + 1)) = _
      rw [← hp, h3, hp]
      congr 1
      exact sI_congr (fun j hj => by rw [h2 j (by omega)])
    · show sI (fun j => G (b j)) (n + 1) + G (b (n + 1)) = sI (fun j => G (a j)) n + G (a n) + G t
      rw [ih (by omega) h2 h3 (fun i x y => h4 i x (by omega)), h4 n (by omega) (by omega)]
      omega
theorem alenM32 : alen SHM 32 = 24 := by rfl
theorem alenM33 : alen SHM 33 = 24 := by rfl
theorem put_ok {s n : Nat} {t : Int} (hs : alen SHM s = 24) (hn : n < 24) : Ok (M_put s n t m0) (fun r => r.1 = (n : Int) + 1 ∧ (∀ c i, ¬ c = s → r.2 c i = m0 c i) ∧ (SoI (m0 s) 0 n → SoI (r.2 s) 0 (n + 1)) ∧ (∀ G : Int → Int, sI (fun j => G (r.2 s j)) (n + 1) = sI (fun j => G (m0 s j)) n + G t) ∧ ∀ i, i < n + 1 → r.2 s i = t ∨ ∃ j, j < n ∧ r.2 s i = m0 s j) := by
  unfold M_put
  rw [hs]
  refine ok_ltv (ok_bq2 (Q := fun (x : Int × Mem) => ∃ p : Nat, x.1 = p ∧ p ≤ n ∧ (∀ c i, ¬ c = s → x.2 c i = m0 c i) ∧ (∀ i, i < p → x.2 s i = m0 s i) ∧ (∀ i, p ≤ i → i < n → x.2 s (i + 1) = m0 s i ∧ t < m0 s i) ∧ (0 < p → m0 s (p - 1) ≤ t)) ?_ (fun _ m h => ?_))
  · refine ok_loop (fun x => ∃ p : Nat, x.1 = p ∧ p ≤ n ∧ (∀ c i, ¬ c = s → x.2 c i = m0 c i) ∧ (∀ i, i < p → x.2 s i = m0 s i) ∧ ∀ i, p ≤ i → i < n → x.2 s (i + 1) = m0 s i ∧ t < m0 s i) (fun x => x.1.toNat) ⟨n, rfl, Nat.le_refl _, fun _ _ _ => rfl, fun _ _ => rfl, fun i h1 h2 => by omega⟩ ?_
    rintro ⟨pp, m⟩ ⟨p, a1, a2, a3, a4, a5⟩
    dsimp only at a1 a3 a4 a5 ⊢
    subst a1
    unfold M_put_b1
    rw [hs]
    by_cases hp : p = 0
    · subst hp
      refine ok_grd (by omega) (ok_ite (fun h => by omega) (fun h => ok_some ⟨0, rfl, by omega, a3, a4, a5, fun h => by omega⟩))
    · have e : ((p : Int) - 1).toNat = p - 1 := by omega
      rw [e, a4 (p - 1) (by omega)]
      refine ok_grd (by unfold InR; omega) (ok_ite (fun h => ok_grd (by unfold InR; omega) (ok_ltv (ok_ltv (ok_some ⟨⟨p - 1, by dsimp only; omega, by omega, fun c i hc => ?_, fun i hi => ?_, fun i h1 h2 => ?_⟩, by dsimp only; omega⟩)))) (fun h => ok_some ⟨p, rfl, a2, a3, a4, a5, fun _ => by omega⟩))
      · dsimp only
        rw [setM_ne (fun q => hc q.1)]
        exact a3 c i hc
      · dsimp only
        rw [setM_ne (by omega)]
        exact a4 i (by omega)
      · dsimp only
        by_cases hip : i = p - 1
        · rw [hip, setM_hit ⟨rfl, by omega⟩]
          exact ⟨rfl, h.2⟩
        · rw [setM_ne (by omega)]
          exact a5 i (by omega) h2
  · dsimp only at h
    obtain ⟨p, rfl, a2, a3, a4, a5, a6⟩ := h
    rw [Int.toNat_natCast]
    obtain ⟨b, hb⟩ : ∃ b, b = setM m s p t := ⟨_, rfl⟩
    have b1 : ∀ i, i < p → b s i = m0 s i := fun i hi => by rw [hb, setM_ne (by omega)]; exact a4 i hi
    have b2 : b s p = t := by rw [hb, setM_same]
    have b3 : ∀ i, p ≤ i → i < n → b s (i + 1) = m0 s i := fun i h1 h2 => by rw [hb, setM_ne (by omega)]; exact (a5 i h1 h2).1
    have b4 : ∀ i, p < i → i < n + 1 → b s i = m0 s (i - 1) := fun i h1 h2 => by
      have := b3 (i - 1) (by omega) (by omega)
      rw [show i - 1 + 1 = i by omega] at this
      exact this
    rw [← hb]
    refine ok_grd (by omega) (ok_ltv (ok_grd (by unfold InR; omega) (ok_some ⟨rfl, fun c i hc => ?_, fun so i j h1 h2 h3 => ?_, fun G => sI_ins a2 b1 b2 b3, fun i hi => ?_⟩)))
    · dsimp only
      rw [hb, setM_ne (fun q => hc q.1)]
      exact a3 c i hc
    · dsimp only
      by_cases hi : i < p
      · rw [b1 i hi]
        by_cases hj : j < p
        · rw [b1 j hj]
          exact so i j h1 h2 (by omega)
        · by_cases hj2 : j = p
          · rw [hj2, b2]
            have := a6 (by omega)
            have := so i (p - 1) h1 (by omega) (by omega)
            omega
          · rw [b4 j (by omega) h3]
            exact so i (j - 1) h1 (by omega) (by omega)
      · by_cases hi2 : i = p
        · rw [hi2, b2]
          by_cases hj2 : j = p
          · rw [hj2, b2]; exact Int.le_refl _
          · rw [b4 j (by omega) h3]
            have := (a5 (j - 1) (by omega) (by omega)).2
            omega
        · rw [b4 i (by omega) (by omega), b4 j (by omega) h3]
          exact so (i - 1) (j - 1) (by omega) (by omega) (by omega)
    · dsimp only
      by_cases h1 : i < p
      · exact Or.inr ⟨i, by omega, b1 i h1⟩
      · by_cases h2 : i = p
        · rw [h2]; exact Or.inl b2
        · exact Or.inr ⟨i - 1, by omega, b4 i (by omega) hi⟩
theorem runs_ok {t : Nat} (I : Inv mc mm) (hd : 0 ≤ day ∧ day ≤ 27) (ht : (t : Int) < mc 31 0) : Ok (M_runs t day mm) (fun z => z = bit (mc 30 (mc 32 t).toNat) day.toNat) := by
  have sv := Inv_sv I (t := t) (by omega) ht
  have g := IT_get I.2.2.1 (t := t) (by omega) ht
  have tt := CI_t ⟨_, I⟩
  have eb := IV_getd I.2.1 (s := mc 32 t) (d := day) (by rw [Int.toNat_natCast] at sv; omega) (by rw [Int.toNat_natCast] at sv; omega) hd.1 (by omega)
  have z := bit_01 (mc 30 (mc 32 t).toNat) day.toNat
  unfold M_runs
  simp only [Int.toNat_natCast] at g sv ⊢
  rw [g.1, eb]
  exact ok_grd (by unfold InR; omega) (ok_some rfl)
theorem cnt_iff {a : Nat → Int} {t : Int} : ∀ {n : Nat}, SoI a 0 n → (0 ≤ sI (fun i => if a i ≤ t then 1 else 0) n ∧ sI (fun i => if a i ≤ t then 1 else 0) n ≤ n) ∧ ∀ i : Nat, i < n → (a i ≤ t ↔ (i : Int) < sI (fun i => if a i ≤ t then 1 else 0) n) := by
  intro n
  induction n with
  | zero => intro _; exact ⟨⟨Int.le_refl _, Int.le_refl _⟩, fun i hi => by omega⟩
  | succ n ih =>
    intro s
    have ih := ih (fun i j h1 h2 h3 => s i j h1 h2 (by omega))
    by_cases h : a n ≤ t
    · have all : ∀ i, i < n + 1 → a i ≤ t := fun i hi => by
        have := s i n (by omega) (by omega) (by omega)
        omega
      have e : sI (fun i => if a i ≤ t then 1 else 0) (n + 1) = ((n + 1 : Nat) : Int) := by
        rw [← sI_one (n + 1)]
        exact sI_congr (fun i hi => if_pos (all i hi))
      rw [e]
      exact ⟨by omega, fun i hi => ⟨fun _ => by omega, fun _ => all i hi⟩⟩
    · have e : sI (fun i => if a i ≤ t then 1 else 0) (n + 1) = sI (fun i => if a i ≤ t then 1 else 0) n := by
        show sI (fun i => if a i ≤ t then 1 else 0) n + (if a n ≤ t then 1 else 0) = _
        rw [if_neg h]
        omega
      rw [e]
      refine ⟨by omega, fun i hi => ?_⟩
      by_cases hin : i = n
      · rw [hin]
        exact ⟨fun q => absurd q h, fun q => by omega⟩
      · exact ih.2 i (by omega)
/-- the greedy count over sorted beginnings and ends -/
theorem greedy_ok {nb ne : Nat} {many : Int} (b24 : nb ≤ 24) (e24 : ne ≤ 24) (hm : 0 ≤ many ∧ many ≤ 100000) (sB : SoI (m 33) 0 nb) (sE : SoI (m 32) 0 ne) (bB : ∀ i, i < nb → 0 ≤ m 33 i ∧ m 33 i ≤ 2879) (bE : ∀ i, i < ne → 0 ≤ m 32 i ∧ m 32 i ≤ 2879) : Ok (loop (fun s => M_vehicles_b3 nb ne m s.1 s.2.1 s.2.2) (many, (0 : Int), (0 : Int))) (fun r => ∃ x : Int, r.1 = many + x ∧ x ≤ 24 ∧ DefP (fun t => sI (fun i => if m 33 i ≤ t then 1 else 0) nb - sI (fun i => if m 32 i + 5 ≤ t then 1 else 0) ne) x) := by
  have sE5 : SoI (fun i => m 32 i + 5) 0 ne := fun i j h1 h2 h3 => by
    have := sE i j h1 h2 h3
    dsimp only
    omega
  refine ok_loop (fun s => ∃ (x : Int) (nx k : Nat), s.1 = many + x ∧ s.2.1 = nx ∧ s.2.2 = k ∧ k ≤ nb ∧ 0 ≤ x ∧ (nx : Int) + x = k ∧ nx ≤ ne ∧ (∀ i, i < nx → ∀ j, k ≤ j + 1 → j < nb → m 32 i + 5 ≤ m 33 j) ∧ (∀ j : Nat, j < k → (j : Int) + 1 - sI (fun i => if m 32 i + 5 ≤ m 33 j then 1 else 0) ne ≤ x) ∧ (x ≤ 0 ∨ ∃ j : Nat, j < k ∧ x ≤ (j : Int) + 1 - sI (fun i => if m 32 i + 5 ≤ m 33 j then 1 else 0) ne)) (fun s => nb - s.2.2.toNat) ⟨0, 0, 0, by dsimp only; omega, rfl, rfl, Nat.zero_le _, Int.le_refl _, by omega, Nat.zero_le _, fun i h => by omega, fun j h => by omega, Or.inl (Int.le_refl _)⟩ ?_
  rintro ⟨mn, nn, kk⟩ ⟨x, nx, k, a1, a2, a3, a4, a5, a6, a7, a8, a9, a10⟩
  dsimp only at a1 a2 a3 ⊢
  subst a1
  subst a2
  subst a3
  unfold M_vehicles_b3
  refine ok_ite (fun hk => ?_) (fun hk => ok_some ⟨x, rfl, by omega, a5, fun t => ?_, ?_⟩)
  · have bk := bB k (by omega)
    have ce := cnt_iff (t := m 33 k) sE5
    have keep : ∀ x', x ≤ x' → (k : Int) + 1 - sI (fun i => if m 32 i + 5 ≤ m 33 k then 1 else 0) ne ≤ x' → ∀ j : Nat, j < k + 1 → (j : Int) + 1 - sI (fun i => if m 32 i + 5 ≤ m 33 j then 1 else 0) ne ≤ x' := by
      intro x' g1 g2 j hj
      by_cases hjk : j = k
      · rw [hjk]; exact g2
      · have := a9 j (by omega); omega
    have nle : (nx : Int) ≤ sI (fun i => if m 32 i + 5 ≤ m 33 k then 1 else 0) ne := by
      by_cases h0 : nx = 0
      · have := ce.1.1
        omega
      · have := (ce.2 (nx - 1) (by omega)).mp (a8 (nx - 1) (by omega) k (by omega) (by omega))
        omega
    simp only [Int.toNat_natCast]
    refine ok_grd ⟨fun h => by omega, fun h => by omega, fun h => by have := bE nx (by omega); unfold InR; omega, fun _ => by omega, fun _ => by omega⟩ (ok_ite (fun h => ok_grd (by unfold InR; omega) (ok_ltv (ok_grd (by unfold InR; omega) (ok_ltv (ok_some ⟨⟨x, nx + 1, k + 1, rfl, by dsimp only; omega, by dsimp only; omega, by omega, a5, by omega, by omega, fun i hi j h1 h2 => ?_, keep x (Int.le_refl _) ?_, ?_⟩, by dsimp only; omega⟩))))) (fun h => ok_grd (by unfold InR; omega) (ok_ltv (ok_grd (by unfold InR; omega) (ok_ltv (ok_some ⟨⟨x + 1, nx, k + 1, by dsimp only; omega, rfl, by dsimp only; omega, by omega, by omega, by omega, a7, fun i hi j h1 h2 => a8 i hi j (by omega) h2, keep (x + 1) (by omega) ?_, Or.inr ⟨k, by omega, ?_⟩⟩, by dsimp only; omega⟩))))))
    · by_cases hin : i = nx
      · rw [hin]
        have := sB k j (by omega) (by omega) h2
        omega
      · exact a8 i (by omega) j (by omega) h2
    · have := (ce.2 nx (by omega)).mp h.2
      omega
    · rcases a10 with z | ⟨j, j1, j2⟩
      · exact Or.inl z
      · exact Or.inr ⟨j, by omega, j2⟩
    · omega
    · have : ¬ (nx : Int) < sI (fun i => if m 32 i + 5 ≤ m 33 k then 1 else 0) ne := by
        intro q
        have hx : nx < ne := by have := ce.1.2; omega
        exact h ⟨by omega, (ce.2 nx hx).mpr q⟩
      omega
  · have kb : k = nb := by omega
    have cb := cnt_iff (t := t) sB
    have ce := cnt_iff (t := t) sE5
    dsimp only at ce ⊢
    by_cases h0 : sI (fun i => if m 33 i ≤ t then 1 else 0) nb = 0
    · omega
    · obtain ⟨j, hj⟩ : ∃ j : Nat, (j : Int) + 1 = sI (fun i => if m 33 i ≤ t then 1 else 0) nb := ⟨(sI (fun i => if m 33 i ≤ t then 1 else 0) nb - 1).toNat, by omega⟩
      have hjn : j < nb := by omega
      have le := (cb.2 j hjn).mpr (by omega)
      have y := a9 j (by omega)
      have mono : sI (fun i => if m 32 i + 5 ≤ m 33 j then 1 else 0) ne ≤ sI (fun i => if m 32 i + 5 ≤ t then 1 else 0) ne := sI_le (fun i hi => by split <;> split <;> omega)
      omega
  · rcases a10 with z | ⟨j, j1, j2⟩
    · exact Or.inl z
    · right
      refine ⟨m 33 j, ?_⟩
      have cb := cnt_iff (t := m 33 j) sB
      have := (cb.2 j (by omega)).mp (Int.le_refl _)
      dsimp only
      omega
theorem vehM_ok (I : Inv mc mm) (hd : 0 ≤ day ∧ day ≤ 27) (e0 : mm 0 0 = 0) : Ok (loop (fun s => M_vehicles_b1 day s.1 s.2.1 s.2.2) ((0 : Int), (0 : Int), mm)) (fun r => (∀ c i, ¬ (c = 32 ∨ c = 33) → r.2.2 c i = mm c i) ∧ ∃ x : Nat → Int, (∀ v, v < nC mc → DefP (Dv mc day v) (x v)) ∧ r.1 = sI x (nC mc)) := by
  have CI0 : CI mc := ⟨_, I⟩
  have nn := CI_n CI0
  have tt := CI_t CI0
  refine ok_loop (fun r => ∃ k : Nat, r.2.1 = k ∧ k ≤ nC mc ∧ 0 ≤ r.1 ∧ r.1 ≤ 24 * k ∧ (∀ c i, ¬ (c = 32 ∨ c = 33) → r.2.2 c i = mm c i) ∧ ∃ x : Nat → Int, (∀ v, v < k → DefP (Dv mc day v) (x v)) ∧ r.1 = sI x k) (fun r => nC mc - r.2.1.toNat) ⟨0, rfl, Nat.zero_le _, Int.le_refl _, Int.le_refl _, fun _ _ _ => rfl, fun _ => 0, fun v h => by omega, rfl⟩ ?_
  rintro ⟨s, vv, m⟩ ⟨v, a1, a2, a3, a4, a5, x, a6, a7⟩
  dsimp only at a1 a3 a4 a5 a7 ⊢
  subst a1
  have f01 : m 0 1 = nC mc := by
    rw [a5 0 1 (by omega), I.1.1]
    exact nn.1
  unfold M_vehicles_b1
  rw [f01]
  refine ok_ite (fun hv => ok_ltv (ok_ltv (ok_ltv (ok_bq4 (Q := fun (y : Int × Int × Int × Mem) => ∃ nb ne : Nat, y.1 = nb ∧ y.2.1 = ne ∧ nb ≤ 24 ∧ ne ≤ 24 ∧ (∀ c i, ¬ (c = 32 ∨ c = 33) → y.2.2.2 c i = mm c i) ∧ SoI (y.2.2.2 33) 0 nb ∧ SoI (y.2.2.2 32) 0 ne ∧ (∀ i, i < nb → 0 ≤ y.2.2.2 33 i ∧ y.2.2.2 33 i ≤ 2879) ∧ (∀ i, i < ne → 0 ≤ y.2.2.2 32 i ∧ y.2.2.2 32 i ≤ 2879) ∧ (∀ G : Int → Int, sI (fun j => G (y.2.2.2 33 j)) nb = sI (fun t => if bit (mc 30 (mc 32 t).toNat) day.toNat = 1 ∧ mc (35 + t) 0 = v then G (mc (85 + t) 0) else 0) (mc 31 0).toNat) ∧ ∀ G : Int → Int, sI (fun j => G (y.2.2.2 32 j)) ne = sI (fun t => if bit (mc 30 (mc 32 t).toNat) day.toNat = 1 ∧ mc (35 + t) (lsT mc t) = v then G (mc (60 + t) (lsT mc t)) else 0) (mc 31 0).toNat) ?_ (fun fb fe _ m8 h => ?_))))) (fun hv => ok_some ?_)
  · refine ok_loop (fun y => ∃ nb ne k : Nat, y.1 = nb ∧ y.2.1 = ne ∧ y.2.2.1 = k ∧ (k : Int) ≤ mc 31 0 ∧ nb ≤ k ∧ ne ≤ k ∧ (∀ c i, ¬ (c = 32 ∨ c = 33) → y.2.2.2 c i = mm c i) ∧ SoI (y.2.2.2 33) 0 nb ∧ SoI (y.2.2.2 32) 0 ne ∧ (∀ i, i < nb → 0 ≤ y.2.2.2 33 i ∧ y.2.2.2 33 i ≤ 2879) ∧ (∀ i, i < ne → 0 ≤ y.2.2.2 32 i ∧ y.2.2.2 32 i ≤ 2879) ∧ (∀ G : Int → Int, sI (fun j => G (y.2.2.2 33 j)) nb = sI (fun t => if bit (mc 30 (mc 32 t).toNat) day.toNat = 1 ∧ mc (35 + t) 0 = v then G (mc (85 + t) 0) else 0) k) ∧ ∀ G : Int → Int, sI (fun j => G (y.2.2.2 32 j)) ne = sI (fun t => if bit (mc 30 (mc 32 t).toNat) day.toNat = 1 ∧ mc (35 + t) (lsT mc t) = v then G (mc (60 + t) (lsT mc t)) else 0) k) (fun y => (mc 31 0 - y.2.2.1).toNat) ⟨0, 0, 0, rfl, rfl, rfl, by omega, Nat.le_refl _, Nat.le_refl _, a5, fun i j h1 h2 h3 => by omega, fun i j h1 h2 h3 => by omega, fun i h => by omega, fun i h => by omega, fun _ => rfl, fun _ => rfl⟩ ?_
    rintro ⟨zb, ze, kk, m3⟩ ⟨nb, ne, k, b1, b2, b3, b4, b5, b6, b7, b8, b9, b10, b11, b12, b13⟩
    dsimp only at b1 b2 b3 b7 b8 b9 b10 b11 b12 b13 ⊢
    subst b1
    subst b2
    subst b3
    have J3 : Inv mc m3 := Inv_fr I (fun _ _ _ => rfl) (fun c i q => b7 c i (by unfold pM at q; omega))
    have e8 : m3 0 8 = mc 31 0 := J3.2.2.1.1
    unfold M_vehicles_b2
    rw [e8]
    refine ok_ite (fun hk => ok_bind (runs_ok J3 hd hk) (fun z hz => ?_)) (fun hk => ok_some ?_)
    · have g := IT_get J3.2.2.1 (t := k) (by omega) hk
      rw [Int.toNat_natCast] at g
      have c0 := IT_getc J3.2.2.1 (t := k) (c := 0) (by omega) hk (by omega) (by rw [Int.toNat_natCast]; omega)
      have els : mc 33 k - 1 = lsT mc k := by unfold lsT; omega
      have c1 := IT_getc J3.2.2.1 (t := k) (c := lsT mc k) (by omega) hk (by omega) (by rw [Int.toNat_natCast]; omega)
      simp only [Int.toNat_natCast, Int.add_zero] at c0 c1
      have b01 := bit_01 (mc 30 (mc 32 k).toNat) day.toNat
      refine ok_ite (fun hz1 => ?_) (fun hz1 => ok_grd (by unfold InR; omega) (ok_ltv (ok_some ⟨⟨nb, ne, k + 1, rfl, rfl, by dsimp only; omega, by omega, by omega, by omega, b7, b8, b9, b10, b11, fun G => ?_, fun G => ?_⟩, by dsimp only; omega⟩)))
      · have hb : bit (mc 30 (mc 32 k).toNat) day.toNat = 1 := by omega
        have t0 : (0 : Int).toNat = 0 := rfl
        rw [t0] at c0
        rw [c0.1, c0.2.2.2.2.1]
        refine ok_grd (by unfold InR; omega) (ok_ltv ?_)
        -- behind the beginning
        have second : ∀ (nb2 : Nat) (fz : Int) (m4 : Mem), fz = nb2 → nb2 ≤ k + 1 → (∀ c i, ¬ (c = 32 ∨ c = 33) → m4 c i = mm c i) → (∀ i, m4 32 i = m3 32 i) → SoI (m4 33) 0 nb2 → (∀ i, i < nb2 → 0 ≤ m4 33 i ∧ m4 33 i ≤ 2879) → (∀ G : Int → Int, sI (fun j => G (m4 33 j)) nb2 = sI (fun t => if bit (mc 30 (mc 32 t).toNat) day.toNat = 1 ∧ mc (35 + t) 0 = v then G (mc (85 + t) 0) else 0) (k + 1)) → Ok (ltv fz fun begin_3 => ltv (fun (v_4 : Int) (m_6 : Mem) => ltv (v_4 : Int) fun end_3 => grd (InR ((k : Int) + 1)) <| ltv ((k : Int) + 1) fun t_4 => some (Sum.inl (begin_3, end_3, t_4, m_6) : (Int × Int × Int × Mem) ⊕ (Int × Int × Int × Mem))) fun kj_2 => (M_endStop k m4).bind fun r_4 => if r_4 = v then grd (InR (8 * (k : Int)) ∧ 0 ≤ (k : Int) ∧ (k : Int) < 24 ∧ InR (8 * (k : Int) + m4 6 ((k : Int)).toNat) ∧ InR (8 * (k : Int) + m4 6 ((k : Int)).toNat - 1) ∧ 0 ≤ 8 * (k : Int) + m4 6 ((k : Int)).toNat - 1 ∧ 8 * (k : Int) + m4 6 ((k : Int)).toNat - 1 < 192) <| bq2 (M_put 32 ne (m4 8 (8 * (k : Int) + m4 6 ((k : Int)).toNat - 1).toNat) m4) fun r_5 m_7 => kj_2 r_5 m_7 else kj_2 ne m4) (fun w => ∃ y : Int × Int × Int × Mem, w = .inl y ∧ (∃ nb ne k : Nat, y.1 = nb ∧ y.2.1 = ne ∧ y.2.2.1 = k ∧ (k : Int) ≤ mc 31 0 ∧ nb ≤ k ∧ ne ≤ k ∧ (∀ c i, ¬ (c = 32 ∨ c = 33) → y.2.2.2 c i = mm c i) ∧ SoI (y.2.2.2 33) 0 nb ∧ SoI (y.2.2.2 32) 0 ne ∧ (∀ i, i < nb → 0 ≤ y.2.2.2 33 i ∧ y.2.2.2 33 i ≤ 2879) ∧ (∀ i, i < ne → 0 ≤ y.2.2.2 32 i ∧ y.2.2.2 32 i ≤ 2879) ∧ (∀ G : Int → Int, sI (fun j => G (y.2.2.2 33 j)) nb = sI (fun t => if bit (mc 30 (mc 32 t).toNat) day.toNat = 1 ∧ mc (35 + t) 0 = v then G (mc (85 + t) 0) else 0) k) ∧ ∀ G : Int → Int, sI (fun j => G (y.2.2.2 32 j)) ne = sI (fun t => if bit (mc 30 (mc 32 t).toNat) day.toNat = 1 ∧ mc (35 + t) (lsT mc t) = v then G (mc (60 + t) (lsT mc t)) else 0) k) ∧ (mc 31 0 - y.2.2.1).toNat < (mc 31 0 - k).toNat) := by
          intro nb2 fz m4 d0 d1 d2 d3 d4 d5 d6
          subst d0
          have J4 : Inv mc m4 := Inv_fr I (fun _ _ _ => rfl) (fun c i q => d2 c i (by unfold pM at q; omega))
          have g4 := IT_get J4.2.2.1 (t := k) (by omega) hk
          rw [Int.toNat_natCast] at g4
          have c4 := IT_getc J4.2.2.1 (t := k) (c := lsT mc k) (by omega) hk (by omega) (by rw [Int.toNat_natCast]; omega)
          simp only [Int.toNat_natCast] at c4
          have ei : (8 * (k : Int) + mc 33 k - 1).toNat = (8 * (k : Int) + (lsT mc k : Int)).toNat := by omega
          unfold M_endStop
          rw [Int.toNat_natCast, g4.2.2.2.1, ei, c4.1, c4.2.2.2.1]
          refine ok_ltv (ok_ltv (ok_bind (ok_grd (by unfold InR; omega) (ok_some rfl)) (fun r4 hr4 => ?_)))
          have hr : r4 = mc (35 + k) (lsT mc k) := hr4.symm
          subst hr
          refine ok_ite (fun hh => ok_grd (by unfold InR; omega) (ok_bq2 (put_ok alenM32 (by omega)) (fun r m7 hp => ok_ltv (ok_grd (by unfold InR; omega) (ok_ltv (ok_some ?_)))))) (fun hh => ok_ltv (ok_grd (by unfold InR; omega) (ok_ltv (ok_some ?_))))
          · dsimp only at hp
            obtain ⟨p1, p2, p3, p4, p5⟩ := hp
            have r32 : m4 32 = m3 32 := funext d3
            rw [r32] at p3 p4 p5
            have r33 : m7 33 = m4 33 := funext fun i => p2 33 i (by omega)
            refine ⟨_, rfl, ⟨nb2, ne + 1, k + 1, rfl, by dsimp only; omega, by dsimp only; omega, by omega, d1, by omega, fun c i h => ?_, by dsimp only; rw [r33]; exact d4, p3 b9, by dsimp only; rw [r33]; exact d5, fun i hi => ?_, by dsimp only; rw [r33]; exact d6, fun G => ?_⟩, by dsimp only; omega⟩
            · dsimp only
              rw [p2 c i (by omega)]
              exact d2 c i h
            · dsimp only
              rcases p5 i hi with q | ⟨j, j1, j2⟩
              · rw [q]; omega
              · rw [j2]
                exact b11 j j1
            · dsimp only
              rw [p4 G, b13 G]
              dsimp only [sI]
              rw [if_pos ⟨hb, hh⟩]
          · refine ⟨_, rfl, ⟨nb2, ne, k + 1, rfl, rfl, by dsimp only; omega, by omega, d1, by omega, d2, d4, ?_, d5, fun i hi => ?_, d6, fun G => ?_⟩, by dsimp only; omega⟩
            · dsimp only
              rw [show m4 32 = m3 32 from funext d3]
              exact b9
            · dsimp only
              rw [d3]
              exact b11 i hi
            · dsimp only
              rw [show m4 32 = m3 32 from funext d3, b13 G]
              dsimp only [sI]
              rw [if_neg (fun q => hh q.2)]
              omega
        refine ok_ite (fun hh => ok_bq2 (put_ok alenM33 (by omega)) (fun r m5 hp => ?_)) (fun hh => ?_)
        · dsimp only at hp
          obtain ⟨p1, p2, p3, p4, p5⟩ := hp
          refine Ok.mono (second (nb + 1) r m5 (by omega) (by omega) (fun c i h => by rw [p2 c i (by omega)]; exact b7 c i h) (fun i => p2 32 i (by omega)) (p3 b8) (fun i hi => ?_) (fun G => ?_)) (fun w hw => ?_)
          · rcases p5 i hi with q | ⟨j, j1, j2⟩
            · rw [q]; omega
            · rw [j2]
              exact b10 j j1
          · rw [p4 G, b12 G]
            dsimp only [sI]
            rw [if_pos ⟨hb, hh⟩]
          · obtain ⟨y, rfl, y1, y2⟩ := hw
            exact ⟨y1, y2⟩
        · refine Ok.mono (second nb nb m3 rfl (by omega) b7 (fun _ => rfl) b8 b10 (fun G => ?_)) (fun w hw => ?_)
          · rw [b12 G]
            dsimp only [sI]
            rw [if_neg (fun q => hh q.2)]
            omega
          · obtain ⟨y, rfl, y1, y2⟩ := hw
            exact ⟨y1, y2⟩
      · dsimp only [sI]
        rw [if_neg (by omega), b12 G]
        omega
      · dsimp only [sI]
        rw [if_neg (by omega), b13 G]
        omega
    · have : k = (mc 31 0).toNat := by omega
      rw [this] at b12 b13
      exact ⟨nb, ne, rfl, rfl, by omega, by omega, b7, b8, b9, b10, b11, b12, b13⟩
  · dsimp only at h
    obtain ⟨nb, ne, rfl, rfl, b1, b2, b3, b4, b5, b6, b7, b8, b9⟩ := h
    refine ok_ltv (ok_ltv (ok_bq3 (greedy_ok (many := s) b1 b2 (by omega) b4 b5 b6 b7) (fun many _ _ h => ok_grd (by unfold InR; omega) (ok_ltv (ok_some ?_)))))
    dsimp only at h
    obtain ⟨z, z1, z2, z3⟩ := h
    have z0 := z3.1
    have eD : (fun t => sI (fun i => if m8 33 i ≤ t then 1 else 0) nb - sI (fun i => if m8 32 i + 5 ≤ t then 1 else 0) ne) = Dv mc day v := by
      funext t
      have q1 := b8 (fun x => if x ≤ t then 1 else 0)
      have q2 := b9 (fun x => if x + 5 ≤ t then 1 else 0)
      (try dsimp only at q1 q2)
      rw [q1, q2, Int.sub_eq_add_neg, ← sI_neg, ← sI_add]
      unfold Dv sumT
      refine sI_congr (fun i hi => ?_)
      (try dsimp only)
      split <;> split <;> (try split) <;> (try split) <;> (try split) <;> (try split) <;> omega
    rw [eD] at z3
    refine ⟨⟨v + 1, by dsimp only; omega, by omega, by dsimp only; omega, by dsimp only; omega, b3, fun u => if u = v then z else x u, fun u hu => ?_, ?_⟩, by dsimp only; omega⟩
    · dsimp only
      by_cases huv : u = v
      · rw [if_pos huv, huv]; exact z3
      · rw [if_neg huv]; exact a6 u (by omega)
    · dsimp only [sI]
      rw [if_pos rfl, z1, a7]
      congr 1
      exact sI_congr (fun u hu => by rw [if_neg (by omega)])
  · have : v = nC mc := by omega
    rw [this] at a6 a7
    exact ⟨a5, x, a6, a7⟩
theorem st_vehicles : ST_vehicles Inv := by
  intro mc mm p0 I _
  have CI0 : CI mc := ⟨_, I⟩
  have n := CI_n CI0
  refine ag_of ?_
  unfold C_vehicles
  repeat' (first
    | with_reducible refine ok_ltv ?_
    | with_reducible refine ok_tbd_inl ?_
    | with_reducible refine ok_tbd_inr ?_
    | with_reducible refine wp_bind ?_
    | with_reducible refine wp_bq1 ?_
    | with_reducible refine wp_bq2 ?_
    | (with_reducible refine wp_needNumber (fun _ => ?_) (fun _ _ => ?_)) <;> (try (exfalso; omega))
    | (with_reducible refine wp_needDay (fun _ => ?_) (fun _ _ => ?_)) <;> (try (exfalso; omega))
    | (with_reducible refine wp_needStop (fun _ => ?_) (fun _ _ => ?_)) <;> (try (exfalso; omega))
    | (with_reducible refine wp_needService (fun _ => ?_) (fun _ _ => ?_)) <;> (try (exfalso; omega))
    | (with_reducible refine wp_needTrip (fun _ => ?_) (fun _ _ => ?_)) <;> (try (exfalso; omega))
    | (with_reducible refine wp_needCall (by omega) (fun _ => ?_) (fun _ _ _ _ => ?_)) <;> (try (exfalso; omega))
    | (with_reducible refine wp_needUnlike (fun _ => ?_) (fun _ => ?_)) <;> (try (exfalso; omega))
    | (with_reducible refine wp_needFound (fun _ => ?_) (fun _ => ?_)) <;> (try (exfalso; omega))
    | (with_reducible refine wp_needRoomForTrip (fun _ => ?_) (fun _ => ?_)) <;> (try (exfalso; omega))
    | (with_reducible refine wp_needRoomForSigns (by unfold InR; omega) (fun _ => ?_) (fun _ => ?_)) <;> (try (exfalso; omega))
    | (with_reducible refine wp_isNoStop (by (try simp (disch := omega) only [setM_ne, setM_hit, true_and, and_true]); omega) (by (try simp (disch := omega) only [setM_ne, setM_hit, true_and, and_true]); omega) (fun h => ?_) (fun h1 h2 => ?_)) <;> (try simp (disch := omega) only [setM_ne, setM_hit, true_and, and_true] at h) <;> (try simp (disch := omega) only [setM_ne, setM_hit, true_and, and_true] at h1) <;> (try simp (disch := omega) only [setM_ne, setM_hit, true_and, and_true] at h2) <;> (try (exfalso; omega))
    | (with_reducible refine wp_isNoService (by (try simp (disch := omega) only [setM_ne, setM_hit, true_and, and_true]); omega) (by (try simp (disch := omega) only [setM_ne, setM_hit, true_and, and_true]); omega) (fun h => ?_) (fun h1 h2 => ?_)) <;> (try simp (disch := omega) only [setM_ne, setM_hit, true_and, and_true] at h) <;> (try simp (disch := omega) only [setM_ne, setM_hit, true_and, and_true] at h1) <;> (try simp (disch := omega) only [setM_ne, setM_hit, true_and, and_true] at h2) <;> (try (exfalso; omega))
    | (with_reducible refine wp_isNoTrip (by (try simp (disch := omega) only [setM_ne, setM_hit, true_and, and_true]); omega) (by (try simp (disch := omega) only [setM_ne, setM_hit, true_and, and_true]); omega) (fun h => ?_) (fun h1 h2 => ?_)) <;> (try simp (disch := omega) only [setM_ne, setM_hit, true_and, and_true] at h) <;> (try simp (disch := omega) only [setM_ne, setM_hit, true_and, and_true] at h1) <;> (try simp (disch := omega) only [setM_ne, setM_hit, true_and, and_true] at h2) <;> (try (exfalso; omega))
    | (with_reducible refine wp_isNoDay (fun h => ?_) (fun h1 h2 => ?_)) <;> (try (exfalso; omega))
    | with_reducible refine wp_isThrown1 ?_
    | with_reducible refine wp_isThrown0 ?_
    | (with_reducible refine wp_isThrownI (fun h => ?_) (fun h => ?_)) <;> (try simp (disch := omega) only [setM_ne, setM_hit, true_and, and_true] at h) <;> (try simp only [isIn0] at h) <;> (try (exfalso; omega))
    | with_reducible refine ok_grd (by (try simp (disch := omega) only [setM_ne, setM_hit, true_and, and_true]); (try unfold InR); omega) ?_
    | (with_reducible refine ok_some ?_) <;> (try dsimp only)
    | (with_reducible refine ok_ite (fun h => ?_) (fun h => ?_)) <;> (try dsimp only at h) <;> (try simp (disch := omega) only [setM_ne, setM_hit, true_and, and_true] at h) <;> (try simp only [isIn0, i01] at h) <;> (try (exfalso; first | exact h trivial | omega)))
  · unfold M_vehicles
    repeat' (first
    | with_reducible refine ok_ltv ?_
    | with_reducible refine ok_tbd_inl ?_
    | with_reducible refine ok_tbd_inr ?_
    | with_reducible refine wp_bind ?_
    | with_reducible refine wp_bq1 ?_
    | with_reducible refine wp_bq2 ?_
    | (with_reducible refine wp_needNumber (fun _ => ?_) (fun _ _ => ?_)) <;> (try (exfalso; omega))
    | (with_reducible refine wp_needDay (fun _ => ?_) (fun _ _ => ?_)) <;> (try (exfalso; omega))
    | (with_reducible refine wp_needStop (fun _ => ?_) (fun _ _ => ?_)) <;> (try (exfalso; omega))
    | (with_reducible refine wp_needService (fun _ => ?_) (fun _ _ => ?_)) <;> (try (exfalso; omega))
    | (with_reducible refine wp_needTrip (fun _ => ?_) (fun _ _ => ?_)) <;> (try (exfalso; omega))
    | (with_reducible refine wp_needCall (by omega) (fun _ => ?_) (fun _ _ _ _ => ?_)) <;> (try (exfalso; omega))
    | (with_reducible refine wp_needUnlike (fun _ => ?_) (fun _ => ?_)) <;> (try (exfalso; omega))
    | (with_reducible refine wp_needFound (fun _ => ?_) (fun _ => ?_)) <;> (try (exfalso; omega))
    | (with_reducible refine wp_needRoomForTrip (fun _ => ?_) (fun _ => ?_)) <;> (try (exfalso; omega))
    | (with_reducible refine wp_needRoomForSigns (by unfold InR; omega) (fun _ => ?_) (fun _ => ?_)) <;> (try (exfalso; omega))
    | (with_reducible refine wp_isNoStop (by (try simp (disch := omega) only [setM_ne, setM_hit, true_and, and_true]); omega) (by (try simp (disch := omega) only [setM_ne, setM_hit, true_and, and_true]); omega) (fun h => ?_) (fun h1 h2 => ?_)) <;> (try simp (disch := omega) only [setM_ne, setM_hit, true_and, and_true] at h) <;> (try simp (disch := omega) only [setM_ne, setM_hit, true_and, and_true] at h1) <;> (try simp (disch := omega) only [setM_ne, setM_hit, true_and, and_true] at h2) <;> (try (exfalso; omega))
    | (with_reducible refine wp_isNoService (by (try simp (disch := omega) only [setM_ne, setM_hit, true_and, and_true]); omega) (by (try simp (disch := omega) only [setM_ne, setM_hit, true_and, and_true]); omega) (fun h => ?_) (fun h1 h2 => ?_)) <;> (try simp (disch := omega) only [setM_ne, setM_hit, true_and, and_true] at h) <;> (try simp (disch := omega) only [setM_ne, setM_hit, true_and, and_true] at h1) <;> (try simp (disch := omega) only [setM_ne, setM_hit, true_and, and_true] at h2) <;> (try (exfalso; omega))
    | (with_reducible refine wp_isNoTrip (by (try simp (disch := omega) only [setM_ne, setM_hit, true_and, and_true]); omega) (by (try simp (disch := omega) only [setM_ne, setM_hit, true_and, and_true]); omega) (fun h => ?_) (fun h1 h2 => ?_)) <;> (try simp (disch := omega) only [setM_ne, setM_hit, true_and, and_true] at h) <;> (try simp (disch := omega) only [setM_ne, setM_hit, true_and, and_true] at h1) <;> (try simp (disch := omega) only [setM_ne, setM_hit, true_and, and_true] at h2) <;> (try (exfalso; omega))
    | (with_reducible refine wp_isNoDay (fun h => ?_) (fun h1 h2 => ?_)) <;> (try (exfalso; omega))
    | with_reducible refine wp_isThrown1 ?_
    | with_reducible refine wp_isThrown0 ?_
    | (with_reducible refine wp_isThrownI (fun h => ?_) (fun h => ?_)) <;> (try simp (disch := omega) only [setM_ne, setM_hit, true_and, and_true] at h) <;> (try simp only [isIn0] at h) <;> (try (exfalso; omega))
    | with_reducible refine ok_grd (by (try simp (disch := omega) only [setM_ne, setM_hit, true_and, and_true]); (try unfold InR); omega) ?_
    | (with_reducible refine ok_some ?_) <;> (try dsimp only)
    | (with_reducible refine ok_ite (fun h => ?_) (fun h => ?_)) <;> (try dsimp only at h) <;> (try simp (disch := omega) only [setM_ne, setM_hit, true_and, and_true] at h) <;> (try simp only [isIn0, i01] at h) <;> (try (exfalso; first | exact h trivial | omega)))
    (refine agp_er ?_ ?_ ?_); decide; (first | (rw [setM_same]; rfl) | (dsimp only; simp (disch := omega) only [setM_ne, setM_hit, true_and, and_true]; rfl))
    repeat (first | exact I | with_reducible refine Inv_thr ?_ _)
  · refine (gather_ok CI0 (by omega) (Ctx_self I)).mono (fun m1 h1 => ?_)
    obtain ⟨f1, k, k1, k2, F⟩ := h1
    have e10 : m1 1 0 = nC mc := by rw [f1 1 0 (by omega)]; exact n.1
    rw [e10]
    refine ok_bq2 (byTimes_ok CI0 k1 k2 F) (fun r m2 h2 => ok_some ?_)
    dsimp only at h2
    obtain ⟨f2, x, x1, x2⟩ := h2
    unfold M_vehicles
    refine wp_bq2 (wp_isNoDay (fun _ => by omega) (fun _ _ => ok_ite (fun q => absurd rfl q) (fun _ => ok_ltv (ok_ltv ?_))))
    refine ok_bq3 (vehM_ok (Inv_thr I 0) (by omega) (by dsimp only; exact setM_same _ _ _ _)) (fun r2 _ mm2 h3 => ok_some ?_)
    dsimp only at h3
    obtain ⟨g1, y, y1, y2⟩ := h3
    have J : Inv m2 mm2 := Inv_fr (Inv_thr I 0) (fun c i q => by rw [f2 c i (by unfold pC at q; omega), f1 c i (by unfold pC at q; omega)]) (fun c i q => g1 c i (by unfold pM at q; omega))
    refine agp_ok ?_ ?_ J
    · rw [g1 0 0 (by omega)]
      exact setM_same _ _ _ _
    · rw [x2, y2]
      exact sI_congr (fun v hv => DefP_uniq (y1 v hv) (x1 v hv))
end MVE
