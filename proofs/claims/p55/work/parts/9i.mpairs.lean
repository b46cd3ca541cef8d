/-! ===== the reference's pairs ===== -/
section PRM
variable {mc mm m m0 : Mem} {day : Int} {a b : Nat}
theorem leaveBefore_ok {z : Int} (I : CI mc) (hd : 0 ≤ day ∧ day ≤ 27) (r : RelM mc day (-1) 0 (-1) m) (ha : a < nC mc) : Ok (M_leaveBefore a z m) (fun g => -1 ≤ g ∧ (g = -1 ∨ (g < z ∧ CdB mc day a g)) ∧ ∀ x, CdB mc day a x → x < z → x ≤ g) := by
  have n := CI_n I
  have tt := CI_t I
  unfold M_leaveBefore
  refine ok_ltv (ok_ltv (ok_bq2 (Q := fun s => -1 ≤ s.1 ∧ (s.1 = -1 ∨ (s.1 < z ∧ CdB mc day a s.1)) ∧ ∀ x, CdB mc day a x → x < z → x ≤ s.1) ?_ (fun _ _ h => ok_some h)))
  refine ok_loop (fun s => ∃ q : Nat, s.2 = q ∧ q ≤ 72 ∧ -1 ≤ s.1 ∧ (s.1 = -1 ∨ (s.1 < z ∧ CdB mc day a s.1)) ∧ ∀ q' c : Nat, q' < q → isQ mc day q' → c + 1 < lenQ mc q' → 0 ≤ lvQ mc day (-1) 0 q' c → lvQ mc day (-1) 0 q' c - dg (wC mc (-1)) a (stQ mc q' c) < z → lvQ mc day (-1) 0 q' c - dg (wC mc (-1)) a (stQ mc q' c) ≤ s.1) (fun s => 72 - s.2.toNat) ⟨0, rfl, by omega, by show (-1 : Int) ≤ -1; omega, Or.inl rfl, fun q' c h => by omega⟩ ?_
  rintro ⟨g, qq⟩ ⟨q, e1, e2, b1, b2, b3⟩
  dsimp only at e1 b1 b2 b3 ⊢
  subst e1
  unfold M_leaveBefore_b1
  refine ok_ite (fun hq => ok_ltv (ok_bq2 (Q := fun s => -1 ≤ s.1 ∧ (s.1 = -1 ∨ (s.1 < z ∧ CdB mc day a s.1)) ∧ g ≤ s.1 ∧ ∀ c : Nat, isQ mc day q → c + 1 < lenQ mc q → 0 ≤ lvQ mc day (-1) 0 q c → lvQ mc day (-1) 0 q c - dg (wC mc (-1)) a (stQ mc q c) < z → lvQ mc day (-1) 0 q c - dg (wC mc (-1)) a (stQ mc q c) ≤ s.1) ?_ (fun g2 _ h => ok_grd (by unfold InR; omega) (ok_ltv (ok_some ?_))))) (fun hq => ok_some ⟨b1, b2, fun x hx hz => ?_⟩)
  · refine ok_loop (fun s => ∃ k : Nat, s.2 = k ∧ k ≤ 8 ∧ -1 ≤ s.1 ∧ (s.1 = -1 ∨ (s.1 < z ∧ CdB mc day a s.1)) ∧ g ≤ s.1 ∧ ∀ c : Nat, c < k → isQ mc day q → c + 1 < lenQ mc q → 0 ≤ lvQ mc day (-1) 0 q c → lvQ mc day (-1) 0 q c - dg (wC mc (-1)) a (stQ mc q c) < z → lvQ mc day (-1) 0 q c - dg (wC mc (-1)) a (stQ mc q c) ≤ s.1) (fun s => 8 - s.2.toNat) ⟨0, rfl, by omega, b1, b2, Int.le_refl _, fun c h => by omega⟩ ?_
    rintro ⟨g1, kk⟩ ⟨k, e3, k8, c1, c2, c3, c4⟩
    dsimp only at e3 c1 c2 c3 c4 ⊢
    subst e3
    unfold M_leaveBefore_b2
    have hq72 : q < 72 := by omega
    refine ok_bind (isRun_ok I r hq72 hd) (fun y hy => ok_ite (fun hy2 => ?_) (fun hy2 => ok_some ⟨c1, c2, c3, fun c iq => ?_⟩))
    · have iq : isQ mc day q := by
        rcases hy with hy | hy
        · exact hy.2
        · exact absurd hy.1 hy2
      have len := CI_len I iq.1
      have e6 : m 6 (q % 24) = lenQ mc q := by
        rw [(r.2.2.2.2.1 (q % 24) iq.1).2.1]
        exact len.1
      rw [tm24, Int.toNat_natCast, e6]
      refine ok_grd (by unfold InR; omega) (ok_ite (fun hk => ?_) (fun hk => ok_some ⟨c1, c2, c3, fun c iq2 hc => c4 c (by omega) iq2 hc⟩))
      have cl := CI_call I iq.1 (c := k) (by omega)
      have wb := CI_w (cut := -1) I ha cl.2.1
      have lb := qv_bd (day := day) (sh := -1) (mi := 0) I iq.1 hq72 (by omega) (c := k) (by omega)
      refine ok_bind (leavesAt_ok I r hq72 hd (by omega) iq (by omega)) (fun t ht => ok_ltv (ok_grd (by unfold InR; omega) (ok_bind (stopIn_ok I r iq (by omega)) (fun s hs => ?_))))
      subst ht
      subst hs
      have ei : (12 * (a : Int) + (stQ mc q k : Int)).toNat = 12 * a + stQ mc q k := by omega
      have ew := r.2.2.1 a (stQ mc q k) ha cl.2.1
      have db : 0 ≤ dg (wC mc (-1)) a (stQ mc q k) ∧ dg (wC mc (-1)) a (stQ mc q k) ≤ 1000000 := by unfold dg; split <;> omega
      rw [ei, ew]
      obtain ⟨X, hX⟩ : ∃ X, X = lvQ mc day (-1) 0 q k - dg (wC mc (-1)) a (stQ mc q k) := ⟨_, rfl⟩
      rw [← hX]
      refine ok_grd (by unfold InR; omega) (ok_ltv (ok_ltv (ok_ltv (ok_some ⟨⟨k + 1, by dsimp only; omega, by omega, ?_, ?_, ?_, fun c hc iq2 hc2 h0 hz => ?_⟩, by dsimp only; omega⟩))))
      · dsimp only; split <;> omega
      · dsimp only
        split
        · rename_i h
          exact Or.inr ⟨h.1.2, q, k, hq72, iq, by omega, h.1.1.1, hX⟩
        · exact c2
      · dsimp only; split <;> omega
      · dsimp only
        by_cases hck : c = k
        · rw [hck, ← hX] at hz ⊢
          rw [hck] at h0
          split <;> omega
        · have := c4 c (by omega) iq2 hc2 h0 hz
          split <;> omega
    · rcases hy with hy | hy
      · exact absurd (by omega : (1 : Int) = 0 → False) (fun h => hy2 (fun h2 => by omega))
      · exact absurd iq hy.2
  · dsimp only at h
    refine ⟨⟨q + 1, by (try dsimp only); omega, by omega, h.1, h.2.1, fun q' c hq' iq hc h0 hz => ?_⟩, by (try dsimp only); omega⟩
    (try dsimp only)
    by_cases hqq : q' = q
    · rw [hqq] at iq hc h0 hz ⊢
      exact h.2.2.2 c iq hc h0 hz
    · have := b3 q' c (by omega) iq hc h0 hz
      omega
  · obtain ⟨q', c, h1, h2, h3, h4, h5⟩ := hx
    rw [h5] at hz ⊢
    exact b3 q' c (by omega) h2 h3 h4 hz
def FrTp (m0 m : Mem) : Prop := ∀ c i, ¬ (c = 15 ∨ c = 16 ∨ c = 22 ∨ c = 23) → ¬ (c = 0 ∧ (i = 22 ∨ i = 25 ∨ i = 33)) → m c i = m0 c i
theorem tellPairs_ok {k : Nat} {lv ar : Nat → Int} (I : Inv mc mm) (hd : 0 ≤ day ∧ day ≤ 27) (ha : a < nC mc) (hb : b < nC mc) (k5 : k ≤ 504) (P : PsB mc day a b k lv ar) (E : PsE mc day a b k lv) : Ok (M_tellPairs a b day mm) (fun m => FrTp mm m ∧ m 0 33 = k ∧ ∀ i, i < k → m 22 i = lv (k - 1 - i) ∧ m 23 i = ar (k - 1 - i)) := by
  have CI0 : CI mc := ⟨_, I⟩
  have n := CI_n CI0
  unfold M_tellPairs
  have rl := relM_set (day := day) I
  refine ok_ltv (ok_ltv (ok_ltv (ok_ltv (ok_bq3 (Q := fun s => FrTp mm s.2.2 ∧ s.2.2 0 33 = k ∧ ∀ i, i < k → s.2.2 22 i = lv (k - 1 - i) ∧ s.2.2 23 i = ar (k - 1 - i)) ?_ (fun _ _ _ h => ok_some h)))))
  refine ok_loop (fun s => ∃ p : Nat, p ≤ k ∧ FrTp mm s.2.2 ∧ s.2.2 0 22 = day ∧ s.2.2 0 33 = p ∧ (∀ i, i < p → s.2.2 22 i = lv (k - 1 - i) ∧ s.2.2 23 i = ar (k - 1 - i)) ∧ s.1 ≤ 1000000 ∧ (p < k → lv (k - p - 1) < s.1) ∧ (0 < p → s.1 ≤ lv (k - p)) ∧ s.2.1 = if p = 0 then 1000000 else ar (k - p)) (fun s => s.1.toNat) ⟨0, Nat.zero_le _, fun c i h1 h2 => ?_, ?_, ?_, fun i h => by omega, Int.le_refl _, fun h => ?_, fun h => by omega, rfl⟩ ?_
  · dsimp only
    rw [setM_ne (by omega), setM_ne (by omega)]
  · dsimp only
    rw [setM_ne (by omega), setM_same]
  · dsimp only
    rw [setM_same]
    rfl
  · have p := P (k - 0 - 1) (by omega)
    have := p.2.2.2.1.2.2.1
    dsimp only
    omega
  rintro ⟨z, bs, m⟩ ⟨p, p1, f1, f2, f3, f4, f5, f6, f7, f8⟩
  dsimp only at f1 f2 f3 f4 f5 f6 f7 f8 ⊢
  have J : Inv mc m := Inv_fr I (fun _ _ _ => rfl) (fun c i q => f1 c i (by unfold pM at q; omega) (by unfold pM at q; omega))
  have rm : RelM mc day (-1) 0 (-1) m := RelM_inv J (fun _ _ _ => rfl) f2
  unfold M_tellPairs_b1
  refine ok_bind (leaveBefore_ok CI0 hd rm ha) (fun g hg => ok_ltv (ok_ite (fun hneg => ok_some ?_) (fun hneg => ?_)))
  · -- none is left
    have : p = k := by
      apply Classical.byContradiction
      intro hne
      have q := P (k - p - 1) (by omega)
      have z0 := Ps_0 P (k - p - 1) (by omega)
      rcases q.2.2.2.1.2.2.2 with w | w
      · omega
      · have := hg.2.2 _ w (f6 (by omega))
        omega
    rw [this] at f3 f4
    exact ⟨f1, f3, f4⟩
  · have gz : g < z ∧ CdB mc day a g := by
      rcases hg.2.1 with w | w
      · omega
      · exact w
    have g45 := CdB_bd CI0 ha gz.2
    refine ok_bind (begin_ok CI0 rm ha (by omega)) (fun m1 h1 => ?_)
    have r1 : RelM mc day (-1) 0 (-1) m1 := FrG_rel rm (fun c i x y => h1.1 c i x)
    have g1 : Rg (nC mc) (labM m1) := fun v hv => by
      have p := h1.2 v hv
      have q := ini_rg (N := nC mc) (w := wC mc (-1)) (CI_w0 CI0) ha (m := g) (by omega) (by omega) v hv
      omega
    refine ok_bind (settle_ok CI0 hd (by omega) r1 (und_ini (CI_w0 CI0) (by omega) h1.2) g1) (fun m2 h2 => ?_)
    have r2 : RelM mc day (-1) 0 (-1) m2 := FrG_rel r1 h2.1
    refine ok_bind (byRide_ok CI0 r2 hb h2.2.2) (fun v hv => ok_ltv (ok_ltv ?_))
    have F : FvB mc day a b g v := ⟨_, h2.2.1, hv.1⟩
    have e2 : ∀ c i, ¬ (c = 15 ∨ c = 16) → ¬ (c = 0 ∧ i = 25) → m2 c i = m c i := fun c i x y => by rw [h2.1 c i x y, h1.1 c i x]
    have e33 : m2 0 33 = p := by rw [e2 0 33 (by omega) (by omega)]; exact f3
    have e22 : m2 0 22 = day := by rw [e2 0 22 (by omega) (by omega)]; exact f2
    have T : FrTp mm m2 := fun c i x y => by rw [e2 c i (by omega) (by omega)]; exact f1 c i x y
    have rec2 : ∀ i, i < p → m2 22 i = lv (k - 1 - i) ∧ m2 23 i = ar (k - 1 - i) := fun i hi => by
      rw [e2 _ _ (by omega) (by omega), e2 _ _ (by omega) (by omega)]
      exact f4 i hi
    -- at the next pair, or between two
    have big : stB lv (k - p) ≤ g → bs ≤ v := by
      intro hst
      rw [f8]
      by_cases hp : p = 0
      · rw [if_pos hp]
        rw [hp] at hst
        obtain ⟨u, u1, u2⟩ := E
        have := Fv_mono CI0 hb u1 F hst
        omega
      · rw [if_neg hp]
        exact Fv_mono CI0 hb (P (k - p) (by omega)).1 F hst
    have hlo : p < k → lv (k - p - 1) ≤ g := fun hp => by
      rcases (P (k - p - 1) (by omega)).2.2.2.1.2.2.2 with w | w
      · omega
      · exact hg.2.2 _ w (f6 hp)
    by_cases hit : p < k ∧ g = lv (k - p - 1)
    · have q := P (k - p - 1) (by omega)
      have hv2 : v = ar (k - p - 1) := by
        have u1 := (Kv_iff (by omega) F q.2.2.2.1).mpr (by omega)
        have u2 := Fv_mono CI0 hb q.1 F (by omega)
        omega
      have hlt : v < bs := by
        rw [f8, hv2]
        by_cases hp : p = 0
        · rw [if_pos hp]; omega
        · rw [if_neg hp]
          have := (Ps_lv P (i := k - p - 1) (by omega)).2
          rw [show k - p - 1 + 1 = k - p by omega] at this
          exact this
      rw [e33]
      refine ok_ite (fun _ => ok_ltv (ok_grd (by omega) (ok_ltv ?_))) (fun h => absurd hlt h)
      rw [Int.toNat_natCast]
      obtain ⟨m3, hm3⟩ : ∃ m3, m3 = setM m2 22 p g := ⟨_, rfl⟩
      rw [← hm3]
      have e3 : m3 0 33 = p := by rw [hm3, setM_ne (by omega)]; exact e33
      rw [e3, Int.toNat_natCast]
      refine ok_grd (by omega) (ok_ltv ?_)
      obtain ⟨m4, hm4⟩ : ∃ m4, m4 = setM m3 23 p v := ⟨_, rfl⟩
      rw [← hm4]
      have e4 : m4 0 33 = p := by rw [hm4, setM_ne (by omega)]; exact e3
      rw [e4]
      refine ok_grd (by unfold InR; omega) (ok_ltv (ok_ltv (ok_some ?_)))
      obtain ⟨m5, hm5⟩ : ∃ m5, m5 = setM m4 0 33 ((p : Int) + 1) := ⟨_, rfl⟩
      rw [← hm5]
      have fr : ∀ c i, ¬ (c = 0 ∧ i = 33) → ¬ (c = 23 ∧ i = p) → ¬ (c = 22 ∧ i = p) → m5 c i = m2 c i := fun c i x1 x2 x3 => by
        rw [hm5, setM_ne x1, hm4, setM_ne x2, hm3, setM_ne x3]
      have k22 : m5 22 p = g := by rw [hm5, setM_ne (by omega), hm4, setM_ne (by omega), hm3, setM_same]
      have k23 : m5 23 p = v := by rw [hm5, setM_ne (by omega), hm4, setM_same]
      refine ⟨⟨p + 1, by omega, fun c i x y => ?_, ?_, ?_, fun i hi => ?_, by dsimp only; omega, fun hp => ?_, fun _ => ?_, ?_⟩, by dsimp only; omega⟩
      · dsimp only
        rw [fr c i (by omega) (by omega) (by omega)]
        exact T c i x y
      · dsimp only
        rw [fr _ _ (by omega) (by omega) (by omega)]
        exact e22
      · dsimp only
        rw [hm5, setM_same]
        omega
      · dsimp only
        by_cases hip : i = p
        · rw [hip, k22, k23, show k - 1 - p = k - p - 1 by omega]
          exact ⟨hit.2, hv2⟩
        · rw [fr _ _ (by omega) (by omega) (by omega), fr _ _ (by omega) (by omega) (by omega)]
          exact rec2 i (by omega)
      · dsimp only
        have := (Ps_lv P (i := k - (p + 1) - 1) (by omega)).1
        rw [show k - (p + 1) - 1 + 1 = k - p - 1 by omega] at this
        omega
      · dsimp only
        rw [show k - (p + 1) = k - p - 1 by omega]
        omega
      · dsimp only
        rw [if_neg (by omega), show k - (p + 1) = k - p - 1 by omega]
        exact hv2
    · have hst : stB lv (k - p) ≤ g := by
        unfold stB
        by_cases hp : k - p = 0
        · rw [if_pos hp]; omega
        · rw [if_neg hp]
          have := hlo (by omega)
          omega
      have nb := big hst
      refine ok_ite (fun h => by omega) (fun _ => ok_ltv (ok_some ?_))
      refine ⟨⟨p, p1, T, e22, e33, rec2, by dsimp only; omega, fun hp => ?_, fun hp => ?_, f8⟩, by dsimp only; omega⟩
      · dsimp only
        have := hlo hp
        have : g ≠ lv (k - p - 1) := fun q => hit ⟨hp, q⟩
        omega
      · dsimp only
        have := f7 hp
        omega
end PRM
