/-! ===== gains, loses ===== -/
section GAI
variable {mc mm m m0 : Mem} {day sh mi cut t : Int}
theorem arV_self {L : Lb} {a : Nat} (I : CI mc) (h : BestQ mc day sh mi cut (ini (wC mc cut) a t) L) (ha : a < nC mc) (ht : t ≤ 1000000) : arV mc day sh mi cut t a a = t := by
  rw [← arV_eq h ha]
  have u := h.1.1 a ha
  have lo := h.1.2.2 (fun _ => t, fun _ => t) ⟨fun s x s' x' r c => ?_, fun s v hs hv _ => ?_⟩ (fun v hv => ?_) a ha
  · unfold aR
    simp only [ini, if_true] at u lo ⊢
    omega
  · obtain ⟨q, c1, c2, h1, h2, h3, h4, h5, h6, h7, h8, h9, h10⟩ := r
    have b := qv_lt (day := day) (sh := sh) (mi := mi) I h2.1 h3 h4
    have k := CI_call I h2.1 (show c1 < lenQ mc q by omega)
    have g := CI_g I k.2.1
    unfold can at c
    rw [h5] at c
    dsimp only at c ⊢
    omega
  · have := CI_w0 (cut := cut) I s v hs hv
    dsimp only
    omega
  · have := CI_w0 (cut := cut) I a v ha hv
    simp only [ini]
    split
    · omega
    · split <;> omega
noncomputable def mvI (g : Int) (o n : Nat → Nat → Int) (a b : Nat) : Int := if (¬ g = 0 → n a b < o a b) ∧ (¬ ¬ g = 0 → o a b < n a b) then 1 else 0
theorem mvI_01 (g : Int) (o n : Nat → Nat → Int) (a b : Nat) : 0 ≤ mvI g o n a b ∧ mvI g o n a b ≤ 1 := by
  unfold mvI
  split <;> omega
theorem mvI_self {g : Int} {o n : Nat → Nat → Int} {a : Nat} (h : o a a = n a a) : mvI g o n a a = 0 := by
  unfold mvI
  rw [if_neg]
  rintro ⟨x, y⟩
  by_cases hg : g = 0
  · have := y (fun q => q hg)
    omega
  · have := x hg
    omega
theorem countMoved_ok {g : Int} {o : Nat → Nat → Int} (I : CI mc) (hm : -60 ≤ mi ∧ mi ≤ 60) (C : Ctx mc day sh mi (-1) m0) (ht : 0 ≤ t ∧ t ≤ 10000) (hb : ∀ a b : Nat, a < nC mc → b < nC mc → m0 (443 + a) b = o a b) : Ok (C_countMoved t g m0) (fun x => x.1 = sI (fun a => sI (mvI g o (arV mc day sh mi (-1) t) a) (nC mc)) (nC mc) ∧ FrSc m0 x.2) := by
  have n := CI_n I
  unfold C_countMoved
  refine ok_ltv (ok_ltv (ok_bq3 (Q := fun (x : Int × Int × Mem) => x.1 = sI (fun a => sI (mvI g o (arV mc day sh mi (-1) t) a) (nC mc)) (nC mc) ∧ FrSc m0 x.2.2) ?_ (fun cnt _ m4 h4 => ok_some h4)))
  refine ok_loop (fun x => ∃ k : Nat, x.2.1 = k ∧ k ≤ nC mc ∧ x.1 = sI (fun a => sI (mvI g o (arV mc day sh mi (-1) t) a) (nC mc)) k ∧ FrSc m0 x.2.2) (fun x => 12 - x.2.1.toNat) ⟨0, rfl, Nat.zero_le _, rfl, fun _ _ _ => rfl⟩ ?_
  rintro ⟨x, y, m⟩ ⟨k, e1, e2, e3, f⟩
  dsimp only at e1 e3 f ⊢
  subst e1
  have Cm := FrSc_ctx I C f
  have r1 : ∀ a, 0 ≤ sI (mvI g o (arV mc day sh mi (-1) t) a) (nC mc) ∧ sI (mvI g o (arV mc day sh mi (-1) t) a) (nC mc) ≤ 12 := fun a => by
    have := sI_bd (h := mvI g o (arV mc day sh mi (-1) t) a) (z := 1) (by omega) (n := nC mc) (fun k _ => mvI_01 g o _ a k)
    omega
  have bd := sI_bd (h := fun a => sI (mvI g o (arV mc day sh mi (-1) t) a) (nC mc)) (z := 12) (by omega) (n := k) (fun k _ => r1 k)
  rw [← e3] at bd
  unfold C_countMoved_b1
  rw [(CtL_of I Cm.1 Cm.2.1).1]
  refine ok_ite (fun hk => ok_bind (scan_ok (a := k) (t := t) I hm Cm (by omega) (by omega) ht) (fun m3 s3 => ok_ltv ?_)) (fun hk => ok_some ⟨?_, f⟩)
  · have f3 : FrSc m0 m3 := fun c i h => by rw [s3.1 c i h]; exact f c i h
    have C3 := FrSc_ctx I C f3
    have hk2 : k < nC mc := by omega
    refine ok_bq2 (Q := fun (z : Int × Int) => z.1 = x + sI (mvI g o (arV mc day sh mi (-1) t) k) (nC mc)) ?_ (fun z _ hz => ok_grd (by unfold InR; omega) (ok_ltv (ok_some ⟨⟨k + 1, by dsimp only; omega, by omega, ?_, f3⟩, by dsimp only; omega⟩)))
    · refine ok_loop (fun z => ∃ j : Nat, z.2 = j ∧ j ≤ nC mc ∧ z.1 = x + sI (mvI g o (arV mc day sh mi (-1) t) k) j) (fun z => 12 - z.2.toNat) ⟨0, rfl, Nat.zero_le _, by dsimp only [sI]; omega⟩ ?_
      rintro ⟨z, y⟩ ⟨j, q1, q2, q3⟩
      dsimp only at q1 q3 ⊢
      subst q1
      have bj := sI_bd (h := mvI g o (arV mc day sh mi (-1) t) k) (z := 1) (by omega) (n := j) (fun i _ => mvI_01 g o _ k i)
      unfold C_countMoved_b2
      simp only [Int.toNat_natCast]
      rw [(CtL_of I C3.1 C3.2.1).1]
      refine ok_ite (fun hj => ok_bind (atC_ok (s := j) (by omega)) (fun v hv => ok_ltv (ok_grd (by omega) ?_))) (fun hj => ok_some ?_)
      · have hj2 : j < nC mc := by omega
        have eo : m3 (443 + k) j = o k j := by rw [f3 _ _ (by omega)]; exact hb k j hk2 hj2
        have ev : v = arV mc day sh mi (-1) t k j := by
          rw [hv]
          exact arV_eq s3.2.1 hj2
        have step : ∀ u : Int, u = mvI g o (arV mc day sh mi (-1) t) k j → z + u = x + sI (mvI g o (arV mc day sh mi (-1) t) k) (j + 1) := fun u hu => by
          show _ = x + (sI _ j + mvI g o _ k j)
          omega
        subst ev
        simp only [eo]
        refine ok_ite (fun h => ok_grd (by unfold InR; omega) (ok_ltv (ok_grd (by unfold InR; omega) (ok_ltv (ok_some ⟨⟨j + 1, by dsimp only; omega, by omega, step 1 ?_⟩, by dsimp only; omega⟩))))) (fun h => ok_grd (by unfold InR; omega) (ok_ltv (ok_some ⟨⟨j + 1, by dsimp only; omega, by omega, ?_⟩, by dsimp only; omega⟩)))
        · unfold mvI
          rw [if_pos h]
        · have := step 0 (by unfold mvI; rw [if_neg h])
          dsimp only
          rw [← this, Int.add_zero]
      · have : j = nC mc := by omega
        dsimp only
        rw [q3, this]
    · dsimp only at hz ⊢
      rw [hz, e3]
      rfl
  · have : k = nC mc := by omega
    dsimp only
    rw [e3, this]
theorem RelM_move {m1 m2 : Mem} {tr L : Nat} (I : CI mc) (r : RelM mc day (-1) 0 (-1) (setM m1 0 22 day)) (ht : (tr : Int) < mc 31 0) (hL : mc 33 tr = L) (h : ∀ c i, m2 c i = if (c = 8 ∨ c = 9) ∧ 8 * tr ≤ i ∧ i < 8 * tr + L then m1 c i + mi else m1 c i) : RelM mc day tr mi (-1) (setM m2 0 22 day) := by
  have e : ∀ c i, ¬ (c = 8 ∨ c = 9) → setM m2 0 22 day c i = setM m1 0 22 day c i := fun c i hc => by
    by_cases hh : c = 0 ∧ i = 22
    · rw [hh.1, hh.2, setM_same, setM_same]
    · rw [setM_ne hh, setM_ne hh, h, if_neg (by omega)]
  obtain ⟨⟨r1, r2, r3, r4, r7⟩, q2, q3, q4, q5, q6⟩ := r
  refine ⟨⟨by rw [e _ _ (by omega)]; exact r1, by rw [e _ _ (by omega)]; exact r2, by rw [e _ _ (by omega)]; exact r3, setM_same _ _ _ _, by rw [e _ _ (by omega)]; exact r7⟩, fun a ha => by rw [e _ _ (by omega)]; exact q2 a ha, fun a b ha hb => by rw [e _ _ (by omega)]; exact q3 a b ha hb, fun s d hs hd => by rw [e _ _ (by omega)]; exact q4 s d hs hd, fun u hu => ?_, fun k hk => by rw [e _ _ (by omega), e _ _ (by omega), e _ _ (by omega), e _ _ (by omega)]; exact q6 k hk⟩
  have z := q5 u hu
  have b8 : mc 33 u ≤ 8 := by
    obtain ⟨mm, J⟩ := I
    exact (J.2.2.1.2.2.2 u hu).2.2.2.2.2.1
  have l8 : mc 33 tr ≤ 8 := by
    obtain ⟨mm, J⟩ := I
    exact (J.2.2.1.2.2.2 tr ht).2.2.2.2.2.1
  rw [e _ _ (by omega), e _ _ (by omega)]
  refine ⟨z.1, z.2.1, fun c hc => ?_⟩
  have y := z.2.2 c hc
  rw [e _ _ (by omega)]
  rw [if_neg (by omega), setM_ne (by omega), setM_ne (by omega), setM_ne (by omega)] at y
  rw [setM_ne (by omega), setM_ne (by omega), setM_ne (by omega), h 8, h 9]
  refine ⟨y.1, ?_, ?_⟩
  · by_cases hut : u = tr
    · subst hut
      rw [if_pos (by omega), if_pos rfl]
      omega
    · rw [if_neg (by omega), if_neg (by omega)]
      exact y.2.1
  · by_cases hut : u = tr
    · subst hut
      rw [if_pos (by omega), if_pos rfl]
      omega
    · rw [if_neg (by omega), if_neg (by omega)]
      exact y.2.2
theorem other_ok {tr : Nat} {g : Int} (J : Inv mc mm) (hd : 0 ≤ day ∧ day ≤ 27) (ht : 0 ≤ t ∧ t ≤ 1439) (hm : -60 ≤ mi ∧ mi ≤ 60) (htr : (tr : Int) < mc 31 0) : Ok ((M_tellAll day t mm).bind fun m_3 => (M_move tr mi m_3).bind fun m_4 => ltv (0 : Int) fun many_ => ltv (0 : Int) fun a_ => bq3 (loop (fun s => M_other_b1 day t g s.1 s.2.1 s.2.2) (many_, a_, m_4)) fun many_6 a_4 m_7 => grd (InR (-mi)) <| (M_move tr (-mi) m_7).bind fun m_8 => some (many_6, m_8)) (fun x => x.1 = sI (fun a => sI (mvI g (arV mc day (-1) 0 (-1) t) (arV mc day tr mi (-1) t) a) (nC mc)) (nC mc) ∧ Inv mc x.2 ∧ x.2 0 0 = mm 0 0) := by
  have I : CI mc := ⟨_, J⟩
  have n := CI_n I
  have i1 := J.1.1
  have q := J.2.2.1.2.2.2 tr htr
  have t24 := J.2.2.1.2.2.1
  obtain ⟨L, hL⟩ : ∃ L : Nat, mc 33 tr = L := ⟨(mc 33 tr).toNat, by omega⟩
  have cc := fun (c : Nat) (hc : (c : Int) < mc 33 tr) => (q.2.2.2.2.2.2 c hc)
  refine ok_bind (tellAll_ok (t := t) I hd (by omega) (relM_set J) (by omega)) (fun m1 h1 => ?_)
  have v1 : ∀ c : Nat, c < L → m1 8 (8 * tr + c) = mc (60 + tr) c ∧ m1 9 (8 * tr + c) = mc (85 + tr) c ∧ 0 ≤ mc (60 + tr) c ∧ mc (60 + tr) c ≤ mc (85 + tr) c ∧ mc (85 + tr) c ≤ 2879 := fun c hc => by
    have a := cc c (by omega)
    unfold ITc at a
    rw [h1.1 _ _ (by omega) (by omega), h1.1 _ _ (by omega) (by omega)]
    omega
  refine ok_bind (moveM_ok (tr := tr) (L := L) (mi := mi) (by omega) (by rw [h1.1 _ _ (by omega) (by omega), q.2.2.2.1]; exact hL) (by omega) hm (fun c hc => by have := v1 c hc; omega)) (fun m2 h2 => ok_ltv (ok_ltv ?_))
  have r1 : RelM mc day (-1) 0 (-1) (setM m1 0 22 day) := rel_again (relM_set J) h1.1
  have r2 := RelM_move (mi := mi) I r1 htr hL h2
  have rb : ∀ a, 0 ≤ sI (mvI g (arV mc day (-1) 0 (-1) t) (arV mc day tr mi (-1) t) a) (nC mc) ∧ sI (mvI g (arV mc day (-1) 0 (-1) t) (arV mc day tr mi (-1) t) a) (nC mc) ≤ 12 := fun a => by
    have := sI_bd (h := mvI g (arV mc day (-1) 0 (-1) t) (arV mc day tr mi (-1) t) a) (z := 1) (by omega) (n := nC mc) (fun k _ => mvI_01 g _ _ a k)
    omega
  refine ok_bq3 (Q := fun (x : Int × Int × Mem) => x.1 = sI (fun a => sI (mvI g (arV mc day (-1) 0 (-1) t) (arV mc day tr mi (-1) t) a) (nC mc)) (nC mc) ∧ ∀ c i, ¬ (c = 15 ∨ c = 16) → ¬ (c = 0 ∧ (i = 22 ∨ i = 25)) → x.2.2 c i = m2 c i) ?_ (fun cnt _ m7 h7 => ok_grd (by unfold InR; omega) ?_)
  · refine ok_loop (fun x => ∃ k : Nat, x.2.1 = k ∧ k ≤ nC mc ∧ x.1 = sI (fun a => sI (mvI g (arV mc day (-1) 0 (-1) t) (arV mc day tr mi (-1) t) a) (nC mc)) k ∧ ∀ c i, ¬ (c = 15 ∨ c = 16) → ¬ (c = 0 ∧ (i = 22 ∨ i = 25)) → x.2.2 c i = m2 c i) (fun x => 12 - x.2.1.toNat) ⟨0, rfl, Nat.zero_le _, rfl, fun _ _ _ _ => rfl⟩ ?_
    rintro ⟨x, y, m⟩ ⟨k, e1, e2, e3, f⟩
    dsimp only at e1 e3 f ⊢
    subst e1
    have bd := sI_bd (h := fun a => sI (mvI g (arV mc day (-1) 0 (-1) t) (arV mc day tr mi (-1) t) a) (nC mc)) (z := 12) (by omega) (n := k) (fun k _ => rb k)
    rw [← e3] at bd
    have e01 : ∀ c i, ¬ (c = 8 ∨ c = 9) → m2 c i = m1 c i := fun c i h => by rw [h2, if_neg (by omega)]
    unfold M_other_b1
    rw [f 0 1 (by omega) (by omega), e01 0 1 (by omega), h1.1 0 1 (by omega) (by omega), i1, n.1]
    refine ok_ite (fun hk => ?_) (fun hk => ok_some ⟨?_, f⟩)
    · have hk2 : k < nC mc := by omega
      refine ok_bq2 (earliestOf_ok (a := k) (b := k) I hd hm (RelM_fr r2 (fun c i w => by
          by_cases hh : c = 0 ∧ i = 22
          · rw [hh.1, hh.2, setM_same, setM_same]
          · rw [setM_ne hh, setM_ne hh]
            exact f c i (by unfold rM at w; omega) (by unfold rM at w; omega))) hk2 hk2 (by omega)) (fun tm m6 e => ok_ltv (ok_ltv ?_))
      dsimp only at e
      obtain ⟨w1, w2, w3, w4, w5⟩ := e
      have g6 : ∀ c i, ¬ (c = 15 ∨ c = 16) → ¬ (c = 0 ∧ (i = 22 ∨ i = 25)) → m6 c i = m2 c i := fun c i a b => by
        rw [w1 c i a b]
        exact f c i a b
      refine ok_bq2 (Q := fun (z : Int × Int) => z.1 = x + sI (mvI g (arV mc day (-1) 0 (-1) t) (arV mc day tr mi (-1) t) k) (nC mc)) ?_ (fun z _ hz => ok_grd (by unfold InR; omega) (ok_ltv (ok_some ⟨⟨k + 1, by dsimp only; omega, by omega, ?_, g6⟩, by dsimp only; omega⟩)))
      · refine ok_loop (fun z => ∃ j : Nat, z.2 = j ∧ j ≤ nC mc ∧ z.1 = x + sI (mvI g (arV mc day (-1) 0 (-1) t) (arV mc day tr mi (-1) t) k) j) (fun z => 12 - z.2.toNat) ⟨0, rfl, Nat.zero_le _, by dsimp only [sI]; omega⟩ ?_
        rintro ⟨z, y⟩ ⟨j, q1, q2, q3⟩
        dsimp only at q1 q3 ⊢
        subst q1
        have bj := sI_bd (h := mvI g (arV mc day (-1) 0 (-1) t) (arV mc day tr mi (-1) t) k) (z := 1) (by omega) (n := j) (fun i _ => mvI_01 g _ _ k i)
        unfold M_other_b2
        rw [g6 0 1 (by omega) (by omega), e01 0 1 (by omega), h1.1 0 1 (by omega) (by omega), i1, n.1, i12, g6 30 _ (by omega) (by omega), e01 30 _ (by omega)]
        refine ok_ite (fun hj => ok_grd (by unfold InR; omega) (ok_ltv (ok_ltv ?_))) (fun hj => ok_some ?_)
        · have hj2 : j < nC mc := by omega
          rw [h1.2 k j hk2 hj2]
          have stp : ∀ (P : (Int × Int) ⊕ (Int × Int) → Prop) (u : Int), u = mvI g (arV mc day (-1) 0 (-1) t) (arV mc day tr mi (-1) t) k j → (z + u = x + sI (mvI g (arV mc day (-1) 0 (-1) t) (arV mc day tr mi (-1) t) k) (j + 1) → P (.inl (z + u, (j : Int) + 1))) → Ok (grd (InR (z + u)) <| ltv (z + u : Int) fun many_4 => grd (InR ((j : Int) + 1)) <| ltv ((j : Int) + 1) fun b_3 => some ((Sum.inl (many_4, b_3) : (Int × Int) ⊕ (Int × Int)))) P := fun P u hu hP => by
            have b1 := mvI_01 g (arV mc day (-1) 0 (-1) t) (arV mc day tr mi (-1) t) k j
            refine ok_grd (by unfold InR; omega) (ok_ltv (ok_grd (by unfold InR; omega) (ok_ltv (ok_some (hP ?_)))))
            show z + u = x + (sI _ j + mvI g _ _ k j)
            omega
          have ev : ∀ v : Int, v = min ((labM m6).1 j) ((labM m6).2 j) → v = arV mc day tr mi (-1) t k j := fun v hv => by
            rw [hv]
            exact arV_eq w3 hj2
          refine ok_ite (fun hne => ok_ite (fun hg => ok_bind (atM_ok (s := j) (by omega)) (fun v hv => ?_)) (fun hg => ok_bind (atM_ok (s := j) (by omega)) (fun v hv => ?_))) (fun heq => stp _ 0 ?_ (fun e => ⟨⟨j + 1, by dsimp only; omega, by omega, e⟩, by dsimp only; omega⟩))
          · rw [ev v hv]
            refine ok_ite (fun h => stp _ 1 ?_ (fun e => ⟨⟨j + 1, by dsimp only; omega, by omega, e⟩, by dsimp only; omega⟩)) (fun h => stp _ 0 ?_ (fun e => ⟨⟨j + 1, by dsimp only; omega, by omega, e⟩, by dsimp only; omega⟩)) <;> unfold mvI
            · rw [if_pos ⟨fun _ => h, fun q => absurd hg q⟩]
            · rw [if_neg (fun q => h (q.1 hg))]
          · rw [ev v hv]
            refine ok_ite (fun h => stp _ 1 ?_ (fun e => ⟨⟨j + 1, by dsimp only; omega, by omega, e⟩, by dsimp only; omega⟩)) (fun h => stp _ 0 ?_ (fun e => ⟨⟨j + 1, by dsimp only; omega, by omega, e⟩, by dsimp only; omega⟩)) <;> unfold mvI
            · rw [if_pos ⟨fun q => absurd q hg, fun _ => h⟩]
            · rw [if_neg (fun q => h (q.2 hg))]
          · have : k = j := by omega
            subst this
            obtain ⟨-, -, b3, -⟩ : ∃ _ : Nat, True ∧ (∃ L0, BestQ mc day (-1) 0 (-1) (ini (wC mc (-1)) k t) L0) ∧ True := by
              obtain ⟨y, -, -, -, y3, -⟩ := (earliestOf_ok (a := k) (b := k) I hd (by omega) (relM_set J) hk2 hk2 (show 0 ≤ t ∧ t < 100000 by omega))
              exact ⟨0, trivial, ⟨_, y3⟩, trivial⟩
            obtain ⟨L0, hL0⟩ := b3
            rw [mvI_self]
            rw [arV_self I hL0 hk2 (by omega), arV_self I w3 hk2 (by omega)]
        · have : j = nC mc := by omega
          dsimp only
          rw [q3, this]
      · dsimp only at hz ⊢
        rw [hz, e3]
        rfl
    · have : k = nC mc := by omega
      dsimp only
      rw [e3, this]
  · dsimp only at h7
    refine ok_bind (moveM_ok (tr := tr) (L := L) (mi := -mi) (by omega) (by rw [h7.2 _ _ (by omega) (by omega), h2, if_neg (by omega), h1.1 _ _ (by omega) (by omega), q.2.2.2.1]; exact hL) (by omega) (by omega) (fun c hc => by
      have := v1 c hc
      rw [h7.2 _ _ (by omega) (by omega), h7.2 _ _ (by omega) (by omega), h2, h2, if_pos (by omega), if_pos (by omega)]
      omega)) (fun m8 h8 => ok_some ⟨h7.1, ?_, ?_⟩)
    · refine Inv_fr J (fun _ _ _ => rfl) (fun c i w => ?_)
      dsimp only
      have w' : ¬ (c = 15 ∨ c = 16) ∧ ¬ (c = 0 ∧ (i = 22 ∨ i = 25)) ∧ ¬ c = 30 := by unfold pM at w; omega
      rw [h8, h7.2 _ _ (by omega) (by omega), h2, h1.1 _ _ (by omega) (by omega)]
      split <;> omega
    · dsimp only
      rw [h8, if_neg (by omega), h7.2 _ _ (by omega) (by omega), h2, if_neg (by omega), h1.1 _ _ (by omega) (by omega)]
theorem moved_ok {p0 p1 p2 p3 g : Int} (I : Inv mc mm) : Ok ((C_needTrip p0 mc).bind fun q3 => tbd q3 fun u_ m_ =>
  (C_needShift p0 p1 m_).bind fun q7 => tbd q7 fun u_2 m_2 =>
  (C_needDay p2 m_2).bind fun q11 => tbd q11 fun u_3 m_3 =>
  (C_needNumber p3 0 1439 m_3).bind fun q15 => tbd q15 fun u_4 m_4 =>
  (C_fillArrivalsAndShift p0 p1 p2 p3 m_4).bind fun m_5 =>
  bq2 (C_countMoved p3 g m_5) fun r_ m_6 =>
  some (.inl r_, m_6)) (fun a => Ok (bq2 (M_other p0 p1 p2 p3 g mm) fun r_ m_ => some (r_, m_)) (fun b => AgP okA Inv [2, 0] a b)) := by
  obtain ⟨t1, t2, t3, t4⟩ := id I.2.2.1
  have CI0 : CI mc := ⟨_, I⟩
  have n := CI_n CI0
  unfold M_other
  by_cases hp : 0 ≤ p0 ∧ p0 < mc 31 0
  case neg =>
    refine wp_bind (wp_needTrip (fun _ => ok_tbd_inr ?_) (fun _ _ => by omega))
    refine ok_bq2 (Q := fun x => x = (0, setM mm 0 0 1)) ?_ (fun v m' e => ?_)
    · refine wp_bq2 (wp_isNoTrip (by omega) (by omega) (fun _ => ok_ite (fun _ => ok_some rfl) (fun q => absurd Int.one_ne_zero q)) (fun _ _ => by omega))
    · obtain ⟨rfl, rfl⟩ := Prod.mk.inj e
      refine ok_some ?_
      (refine agp_er ?_ ?_ ?_); decide; (first | (rw [setM_same]; rfl) | (dsimp only; simp (disch := omega) only [setM_ne, setM_hit, true_and, and_true]; rfl))
      repeat (first | exact I | with_reducible refine Inv_thr ?_ _)
  case pos =>
    obtain ⟨tr, rfl⟩ : ∃ tr : Nat, p0 = tr := ⟨p0.toNat, by omega⟩
    have J : Inv mc (setM mm 0 0 0) := Inv_thr I 0
    have K : Inv mc (setM (setM mm 0 0 0) 0 0 0) := Inv_thr J 0
    have mside : ∀ P : Int × Mem → Prop, (¬ ((-60 ≤ p1 ∧ p1 ≤ 60 ∧ okS mc tr p1) ∧ (0 ≤ p2 ∧ p2 ≤ 27) ∧ (0 ≤ p3 ∧ p3 ≤ 1439)) → P (0, setM (setM mm 0 0 0) 0 0 2)) → ((-60 ≤ p1 ∧ p1 ≤ 60 ∧ okS mc tr p1) → (0 ≤ p2 ∧ p2 ≤ 27) → (0 ≤ p3 ∧ p3 ≤ 1439) → ∀ x : Int × Mem, x.1 = sI (fun a => sI (mvI g (arV mc p2 (-1) 0 (-1) p3) (arV mc p2 tr p1 (-1) p3) a) (nC mc)) (nC mc) → Inv mc x.2 → x.2 0 0 = 0 → P x) → Ok (M_other tr p1 p2 p3 g mm) P := by
      intro P h1 h2
      unfold M_other
      refine wp_bq2 (wp_isNoTrip (by omega) (by omega) (fun _ => by omega) (fun _ _ => ok_ite (fun q => absurd rfl q) (fun _ => ok_ltv (ok_ite (fun hm => ?_) (fun hm => ?_)))))
      · rw [isIn0, isIn0, isIn0] at hm
        exact wp_bq2 (wp_isThrown1 (ok_ite (fun _ => ok_some (h1 (fun w => by omega))) (fun q => absurd Int.one_ne_zero q)))
      · rw [isIn0, isIn0, isIn0] at hm
        refine ok_bind (shiftWrong_ok J hp.2 (by omega)) (fun z hz => ok_ite (fun hz0 => ?_) (fun hz0 => ?_))
        · refine wp_bq2 (wp_isThrown1 (ok_ite (fun _ => ok_some (h1 (fun w => ?_))) (fun q => absurd Int.one_ne_zero q)))
          rcases hz with hz | hz
          · exact hz0 hz.1
          · exact hz.2 w.1.2.2
        · have ok : okS mc tr p1 := by
            rcases hz with hz | hz
            · exact hz.2
            · omega
          refine wp_bq2 (wp_isThrown0 (ok_ite (fun q => absurd rfl q) (fun _ => (other_ok (tr := tr) K (by omega) (by omega) (by omega) hp.2).mono (fun x hx => ?_))))
          exact h2 ⟨by omega, by omega, ok⟩ (by omega) (by omega) x hx.1 hx.2.1 (by rw [hx.2.2]; exact setM_same _ _ _ _)
    have bad : ∀ m' : Mem, m' = mc → ¬ ((-60 ≤ p1 ∧ p1 ≤ 60 ∧ okS mc tr p1) ∧ (0 ≤ p2 ∧ p2 ≤ 27) ∧ (0 ≤ p3 ∧ p3 ≤ 1439)) → Ok (bq2 (M_other tr p1 p2 p3 g mm) fun r_ m_ => some (r_, m_)) (fun b => AgP okA Inv [2, 0] (.inr 0, m') b) := fun m' e w => by
      subst e
      refine ok_bq2 (Q := fun x => x = (0, setM (setM mm 0 0 0) 0 0 2)) (mside _ (fun _ => rfl) (fun a b c => absurd ⟨a, b, c⟩ w)) (fun v m' e => ?_)
      obtain ⟨rfl, rfl⟩ := Prod.mk.inj e
      refine ok_some ?_
      (refine agp_er ?_ ?_ ?_); decide; (first | (rw [setM_same]; rfl) | (dsimp only; simp (disch := omega) only [setM_ne, setM_hit, true_and, and_true]; rfl))
      repeat (first | exact I | with_reducible refine Inv_thr ?_ _)
    refine wp_bind (wp_needTrip (fun _ => by omega) (fun _ _ => ok_tbd_inl (wp_bind (needShift_ok I hp.2 (fun w => ok_tbd_inr (bad _ rfl (fun q => w q.1))) (fun w1 w2 w3 => ok_tbd_inl (wp_bind (wp_needDay (fun w => ok_tbd_inr (bad _ rfl (fun q => by omega))) (fun w4 w5 => ok_tbd_inl (wp_bind (wp_needNumber (fun w => ok_tbd_inr (bad _ rfl (fun q => by omega))) (fun w6 w7 => ok_tbd_inl ?_)))))))))))
    refine ok_bind (Q := fun m => Ctx mc p2 tr p1 (-1) m ∧ ∀ a b : Nat, a < nC mc → b < nC mc → m (443 + a) b = arV mc p2 (-1) 0 (-1) p3 a b) ?_ (fun m5 h5 => ?_)
    · unfold C_fillArrivalsAndShift
      refine ok_bind (lay_ok (sh := -1) (mi := 0) CI0 (by omega) (by omega) (Ctx_self I)) (fun m1 l => ok_bind (fillArr_ok (t := p3) CI0 (by omega) ⟨l.2.1, l.2.2.1, l.2.2.2⟩ (by omega)) (fun m2 h2 => ?_))
      have C2 : Ctx mc p2 (-1) 0 (-1) m2 := Ctx_fr CI0 ⟨l.2.1, l.2.2.1, l.2.2.2⟩ (fun c i h => h2.1 c i (by unfold cX pC at h; omega) (by unfold cX pC at h; omega))
      refine ok_bind (lay_ok (sh := tr) (mi := p1) CI0 (by omega) (by omega) C2.1) (fun m3 l3 => ok_some ⟨⟨l3.2.1, l3.2.2.1, l3.2.2.2⟩, fun a b ha hb => ?_⟩)
      rw [l3.1 _ _ (by omega) (by omega) (by omega)]
      exact h2.2 a b ha hb
    · refine ok_bq2 (countMoved_ok (o := arV mc p2 (-1) 0 (-1) p3) CI0 (by omega) h5.1 (by omega) h5.2) (fun cnt m6 h6 => ok_some ?_)
      dsimp only at h6
      have C6 := FrSc_ctx CI0 h5.1 h6.2
      refine ok_bq2 (mside _ (fun w => absurd ⟨⟨w1, w2, w3⟩, ⟨w4, w5⟩, w6, w7⟩ w) (fun _ _ _ x e1 e2 e3 => (show (fun (x : Int × Mem) => x.1 = cnt ∧ Inv mc x.2 ∧ x.2 0 0 = 0) x from ⟨by rw [e1, h6.1], e2, e3⟩))) (fun v m7 h7 => ok_some ?_)
      dsimp only at h7
      exact agp_ok h7.2.2 h7.1 (Inv_end h7.2.1 C6.1 C6.2.1.1 (fun _ _ _ => rfl))
theorem st_gains : ST_gains Inv := by
  intro mc mm p0 p1 p2 p3 I _ _ _ _
  exact ag_of (moved_ok (g := 1) I)
theorem st_loses : ST_loses Inv := by
  intro mc mm p0 p1 p2 p3 I _ _ _ _
  exact ag_of (moved_ok (g := 0) I)
end GAI
