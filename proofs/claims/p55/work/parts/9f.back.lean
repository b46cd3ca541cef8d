/-! ===== the class reads from the end ===== -/
section SBK
variable {mc m m0 : Mem} {day : Int}
def BkI (mc : Mem) (day : Int) (m0 : Mem) (R H to : Nat) (y : Int) (k : Nat) (m : Mem) : Prop := (∀ c i, ¬ (c = 346 ∨ c = 347 ∨ c = 348) → m c i = m0 c i) ∧ BkP mc day to y (m 347) (m 348) ∧ (∀ r, r < R → m 346 r = 0 ∨ m 346 r = 1) ∧ (∀ r, r < R → m 346 r = 1 → ∃ c j : Nat, k ≤ j ∧ j < H ∧ hopM m0 R r c ∧ m0 343 j = kaM m0 r c ∧ ∀ L', Cl (nC mc) (mc 2) (wC mc (-1)) (RdQ mc day (-1) 0 (-1)) L' → L'.1 (stQ mc (phi m0 r) (c + 1)) ≤ arQ mc day (-1) 0 (phi m0 r) (c + 1) → ArrB (nC mc) (wC mc (-1)) to y L') ∧ (∀ r c j : Nat, k ≤ j → j < H → hopM m0 R r c → m0 343 j = kaM m0 r c → arQ mc day (-1) 0 (phi m0 r) (c + 1) ≤ m 348 (stQ mc (phi m0 r) (c + 1)) → m 346 r = 1) ∧ ∀ r c c' j j' : Nat, k ≤ j → j < H → k ≤ j' → j' < H → hopM m0 R r c → m0 343 j = kaM m0 r c → hopM m0 R r c' → m0 343 j' = kaM m0 r c' → c ≤ c' → arQ mc day (-1) 0 (phi m0 r) (c' + 1) ≤ m 348 (stQ mc (phi m0 r) (c' + 1)) → lvQ mc day (-1) 0 (phi m0 r) c ≤ m 347 (stQ mc (phi m0 r) c)
theorem backHop_ok {R H to i : Nat} {y : Int} (I : CI mc) (C : Ctx mc day (-1) 0 (-1) m0) (ht : to < nC mc) (r3 : R ≤ 72) (r4 : H ≤ 504) (r5 : NetT mc day (-1) 0 m0 R 72) (r6 : NetK m0 R H) (hi : i < H) (J : BkI mc day m0 R H to y (i + 1) m) : Ok (C_Search_scanBack_b2 i m) (fun x => ∃ m', x = .inl ((i : Int) - 1, m') ∧ BkI mc day m0 R H to y i m') := by
  have n := CI_n I
  have hm : (-60 : Int) ≤ 0 ∧ (0 : Int) ≤ 60 := by omega
  obtain ⟨k1, k2, k3, k4, k5, k6⟩ := id r6
  obtain ⟨f1, f2, f6, f7, f8, f9⟩ := J
  obtain ⟨r0, c0, hh, hk⟩ := k5 i hi
  obtain ⟨q1, q2, q3, q4, q5, q6, q7, q8, q9⟩ := hop_facts I r3 hm r5 hh
  obtain ⟨t1, t2, t3, t4, t5, t6⟩ := NetT_run I r5 q1
  have ta := t6 c0 (by omega)
  have tb := t6 (c0 + 1) q2
  have uni : ∀ r c r' c' : Nat, hopM m0 R r c → hopM m0 R r' c' → kaM m0 r c = kaM m0 r' c' → r = r' ∧ c = c' := by
    intro r c r' c' a b e
    have x := hop_facts I r3 hm r5 a
    have z := hop_facts I r3 hm r5 b
    rw [x.2.2.2.2.2.2.2.2, z.2.2.2.2.2.2.2.2] at e
    have d1 := key_dec (lv := arQ mc day (-1) 0 (phi m0 r) (c + 1)) (r := r) (c := c) (by omega) (by omega) (by omega)
    have d2 := key_dec (lv := arQ mc day (-1) 0 (phi m0 r') (c' + 1)) (r := r') (c := c') (by omega) (by omega) (by omega)
    rw [e] at d1
    omega
  have d := key_dec (lv := arQ mc day (-1) 0 (phi m0 r0) (c0 + 1)) (r := r0) (c := c0) (by omega) (by omega) (by omega)
  rw [← q9, ← hk] at d
  have srt : ∀ (j r c : Nat), i ≤ j → j < H → hopM m0 R r c → m0 343 j = kaM m0 r c → arQ mc day (-1) 0 (phi m0 r0) (c0 + 1) ≤ arQ mc day (-1) 0 (phi m0 r) (c + 1) := by
    intro j r c hj hjH h e
    have x := hop_facts I r3 hm r5 h
    have z := k2 i j (by omega) hj hjH
    rw [e, hk, x.2.2.2.2.2.2.2.2, q9] at z
    omega
  have ord : ∀ (j c : Nat), i ≤ j → j < H → hopM m0 R r0 c → m0 343 j = kaM m0 r0 c → c0 ≤ c := by
    intro j c hj hjH h e
    have x := hop_facts I r3 hm r5 h
    have z := srt j r0 c hj hjH h e
    apply Nat.le_of_not_lt
    intro v
    have a := qv_lt (day := day) (sh := -1) (mi := 0) I t2.1 (c := c + 1) (c' := c0 + 1) (by omega) q2
    have b := qa_lv (day := day) (sh := -1) (mi := 0) I t2.1 (c := c + 1) (by omega)
    omega
  have tR := t2.1
  -- behind the test
  have second : ∀ m1 : Mem, (∀ c i, ¬ (c = 346 ∧ i = r0) → m1 c i = m c i) → (m1 346 r0 = 0 ∨ m1 346 r0 = 1) → (m 346 r0 = 1 → m1 346 r0 = 1) → (arQ mc day (-1) 0 (phi m0 r0) (c0 + 1) ≤ m 348 (stQ mc (phi m0 r0) (c0 + 1)) → m1 346 r0 = 1) → (m1 346 r0 = 1 → ∃ c j : Nat, i ≤ j ∧ j < H ∧ hopM m0 R r0 c ∧ m0 343 j = kaM m0 r0 c ∧ ∀ L', Cl (nC mc) (mc 2) (wC mc (-1)) (RdQ mc day (-1) 0 (-1)) L' → L'.1 (stQ mc (phi m0 r0) (c + 1)) ≤ arQ mc day (-1) 0 (phi m0 r0) (c + 1) → ArrB (nC mc) (wC mc (-1)) to y L') → ∃ m2 : Mem, (grd (0 ≤ (r0 : Int) ∧ (r0 : Int) < 72) <| if ¬ m1 346 ((r0 : Int)).toNat = 0 then grd (0 ≤ (c0 : Int) ∧ (c0 : Int) < 8) <| (C_Search_getOnBack (m1 (124 + ((r0 : Int)).toNat) ((c0 : Int)).toNat) (m1 (270 + ((r0 : Int)).toNat) ((c0 : Int)).toNat) m1).bind fun m_9 => grd (InR ((i : Int) - 1)) <| ltv ((i : Int) - 1) fun index_4 => some (Sum.inl (index_4, m_9)) else grd (InR ((i : Int) - 1)) <| ltv ((i : Int) - 1) fun index_3 => some (Sum.inl (index_3, m1))) = some ((Sum.inl ((i : Int) - 1, m2) : (Int × Mem) ⊕ (Int × Mem))) ∧ BkI mc day m0 R H to y i m2 := by
    intro m1 y1 y2 y3 y4 y5
    have r347 : m1 347 = m 347 := funext fun i => y1 _ _ (by omega)
    have r348 : m1 348 = m 348 := funext fun i => y1 _ _ (by omega)
    have fl : ∀ r, r ≠ r0 → m1 346 r = m 346 r := fun r hr => y1 346 r (by omega)
    have F6 : ∀ r, r < R → m1 346 r = 0 ∨ m1 346 r = 1 := fun r hr => by
      by_cases hh : r = r0
      · rw [hh]; exact y2
      · rw [fl r hh]; exact f6 r hr
    have F7 : ∀ r, r < R → m1 346 r = 1 → ∃ c j : Nat, i ≤ j ∧ j < H ∧ hopM m0 R r c ∧ m0 343 j = kaM m0 r c ∧ ∀ L', Cl (nC mc) (mc 2) (wC mc (-1)) (RdQ mc day (-1) 0 (-1)) L' → L'.1 (stQ mc (phi m0 r) (c + 1)) ≤ arQ mc day (-1) 0 (phi m0 r) (c + 1) → ArrB (nC mc) (wC mc (-1)) to y L' := by
      intro r hr h
      by_cases hh : r = r0
      · rw [hh] at h ⊢
        exact y5 h
      · rw [fl r hh] at h
        obtain ⟨c, j, j1, j2⟩ := f7 r hr h
        exact ⟨c, j, by omega, j2⟩
    have F8 : ∀ r c j : Nat, i ≤ j → j < H → hopM m0 R r c → m0 343 j = kaM m0 r c → arQ mc day (-1) 0 (phi m0 r) (c + 1) ≤ m 348 (stQ mc (phi m0 r) (c + 1)) → m1 346 r = 1 := by
      intro r c j hj hjH a b e
      by_cases hji : j = i
      · have := uni r c r0 c0 a hh (by rw [← b, ← hk, hji])
        rw [this.1, this.2] at e
        rw [this.1]
        exact y4 e
      · have := f8 r c j (by omega) hjH a b e
        by_cases hr : r = r0
        · rw [hr] at this ⊢
          exact y3 this
        · rw [fl r hr]
          exact this
    -- who is not the one that is read
    have old : ∀ r c c' j j' : Nat, i ≤ j → j < H → i ≤ j' → j' < H → hopM m0 R r c → m0 343 j = kaM m0 r c → hopM m0 R r c' → m0 343 j' = kaM m0 r c' → c ≤ c' → ¬ (r = r0 ∧ c = c0) → i + 1 ≤ j ∧ i + 1 ≤ j' := by
      intro r c c' j j' a1 a2 a3 a4 a5 a6 a7 a8 a9 hne
      have o1 : j ≠ i := fun z => hne (uni r c r0 c0 a5 hh (by rw [← a6, ← hk, z]))
      have o2 : j' ≠ i := fun z => by
        have x := uni r c' r0 c0 a7 hh (by rw [← a8, ← hk, z])
        rw [x.1] at a5 a6
        have := ord j c (by omega) a2 a5 a6
        exact hne ⟨x.1, by omega⟩
      omega
    rw [Int.toNat_natCast, grd_pos (by omega)]
    by_cases hz : m1 346 r0 = 0
    · refine ⟨m1, ?_, fun c i h => by rw [y1 c i (by omega)]; exact f1 c i h, by rw [r347, r348]; exact f2, F6, F7, by rw [r348]; exact F8, ?_⟩
      · rw [if_neg (fun q => q hz), grd_pos (by unfold InR; omega)]
        rfl
      · rw [r347, r348]
        intro r c c' j j' a1 a2 a3 a4 a5 a6 a7 a8 a9 e
        by_cases hne : r = r0 ∧ c = c0
        · have := F8 r c' j' a3 a4 a7 a8 e
          rw [hne.1] at this
          omega
        · have o := old r c c' j j' a1 a2 a3 a4 a5 a6 a7 a8 a9 hne
          exact f9 r c c' j j' o.1 a2 o.2 a4 a5 a6 a7 a8 a9 e
    · have hz1 : m1 346 r0 = 1 := y2.resolve_left hz
      obtain ⟨c1, j1, b1, b2, b3, b4, b5⟩ := y5 hz1
      clear y5
      have Cm : Ctx mc day (-1) 0 (-1) m1 := Ctx_fr I C (fun c i h => by
        rw [y1 c i (by unfold cX pC at h; omega)]
        exact f1 c i (by unfold cX pC at h; omega))
      have Lm : CtL mc (-1) m1 := CtL_of I Cm.1 Cm.2.1
      have est : m1 (124 + r0) c0 = stQ mc (phi m0 r0) c0 := by rw [y1 _ _ (by omega), f1 _ _ (by omega)]; exact ta.1
      have elv : m1 (270 + r0) c0 = lvQ mc day (-1) 0 (phi m0 r0) c0 := by rw [y1 _ _ (by omega), f1 _ _ (by omega)]; exact ta.2.2.2
      rw [if_pos hz, Int.toNat_natCast, est, elv, grd_pos (by omega)]
      obtain ⟨m2, er, g1, g2, g3, g4, g5⟩ := getOnBack_ok (s := stQ mc (phi m0 r0) c0) (t := lvQ mc day (-1) 0 (phi m0 r0) c0) I Lm ta.2.1 (by omega)
      rw [r347] at g2
      rw [r347] at g4
      rw [r347, r348] at g5
      rw [r348] at g3
      have c1le := ord j1 c1 b1 b2 b3 b4
      have hf1 := hop_facts I r3 hm r5 b3
      have gb := CI_g I ta.2.1
      -- what is raised lies below what was read
      have low : ∀ v, v < nC mc → ∀ z : Int, arQ mc day (-1) 0 (phi m0 r0) (c0 + 1) ≤ z → z ≤ m2 348 v → z ≤ m 348 v := by
        intro v hv z hz hz2
        have wb := CI_w (cut := -1) I hv ta.2.1
        rcases g5 v hv with e | ⟨-, e | ⟨-, e⟩⟩ <;> omega
      have P2 : BkP mc day to y (m2 347) (m2 348) := BkP_on I f2 ta.2.1 (by omega) g2 g3 g4 g5 ⟨phi m0 r0, c0, t1, t2, q2, rfl, rfl⟩ (fun L' cl cn => b5 L' cl (cl.1 _ _ _ _ ⟨phi m0 r0, c0, c1 + 1, t1, t2, by omega, hf1.2.1, rfl, rfl, rfl, rfl, by omega, by omega⟩ cn)) ht
      have fl2 : ∀ r, m2 346 r = m1 346 r := fun r => g1 346 r (by omega)
      refine ⟨m2, ?_, fun c i h => by rw [g1 c i (by omega), y1 c i (by omega)]; exact f1 c i h, P2, fun r hr => by rw [fl2]; exact F6 r hr, fun r hr h => F7 r hr (by rw [← fl2]; exact h), fun r c j a1 a2 a3 a4 e => ?_, fun r c c' j j' a1 a2 a3 a4 a5 a6 a7 a8 a9 e => ?_⟩
      · rw [er]
        show grd _ _ = _
        rw [grd_pos (by unfold InR; omega)]
        rfl
      · rw [fl2]
        have x := hop_facts I r3 hm r5 a3
        have sv := ((NetT_run I r5 x.1).2.2.2.2.2 (c + 1) x.2.1).2.1
        exact F8 r c j a1 a2 a3 a4 (low _ sv _ (srt j r c a1 a2 a3 a4) e)
      · have x := hop_facts I r3 hm r5 a7
        have sv := ((NetT_run I r5 x.1).2.2.2.2.2 (c' + 1) x.2.1).2.1
        have e' := low _ sv _ (srt j' r c' a3 a4 a7 a8) e
        rw [g2]
        by_cases hne : r = r0 ∧ c = c0
        · rw [hne.1, hne.2]
          split <;> omega
        · have o := old r c c' j j' a1 a2 a3 a4 a5 a6 a7 a8 a9 hne
          have := f9 r c c' j j' o.1 a2 o.2 a4 a5 a6 a7 a8 a9 e'
          split
          · rename_i h; rw [h.1] at this; omega
          · exact this
  have e343 : m 343 i = m0 343 i := f1 343 i (by omega)
  have est1 : m (124 + r0) (c0 + 1) = stQ mc (phi m0 r0) (c0 + 1) := by rw [f1 _ _ (by omega)]; exact tb.1
  have ce : ((c0 : Int) + 1).toNat = c0 + 1 := by omega
  unfold C_Search_scanBack_b2
  rw [Int.toNat_natCast, e343]
  refine ok_ite (fun _ => ok_grd (by omega) (ok_ltv (ok_ltv (ok_ltv ?_)))) (fun h => by omega)
  rw [d.1, d.2.1, d.2.2]
  refine ok_ltv ?_
  rw [Int.toNat_natCast, ce, est1, Int.toNat_natCast]
  refine ok_grd (by unfold InR; omega) (ok_ite (fun h => ok_ltv ?_) (fun h => ?_))
  · obtain ⟨m2, e, inv⟩ := second (setM m 346 r0 1) (fun c i h => setM_ne h) (Or.inr (setM_same _ _ _ _)) (fun _ => setM_same _ _ _ _) (fun _ => setM_same _ _ _ _) (fun _ => ⟨c0, i, Nat.le_refl _, hi, hh, hk, fun L' cl q => f2.1.2 _ tb.2.1 L' cl (by omega)⟩)
    exact ⟨_, e, m2, rfl, inv⟩
  · obtain ⟨m2, e, inv⟩ := second m (fun _ _ _ => rfl) (f6 r0 q1) (fun q => q) (fun q => absurd q h) (fun q => by
      obtain ⟨c, j, j1, j2⟩ := f7 r0 q1 q
      exact ⟨c, j, by omega, j2⟩)
    exact ⟨_, e, m2, rfl, inv⟩
theorem scanBack_ok {to : Nat} {y : Int} (I : CI mc) (C : Ctx mc day (-1) 0 (-1) m0) (ht : to < nC mc) (hy : 0 ≤ y ∧ y ≤ 999999) : Ok (C_Search_scanBack to y m0) (fun m => (∀ c i, ¬ (c = 346 ∨ c = 347 ∨ c = 348) → m c i = m0 c i) ∧ BkP mc day to y (m 347) (m 348) ∧ ∀ s t s' t', RdQ mc day (-1) 0 (-1) s t s' t' → 0 ≤ t → t' ≤ m 348 s' → t ≤ m 347 s) := by
  have n := CI_n I
  obtain ⟨p, nw, R, H, r1, r2, r3, r4, r5, r6⟩ := id C
  have Lm := CtL_of I p nw
  unfold C_Search_scanBack
  refine ok_bind (leaveRuns_ok r3 r1) (fun m1 h1 => ok_ltv ?_)
  refine ok_bq2 (ok_for0 (n := nC mc) (fun k m => (∀ c i, ¬ (c = 347 ∨ c = 348) → m c i = m1 c i) ∧ ∀ v : Nat, v < k → m 347 v = -1 ∧ m 348 v = if v = to then y else y - wC mc (-1) v to) ⟨fun _ _ _ => rfl, fun v hv => by omega⟩ ?_ ?_) (fun _ m5 h5 => ?_)
  · rintro k m hk ⟨f1, f2⟩
    have wb := CI_w (cut := -1) I hk ht
    have e0 : m 1 0 = nC mc := by rw [f1 1 0 (by omega), h1.1 1 0 (by omega)]; exact Lm.1
    have ew : (setM m 347 k (-1)) (17 + k) to = wC mc (-1) k to := by rw [setM_ne (by omega), f1 _ _ (by omega), h1.1 _ _ (by omega)]; exact Lm.2.2.2 k to hk ht
    unfold C_Search_scanBack_b1
    simp only [Int.toNat_natCast]
    rw [e0]
    refine ok_ite (fun _ => ok_grd (by omega) (ok_ltv ?_)) (fun h => by omega)
    rw [ew]
    refine ok_grd (by unfold InR; omega) (ok_ltv (ok_grd (by unfold InR; omega) (ok_ltv (ok_some ⟨_, rfl, fun c i hc => ?_, fun v hv => ?_⟩))))
    · rw [setM_ne (by omega), setM_ne (by omega)]
      exact f1 c i hc
    · by_cases hh : v = k
      · rw [hh, setM_ne (by omega), setM_same, setM_same]
        refine ⟨rfl, ?_⟩
        by_cases hv : k = to
        · rw [if_pos hv, if_pos (by omega)]
        · rw [if_neg hv, if_neg (by omega)]
      · rw [setM_ne (by omega), setM_ne (by omega), setM_ne (by omega), setM_ne (by omega)]
        exact f2 v (by omega)
  · rintro m ⟨f1, -⟩
    have e0 : m 1 0 = nC mc := by rw [f1 1 0 (by omega), h1.1 1 0 (by omega)]; exact Lm.1
    unfold C_Search_scanBack_b1
    rw [e0, if_neg (by omega)]
  · dsimp only at h5
    obtain ⟨f1, f2⟩ := h5
    have e11 : m5 119 11 = H := by rw [f1 119 11 (by omega), h1.1 119 11 (by omega)]; exact r2
    rw [e11]
    refine ok_grd (by unfold InR; omega) (ok_ltv (ok_bq2 (Q := fun x => BkI mc day m0 R H to y 0 x.2) ?_ (fun _ m h => ok_some ?_)))
    · refine ok_loop (fun x => ∃ k : Nat, x.1 = (k : Int) - 1 ∧ k ≤ H ∧ BkI mc day m0 R H to y k x.2) (fun x => (x.1 + 1).toNat) ⟨H, rfl, Nat.le_refl _, fun c i h => ?_, ⟨⟨fun s hs h0 => ?_, fun s hs L' cl q => ?_⟩, ⟨?_, fun s hs => ?_, fun s hs h0 => ?_, fun s v hs hv h0 => ?_⟩, fun s hs => ?_, fun s hs => Or.inl (f2 s hs).1⟩, fun r hr => Or.inl ?_, fun r hr h => ?_, fun r c j a b => by omega, fun r c c' j j' a b => by omega⟩ ?_
      · dsimp only
        rw [f1 c i (by omega), h1.1 c i (by omega)]
      · dsimp only at h0
        have := (f2 s hs).1
        omega
      · dsimp only at q
        rw [(f2 s hs).2] at q
        by_cases hh : s = to
        · rw [if_pos hh] at q
          rw [hh] at q
          exact Or.inl q
        · rw [if_neg hh] at q
          exact Or.inr ⟨s, hs, by omega⟩
      · dsimp only
        rw [(f2 to ht).2, if_pos rfl]
        omega
      · dsimp only
        have wb := CI_w (cut := -1) I hs ht
        rw [(f2 s hs).2]
        split <;> omega
      · dsimp only at h0
        have := (f2 s hs).1
        omega
      · dsimp only at h0
        have := (f2 v hv).1
        omega
      · dsimp only
        have wb := CI_w (cut := -1) I hs ht
        rw [(f2 s hs).1, (f2 s hs).2]
        split <;> omega
      · dsimp only
        rw [f1 _ _ (by omega)]
        exact h1.2 r hr
      · dsimp only at h
        rw [f1 _ _ (by omega), h1.2 r hr] at h
        omega
      · rintro ⟨x1, m⟩ ⟨k, e1, e2, J⟩
        dsimp only at e1 J ⊢
        by_cases hk : k = 0
        · subst hk
          have : x1 = -1 := by omega
          rw [this]
          unfold C_Search_scanBack_b2
          rw [if_neg (by omega)]
          exact ok_some J
        · obtain ⟨i, rfl⟩ : ∃ i, k = i + 1 := ⟨k - 1, by omega⟩
          have : x1 = (i : Int) := by omega
          rw [this]
          refine (backHop_ok I C ht r3 r4 r5 r6 (by omega) J).mono (fun x h => ?_)
          obtain ⟨m', rfl, J'⟩ := h
          exact ⟨⟨i, by dsimp only, by omega, J'⟩, by dsimp only; omega⟩
    · dsimp only at h
      obtain ⟨g1, g2, -, -, -, g9⟩ := h
      refine ⟨g1, g2, fun s t s' t' r h0 h1' => ?_⟩
      obtain ⟨q, c, c', a1, a2, a3, a4, a5, a6, a7, a8, -⟩ := r
      obtain ⟨r, hr, er⟩ := r5.2.2 q a1 a2
      have up : lvQ mc day (-1) 0 q c ≤ lvQ mc day (-1) 0 q (c' - 1) := by
        by_cases hh : c = c' - 1
        · rw [hh]; omega
        · have := qv_up (day := day) (sh := -1) (mi := 0) I a2.1 (c := c) (c' := c' - 1) (by omega) (by omega)
          omega
      have e : c' - 1 + 1 = c' := by omega
      have hA := hop_of (c := c) I r5 hr (by rw [er]; omega) (by rw [er]; omega)
      have hB := hop_of (c := c' - 1) I r5 hr (by rw [er]; omega) (by rw [er]; omega)
      obtain ⟨j, j1, j2⟩ := r6.2.2.2.2.2 r c hA
      obtain ⟨j', j3, j4⟩ := r6.2.2.2.2.2 r (c' - 1) hB
      have := g9 r c (c' - 1) j j' (Nat.zero_le _) j1 (Nat.zero_le _) j3 hA j2 hB j4 (by omega) (by rw [er, e, ← a8, ← a7]; exact h1')
      rw [er, ← a5, ← a6] at this
      exact this
end SBK
