/-! ===== the scan by departures finds the best labels ===== -/
theorem fw_cut {T : Nat → Nat → Int} {cut : Int} (h : TB T) : ∀ (k a b : Nat), k ≤ 12 → a < 12 → b < 12 → ((a : Int) = cut ∨ (b : Int) = cut) → fw T cut k a b = 1000000 := by
  intro k
  induction k with
  | zero =>
    intro a b _ ha hb hc
    rw [fw_zero, if_pos (Or.inr hc)]
  | succ k ih =>
    intro a b hk ha hb hc
    have h1 := fw_bd (cut := cut) h k a k (by omega) ha (by omega)
    have h2 := fw_bd (cut := cut) h k k b (by omega) (by omega) hb
    rw [fw_succ, ih a b (by omega) ha hb hc, if_neg]
    rintro ⟨-, -, -, q⟩
    rcases hc with hc | hc
    · rw [ih a k (by omega) ha (by omega) (Or.inl hc)] at q
      omega
    · rw [ih k b (by omega) (by omega) hb (Or.inr hc)] at q
      omega
theorem key_dec {lv : Int} {r c : Nat} (h0 : 0 ≤ lv) (hr : r < 72) (hc : c < 8) : (lv * 1024 + ((r : Int) * 8 + (c : Int))).tdiv 1024 = lv ∧ C_Net_runOf (lv * 1024 + ((r : Int) * 8 + (c : Int))) = r ∧ C_Net_callOf (lv * 1024 + ((r : Int) * 8 + (c : Int))) = c := by
  unfold C_Net_runOf C_Net_callOf
  have e : 0 ≤ lv * 1024 + ((r : Int) * 8 + (c : Int)) := by omega
  rw [Int.tdiv_eq_ediv_of_nonneg e, Int.tmod_eq_emod_of_nonneg e, Int.tmod_eq_emod_of_nonneg e]
  have e2 : 0 ≤ (lv * 1024 + ((r : Int) * 8 + (c : Int))) % 1024 := by omega
  rw [Int.tdiv_eq_ediv_of_nonneg e2]
  omega
theorem can_gof {N : Nat} {g : Nat → Int} {w : Nat → Nat → Int} {L : Lb} {s0 s : Nat} {t0 t : Int} (hg : 0 ≤ g s) (hw : ∀ v, v < N → 0 ≤ w s0 v) (hs : s < N) (ht : t < t0) (h : can g (gof N w L s0 t0) s t) : can g L s t := by
  obtain ⟨h1, h2⟩ := h
  refine ⟨h1, ?_⟩
  rw [gof_1, gof_2] at h2
  have := hw s hs
  rcases h2 with h2 | h2
  · split at h2
    · omega
    · exact Or.inl h2
  · split at h2
    · omega
    · exact Or.inr h2
section SCAN
variable {mc m m0 : Mem} {day sh mi cut : Int}
/-- the tables of a run -/
theorem NetT_run {R r : Nat} (I : CI mc) (h : NetT mc day sh mi m R 72) (hr : r < R) : phi m r < 72 ∧ isQ mc day (phi m r) ∧ m 122 r = lenQ mc (phi m r) ∧ 1 ≤ lenQ mc (phi m r) ∧ lenQ mc (phi m r) ≤ 8 ∧ ∀ c : Nat, c < lenQ mc (phi m r) → m (124 + r) c = stQ mc (phi m r) c ∧ stQ mc (phi m r) c < nC mc ∧ m (197 + r) c = arQ mc day sh mi (phi m r) c ∧ m (270 + r) c = lvQ mc day sh mi (phi m r) c := by
  have a := h.1 r hr
  have l := CI_len I a.2.1.1
  refine ⟨a.1, a.2.1, a.2.2.2.2.1, l.2.1, l.2.2, fun c hc => ?_⟩
  have b := a.2.2.2.2.2 c hc
  exact ⟨b.1, (CI_call I a.2.1.1 hc).2.1, b.2.1, b.2.2⟩
theorem hop_facts {R r c : Nat} (I : CI mc) (hR : R ≤ 72) (hm : -60 ≤ mi ∧ mi ≤ 60) (h : NetT mc day sh mi m R 72) (hh : hopM m R r c) : r < R ∧ c + 1 < lenQ mc (phi m r) ∧ c + 1 < 8 ∧ 0 ≤ lvQ mc day sh mi (phi m r) c ∧ lvQ mc day sh mi (phi m r) c ≤ 4499 ∧ lvQ mc day sh mi (phi m r) c < arQ mc day sh mi (phi m r) (c + 1) ∧ arQ mc day sh mi (phi m r) (c + 1) ≤ 4499 ∧ klM m r c = lvQ mc day sh mi (phi m r) c * 1024 + ((r : Int) * 8 + (c : Int)) ∧ kaM m r c = arQ mc day sh mi (phi m r) (c + 1) * 1024 + ((r : Int) * 8 + (c : Int)) := by
  obtain ⟨h1, h2, h3⟩ := hh
  obtain ⟨t1, t2, t3, t4, t5, t6⟩ := NetT_run I h h1
  rw [t3] at h2
  have a := t6 c (by omega)
  have b := t6 (c + 1) (by omega)
  have l1 := qv_bd (day := day) (sh := sh) I t2.1 t1 hm (c := c) (by omega)
  have l2 := qa_bd (day := day) (sh := sh) I t2.1 t1 hm (c := c + 1) (by omega)
  have l3 := qv_ar (day := day) (sh := sh) (mi := mi) I t2.1 (c := c) (by omega)
  refine ⟨h1, by omega, by omega, by omega, by omega, l3, by omega, ?_, ?_⟩
  · unfold klM
    rw [a.2.2.2]
  · unfold kaM
    rw [b.2.2.1]
theorem hop_of {R r c : Nat} (I : CI mc) (h : NetT mc day sh mi m R 72) (hr : r < R) (hc : c + 1 < lenQ mc (phi m r)) (h0 : 0 ≤ lvQ mc day sh mi (phi m r) c) : hopM m R r c := by
  obtain ⟨t1, t2, t3, t4, t5, t6⟩ := NetT_run I h hr
  refine ⟨hr, by rw [t3]; omega, ?_⟩
  rw [(t6 c (by omega)).2.2.2]
  exact h0
def FrSc (m0 m : Mem) : Prop := ∀ c i, ¬ (c = 346 ∨ c = 353 ∨ c = 354) → m c i = m0 c i
theorem leaveRuns_ok {R : Nat} (hR : R ≤ 72) (e : m0 119 4 = R) : Ok (C_Search_leaveRuns m0) (fun m => (∀ c i, ¬ c = 346 → m c i = m0 c i) ∧ ∀ r : Nat, r < R → m 346 r = 0) := by
  unfold C_Search_leaveRuns
  refine ok_ltv (ok_bq2 (ok_for0 (n := R) (fun k m => (∀ c i, ¬ c = 346 → m c i = m0 c i) ∧ ∀ r : Nat, r < k → m 346 r = 0) ⟨fun _ _ _ => rfl, fun r hr => by omega⟩ ?_ ?_) (fun _ m h => ok_some h))
  · rintro k m hk ⟨f1, f2⟩
    unfold C_Search_leaveRuns_b1
    rw [f1 119 4 (by omega), e]
    refine ok_ite (fun _ => ok_grd (by omega) (ok_ltv (ok_grd (by unfold InR; omega) (ok_ltv (ok_some ⟨_, rfl, fun c i hc => ?_, fun r hr => ?_⟩))))) (fun h => by omega)
    · rw [setM_ne (by omega)]
      exact f1 c i hc
    · by_cases hh : r = k
      · simp (disch := omega) only [setM_ne, setM_hit, true_and, and_true]
      · simp (disch := omega) only [setM_ne, setM_hit, true_and, and_true]
        exact f2 r (by omega)
  · rintro m ⟨f1, -⟩
    unfold C_Search_leaveRuns_b1
    rw [f1 119 4 (by omega), e, if_neg (by omega)]
theorem readHops_ok {I0 : Lb} {minute : Int} (I : CI mc) (hm : -60 ≤ mi ∧ mi ≤ 60) (C : Ctx mc day sh mi cut m0) (u : UndQ mc day sh mi cut I0 (labC 352 m0)) (rg : Rg (nC mc) (labC 352 m0)) (lb : ∀ s, s < nC mc → minute ≤ (labC 352 m0).1 s ∧ minute ≤ (labC 352 m0).2 s) (cl : ∀ s : Nat, s < nC mc → (s : Int) = cut → (labC 352 m0).1 s = 1000000 ∧ (labC 352 m0).2 s = 1000000) (hmin : 0 ≤ minute) : Ok (C_Search_readHops minute m0) (fun m => FrSc m0 m ∧ BestQ mc day sh mi cut I0 (labC 352 m) ∧ Rg (nC mc) (labC 352 m)) := by
  have n := CI_n I
  obtain ⟨p, nw, R, H, r1, r2, r3, r4, r5, k1, k2, k3, k4, k5, k6⟩ := id C
  unfold C_Search_readHops
  refine ok_bind (leaveRuns_ok r3 r1) (fun m1 h1 => ok_ltv ?_)
  have lab1 : labC 352 m1 = labC 352 m0 := by
    unfold labC
    rw [show m1 (352 + 1) = m0 (352 + 1) from funext fun i => h1.1 _ i (by omega), show m1 (352 + 2) = m0 (352 + 2) from funext fun i => h1.1 _ i (by omega)]
  -- a hop at a place
  have hop : ∀ i : Nat, i < H → ∃ r c : Nat, hopM m0 R r c ∧ m0 342 i = klM m0 r c := k3
  have uni : ∀ r c r' c' : Nat, hopM m0 R r c → hopM m0 R r' c' → klM m0 r c = klM m0 r' c' → r = r' ∧ c = c' := by
    intro r c r' c' a b e
    have x := hop_facts I r3 hm r5 a
    have y := hop_facts I r3 hm r5 b
    rw [x.2.2.2.2.2.2.2.1, y.2.2.2.2.2.2.2.1] at e
    have d1 := key_dec (lv := lvQ mc day sh mi (phi m0 r) c) (r := r) (c := c) x.2.2.2.1 (by omega) (by omega)
    have d2 := key_dec (lv := lvQ mc day sh mi (phi m0 r') c') (r := r') (c := c') y.2.2.2.1 (by omega) (by omega)
    rw [e] at d1
    omega
  refine ok_bq2 (Q := fun x => FrSc m0 x.2 ∧ UndQ mc day sh mi cut I0 (labC 352 x.2) ∧ Rg (nC mc) (labC 352 x.2) ∧ ∀ r c c'' : Nat, hopM m0 R r c → hopM m0 R r c'' → c ≤ c'' → can (mc 2) (labC 352 x.2) (stQ mc (phi m0 r) c) (lvQ mc day sh mi (phi m0 r) c) → ¬ (stQ mc (phi m0 r) (c'' + 1) : Int) = cut → (labC 352 x.2).1 (stQ mc (phi m0 r) (c'' + 1)) ≤ arQ mc day sh mi (phi m0 r) (c'' + 1)) ((ok_for0 (n := H) (fun i m => FrSc m0 m ∧ UndQ mc day sh mi cut I0 (labC 352 m) ∧ Rg (nC mc) (labC 352 m) ∧ (∀ s, s < nC mc → minute ≤ (labC 352 m).1 s ∧ minute ≤ (labC 352 m).2 s) ∧ (∀ s : Nat, s < nC mc → (s : Int) = cut → (labC 352 m).1 s = 1000000 ∧ (labC 352 m).2 s = 1000000) ∧ (∀ r, r < R → m 346 r = 0 ∨ m 346 r = 1) ∧ (∀ r, r < R → m 346 r = 1 → ∃ c j : Nat, j < i ∧ hopM m0 R r c ∧ m0 342 j = klM m0 r c ∧ ¬ (stQ mc (phi m0 r) c : Int) = cut ∧ minute ≤ lvQ mc day sh mi (phi m0 r) c ∧ Jus (nC mc) (mc 2) (wC mc cut) (RdQ mc day sh mi cut) I0 (stQ mc (phi m0 r) c) (lvQ mc day sh mi (phi m0 r) c)) ∧ (∀ r c j : Nat, j < i → hopM m0 R r c → m0 342 j = klM m0 r c → can (mc 2) (labC 352 m) (stQ mc (phi m0 r) c) (lvQ mc day sh mi (phi m0 r) c) → m 346 r = 1) ∧ ∀ r c c'' j j' : Nat, j < i → j' < i → hopM m0 R r c → m0 342 j = klM m0 r c → hopM m0 R r c'' → m0 342 j' = klM m0 r c'' → c ≤ c'' → can (mc 2) (labC 352 m) (stQ mc (phi m0 r) c) (lvQ mc day sh mi (phi m0 r) c) → ¬ (stQ mc (phi m0 r) (c'' + 1) : Int) = cut → (labC 352 m).1 (stQ mc (phi m0 r) (c'' + 1)) ≤ arQ mc day sh mi (phi m0 r) (c'' + 1)) ⟨fun c i h => h1.1 c i (by omega), by rw [lab1]; exact u, by rw [lab1]; exact rg, by rw [lab1]; exact lb, by rw [lab1]; exact cl, fun r hr => Or.inl (h1.2 r hr), fun r hr h => by have := h1.2 r hr; omega, fun r c j h => by omega, fun r c c'' j j' h => by omega⟩ ?_ ?_).mono (fun x h => ⟨h.1, h.2.1, h.2.2.1, fun r c c'' a b d e f => ?_⟩)) (fun _ m h => ok_some ?_)
  · rintro i m hi ⟨f1, f2, f3, f4, f5, f6, f7, f8, f9⟩
    obtain ⟨r0, c0, hh, hk⟩ := hop i hi
    obtain ⟨q1, q2, q3, q4, q5, q6, q7, q8, q9⟩ := hop_facts I r3 hm r5 hh
    obtain ⟨t1, t2, t3, t4, t5, t6⟩ := NetT_run I r5 q1
    have ta := t6 c0 (by omega)
    have tb := t6 (c0 + 1) q2
    have Cm : Ctx mc day sh mi cut m := Ctx_fr I C (fun c i h => f1 c i (by unfold cX pC at h; omega))
    have Lm : CtL mc cut m := CtL_of I Cm.1 Cm.2.1
    have d := key_dec (lv := lvQ mc day sh mi (phi m0 r0) c0) (r := r0) (c := c0) q4 (by omega) (by omega)
    rw [← q8, ← hk] at d
    -- what is sorted ahead
    have srt : ∀ (j r c : Nat), j ≤ i → hopM m0 R r c → m0 342 j = klM m0 r c → lvQ mc day sh mi (phi m0 r) c ≤ lvQ mc day sh mi (phi m0 r0) c0 := by
      intro j r c hj h e
      have x := hop_facts I r3 hm r5 h
      have y := k1 j i (by omega) hj hi
      rw [e, hk, x.2.2.2.2.2.2.2.1, q8] at y
      omega
    have ord : ∀ (j c : Nat), j ≤ i → hopM m0 R r0 c → m0 342 j = klM m0 r0 c → c ≤ c0 := by
      intro j c hj h e
      have x := hop_facts I r3 hm r5 h
      have y := srt j r0 c hj h e
      apply Nat.le_of_not_lt
      intro z
      have := qv_up (day := day) (sh := sh) (mi := mi) I t2.1 z (by omega)
      omega
    have e342 : m 342 i = m0 342 i := f1 342 i (by omega)
    have e119 : m 119 11 = H := by rw [f1 119 11 (by omega)]; exact r2
    -- the second half
    have second : ∀ m1 : Mem, (∀ c i, ¬ (c = 346 ∧ i = r0) → m1 c i = m c i) → (m1 346 r0 = 0 ∨ m1 346 r0 = 1) → (m1 346 r0 = 1 → ∃ c j : Nat, j < i + 1 ∧ hopM m0 R r0 c ∧ m0 342 j = klM m0 r0 c ∧ ¬ (stQ mc (phi m0 r0) c : Int) = cut ∧ minute ≤ lvQ mc day sh mi (phi m0 r0) c ∧ Jus (nC mc) (mc 2) (wC mc cut) (RdQ mc day sh mi cut) I0 (stQ mc (phi m0 r0) c) (lvQ mc day sh mi (phi m0 r0) c)) → (m 346 r0 = 1 → m1 346 r0 = 1) → (can (mc 2) (labC 352 m) (stQ mc (phi m0 r0) c0) (lvQ mc day sh mi (phi m0 r0) c0) → m1 346 r0 = 1) → ∃ m2 : Mem, (grd (0 ≤ (r0 : Int) ∧ (r0 : Int) < 72) <| if ¬ m1 346 ((r0 : Int)).toNat = 0 then grd (InR ((c0 : Int) + 1) ∧ 0 ≤ (c0 : Int) + 1 ∧ (c0 : Int) + 1 < 8) <| bq2 (C_Labels_getOff 352 (m1 (124 + ((r0 : Int)).toNat) ((c0 : Int) + 1).toNat) (m1 (197 + ((r0 : Int)).toNat) ((c0 : Int) + 1).toNat) m1) fun r_2 m_5 => grd (InR ((i : Int) + 1)) <| ltv ((i : Int) + 1) fun index_4 => some (Sum.inl (index_4, m_5)) else grd (InR ((i : Int) + 1)) <| ltv ((i : Int) + 1) fun index_3 => some (Sum.inl (index_3, m1))) = some ((Sum.inl ((i : Int) + 1, m2) : (Int × Mem) ⊕ (Int × Mem))) ∧ (FrSc m0 m2 ∧ UndQ mc day sh mi cut I0 (labC 352 m2) ∧ Rg (nC mc) (labC 352 m2) ∧ (∀ s, s < nC mc → minute ≤ (labC 352 m2).1 s ∧ minute ≤ (labC 352 m2).2 s) ∧ (∀ s : Nat, s < nC mc → (s : Int) = cut → (labC 352 m2).1 s = 1000000 ∧ (labC 352 m2).2 s = 1000000) ∧ (∀ r, r < R → m2 346 r = 0 ∨ m2 346 r = 1) ∧ (∀ r, r < R → m2 346 r = 1 → ∃ c j : Nat, j < i + 1 ∧ hopM m0 R r c ∧ m0 342 j = klM m0 r c ∧ ¬ (stQ mc (phi m0 r) c : Int) = cut ∧ minute ≤ lvQ mc day sh mi (phi m0 r) c ∧ Jus (nC mc) (mc 2) (wC mc cut) (RdQ mc day sh mi cut) I0 (stQ mc (phi m0 r) c) (lvQ mc day sh mi (phi m0 r) c)) ∧ (∀ r c j : Nat, j < i + 1 → hopM m0 R r c → m0 342 j = klM m0 r c → can (mc 2) (labC 352 m2) (stQ mc (phi m0 r) c) (lvQ mc day sh mi (phi m0 r) c) → m2 346 r = 1) ∧ ∀ r c c'' j j' : Nat, j < i + 1 → j' < i + 1 → hopM m0 R r c → m0 342 j = klM m0 r c → hopM m0 R r c'' → m0 342 j' = klM m0 r c'' → c ≤ c'' → can (mc 2) (labC 352 m2) (stQ mc (phi m0 r) c) (lvQ mc day sh mi (phi m0 r) c) → ¬ (stQ mc (phi m0 r) (c'' + 1) : Int) = cut → (labC 352 m2).1 (stQ mc (phi m0 r) (c'' + 1)) ≤ arQ mc day sh mi (phi m0 r) (c'' + 1)) := by
      intro m1 y1 y2 y3 y4 y5
      have labm : labC 352 m1 = labC 352 m := by
        unfold labC
        rw [show m1 (352 + 1) = m (352 + 1) from funext fun i => y1 _ i (by omega), show m1 (352 + 2) = m (352 + 2) from funext fun i => y1 _ i (by omega)]
      have fl : ∀ r, r ≠ r0 → m1 346 r = m 346 r := fun r hr => y1 346 r (by omega)
      have F7 : ∀ r, r < R → m1 346 r = 1 → ∃ c j : Nat, j < i + 1 ∧ hopM m0 R r c ∧ m0 342 j = klM m0 r c ∧ ¬ (stQ mc (phi m0 r) c : Int) = cut ∧ minute ≤ lvQ mc day sh mi (phi m0 r) c ∧ Jus (nC mc) (mc 2) (wC mc cut) (RdQ mc day sh mi cut) I0 (stQ mc (phi m0 r) c) (lvQ mc day sh mi (phi m0 r) c) := by
        intro r hr h
        by_cases hh : r = r0
        · rw [hh] at h ⊢
          exact y3 h
        · rw [fl r hh] at h
          obtain ⟨c, j, j1, j2⟩ := f7 r hr h
          exact ⟨c, j, by omega, j2⟩
      have F8 : ∀ r c j : Nat, j < i + 1 → hopM m0 R r c → m0 342 j = klM m0 r c → can (mc 2) (labC 352 m) (stQ mc (phi m0 r) c) (lvQ mc day sh mi (phi m0 r) c) → m1 346 r = 1 := by
        intro r c j hj a b e
        by_cases hji : j = i
        · have := uni r c r0 c0 a hh (by rw [← b, ← hk, hji])
          rw [this.1, this.2] at e
          rw [this.1]
          exact y5 e
        · have := f8 r c j (by omega) a b e
          by_cases hr : r = r0
          · rw [hr] at this ⊢
            exact y4 this
          · rw [fl r hr]
            exact this
      have F6 : ∀ r, r < R → m1 346 r = 0 ∨ m1 346 r = 1 := fun r hr => by
        by_cases hh : r = r0
        · rw [hh]; exact y2
        · rw [fl r hh]; exact f6 r hr
      have ce : ((c0 : Int) + 1).toNat = c0 + 1 := by omega
      have est : m1 (124 + r0) (c0 + 1) = stQ mc (phi m0 r0) (c0 + 1) := by rw [y1 _ _ (by omega), f1 _ _ (by omega)]; exact tb.1
      have ear : m1 (197 + r0) (c0 + 1) = arQ mc day sh mi (phi m0 r0) (c0 + 1) := by rw [y1 _ _ (by omega), f1 _ _ (by omega)]; exact tb.2.2.1
      have L1 : CtL mc cut m1 := CtL_fr I Lm (fun c i h => y1 c i (by omega))
      rw [Int.toNat_natCast, ce, est, ear, grd_pos (by omega)]
      -- nobody is aboard, or gets off at the stop that is cut
      have stay : (∀ c j : Nat, j < i + 1 → hopM m0 R r0 c → m0 342 j = klM m0 r0 c → can (mc 2) (labC 352 m) (stQ mc (phi m0 r0) c) (lvQ mc day sh mi (phi m0 r0) c) → (stQ mc (phi m0 r0) (c0 + 1) : Int) = cut) → (FrSc m0 m1 ∧ UndQ mc day sh mi cut I0 (labC 352 m1) ∧ Rg (nC mc) (labC 352 m1) ∧ (∀ s, s < nC mc → minute ≤ (labC 352 m1).1 s ∧ minute ≤ (labC 352 m1).2 s) ∧ (∀ s : Nat, s < nC mc → (s : Int) = cut → (labC 352 m1).1 s = 1000000 ∧ (labC 352 m1).2 s = 1000000) ∧ (∀ r, r < R → m1 346 r = 0 ∨ m1 346 r = 1) ∧ (∀ r, r < R → m1 346 r = 1 → ∃ c j : Nat, j < i + 1 ∧ hopM m0 R r c ∧ m0 342 j = klM m0 r c ∧ ¬ (stQ mc (phi m0 r) c : Int) = cut ∧ minute ≤ lvQ mc day sh mi (phi m0 r) c ∧ Jus (nC mc) (mc 2) (wC mc cut) (RdQ mc day sh mi cut) I0 (stQ mc (phi m0 r) c) (lvQ mc day sh mi (phi m0 r) c)) ∧ (∀ r c j : Nat, j < i + 1 → hopM m0 R r c → m0 342 j = klM m0 r c → can (mc 2) (labC 352 m1) (stQ mc (phi m0 r) c) (lvQ mc day sh mi (phi m0 r) c) → m1 346 r = 1) ∧ ∀ r c c'' j j' : Nat, j < i + 1 → j' < i + 1 → hopM m0 R r c → m0 342 j = klM m0 r c → hopM m0 R r c'' → m0 342 j' = klM m0 r c'' → c ≤ c'' → can (mc 2) (labC 352 m1) (stQ mc (phi m0 r) c) (lvQ mc day sh mi (phi m0 r) c) → ¬ (stQ mc (phi m0 r) (c'' + 1) : Int) = cut → (labC 352 m1).1 (stQ mc (phi m0 r) (c'' + 1)) ≤ arQ mc day sh mi (phi m0 r) (c'' + 1)) := by
        intro hno
        rw [labm]
        refine ⟨fun c i h => by rw [y1 c i (by omega)]; exact f1 c i h, f2, f3, f4, f5, F6, F7, F8, fun r c c'' j j' a1 a2 a3 a4 a5 a6 a7 a8 a9 => ?_⟩
        by_cases hr : r = r0
        · rw [hr] at a3 a4 a5 a6 a8 a9 ⊢
          by_cases hc : c'' = c0
          · rw [hc] at a9
            exact absurd (hno c j a1 a3 a4 a8) a9
          · have o := ord j' c'' (by omega) a5 a6
            have o2 : j' ≠ i := fun z => hc (uni r0 c'' r0 c0 a5 hh (by rw [← a6, ← hk, z])).2
            have o3 : j ≠ i := fun z => by
              have := (uni r0 c r0 c0 a3 hh (by rw [← a4, ← hk, z])).2
              omega
            exact f9 r0 c c'' j j' (by omega) (by omega) a3 a4 a5 a6 a7 a8 a9
        · have o2 : j' ≠ i := fun z => hr (uni r c'' r0 c0 a5 hh (by rw [← a6, ← hk, z])).1
          have o3 : j ≠ i := fun z => hr (uni r c r0 c0 a3 hh (by rw [← a4, ← hk, z])).1
          exact f9 r c c'' j j' (by omega) (by omega) a3 a4 a5 a6 a7 a8 a9
      by_cases hz : m1 346 r0 = 0
      · refine ⟨m1, ?_, stay (fun c j a b e z => ?_)⟩
        · rw [if_neg (fun q => q hz), grd_pos (by unfold InR; omega)]
          rfl
        · have := F8 r0 c j a b e z
          omega
      · rw [if_pos hz, grd_pos (by unfold InR; omega)]
        by_cases hcut : (stQ mc (phi m0 r0) (c0 + 1) : Int) = cut
        · obtain ⟨rr, er, hr⟩ := getOff_cut (x := 352) (t := arQ mc day sh mi (phi m0 r0) (c0 + 1)) L1 hcut
          refine ⟨m1, ?_, stay (fun _ _ _ _ _ _ => hcut)⟩
          rw [er, hr]
          show grd _ _ = _
          rw [grd_pos (by unfold InR; omega)]
          rfl
        · have hz1 : m1 346 r0 = 1 := by
            rcases y2 with y2 | y2
            · exact absurd y2 hz
            · exact y2
          obtain ⟨c1, j1, b1, b2, b3, b4, b6, b5⟩ := y3 hz1
          have c1le := ord j1 c1 (by omega) b2 b3
          obtain ⟨⟨z, m2⟩, er, g1, g2, -⟩ := getOff_ok (x := 352) (t := arQ mc day sh mi (phi m0 r0) (c0 + 1)) I (by omega) L1 tb.2.1 hcut (by omega) (by rw [labm]; exact f3)
          dsimp only at g1 g2
          rw [labm] at g2
          have wpos : ∀ v, v < nC mc → 0 ≤ wC mc cut (stQ mc (phi m0 r0) (c0 + 1)) v := fun v hv => CI_w0 I _ _ tb.2.1 hv
          have rd : RdQ mc day sh mi cut (stQ mc (phi m0 r0) c1) (lvQ mc day sh mi (phi m0 r0) c1) (stQ mc (phi m0 r0) (c0 + 1)) (arQ mc day sh mi (phi m0 r0) (c0 + 1)) := ⟨phi m0 r0, c1, c0 + 1, t1, t2, by omega, q2, rfl, rfl, rfl, rfl, b4, hcut⟩
          have fl2 : ∀ r, m2 346 r = m1 346 r := fun r => g1 346 r (by omega)
          have back : ∀ r c j : Nat, j < i + 1 → hopM m0 R r c → m0 342 j = klM m0 r c → can (mc 2) (labC 352 m2) (stQ mc (phi m0 r) c) (lvQ mc day sh mi (phi m0 r) c) → can (mc 2) (labC 352 m) (stQ mc (phi m0 r) c) (lvQ mc day sh mi (phi m0 r) c) := by
            intro r c j hj a b e
            have hf := hop_facts I r3 hm r5 a
            have st := ((NetT_run I r5 hf.1).2.2.2.2.2 c (by omega)).2.1
            have := srt j r c (by omega) a b
            rw [g2] at e
            exact can_gof (CI_g I st).1 wpos st (by omega) e
          refine ⟨m2, ?_, fun c i h => by rw [g1 c i (by omega), y1 c i (by omega)]; exact f1 c i h, ?_, ?_, fun s hs => ?_, fun s hs hc => ?_, fun r hr => by rw [fl2]; exact F6 r hr, fun r hr h => F7 r hr (by rw [← fl2]; exact h), fun r c j a1 a2 a3 a4 => by rw [fl2]; exact F8 r c j a1 a2 a3 (back r c j a1 a2 a3 a4), fun r c c'' j j' a1 a2 a3 a4 a5 a6 a7 a8 a9 => ?_⟩
          · rw [er]
            show grd _ _ = _
            rw [grd_pos (by unfold InR; omega)]
            rfl
          · rw [g2]
            exact und_gof f2 b5 rd tb.2.1
          · rw [g2]
            exact gof_rg f3 wpos tb.2.1 (by omega)
          · have a := f4 s hs
            have b := wpos s hs
            have e : minute ≤ arQ mc day sh mi (phi m0 r0) (c0 + 1) := by
              have := srt j1 r0 c1 (by omega) b2 b3
              omega
            rw [g2, gof_1, gof_2]
            constructor
            · split
              · exact e
              · exact a.1
            · split
              · omega
              · exact a.2
          · have a := f5 s hs hc
            have hne : s ≠ stQ mc (phi m0 r0) (c0 + 1) := fun q => hcut (by rw [← q]; exact hc)
            have wcut : wC mc cut (stQ mc (phi m0 r0) (c0 + 1)) s = 1000000 := fw_cut (CI_TB I) _ _ _ n.2 (by omega) (by omega) (Or.inr hc)
            rw [g2, gof_1, gof_2, if_neg (fun q => hne q.1), if_neg (by omega)]
            exact a
          · have can' := back r c j a1 a3 a4 a8
            have le := gof_le1 (N := nC mc) (w := wC mc cut) (L := labC 352 m) (s := stQ mc (phi m0 r0) (c0 + 1)) (t := arQ mc day sh mi (phi m0 r0) (c0 + 1)) (stQ mc (phi m0 r) (c'' + 1))
            by_cases hc : r = r0 ∧ c'' = c0
            · rw [hc.1, hc.2, g2]
              exact gof_at
            · have o2 : j' ≠ i := fun z => hc (uni r c'' r0 c0 a5 hh (by rw [← a6, ← hk, z]))
              have o3 : j ≠ i := fun z => by
                have y := uni r c r0 c0 a3 hh (by rw [← a4, ← hk, z])
                rw [y.1] at a5 a6
                have := ord j' c'' (by omega) a5 a6
                exact hc ⟨y.1, by omega⟩
              have := f9 r c c'' j j' (by omega) (by omega) a3 a4 a5 a6 a7 can' a9
              rw [g2]
              omega
    have est0 : m (124 + r0) c0 = stQ mc (phi m0 r0) c0 := by rw [f1 _ _ (by omega)]; exact ta.1
    have noc : can (mc 2) (labC 352 m) (stQ mc (phi m0 r0) c0) (lvQ mc day sh mi (phi m0 r0) c0) → ¬ (stQ mc (phi m0 r0) c0 : Int) = cut ∧ minute ≤ lvQ mc day sh mi (phi m0 r0) c0 := by
      rintro ⟨z1, z2⟩
      have a := f4 _ ta.2.1
      have b := CI_g I ta.2.1
      refine ⟨fun z => ?_, by omega⟩
      have := f5 _ ta.2.1 z
      omega
    unfold C_Search_readHops_b1
    simp only [Int.toNat_natCast]
    rw [e119, e342]
    refine ok_ite (fun _ => ok_grd (by omega) (ok_ltv (ok_ltv (ok_ltv (ok_ltv ?_))))) (fun h => by omega)
    rw [d.1, d.2.1, d.2.2]
    refine ok_ltv (ok_grd (by omega) (ok_ite (fun h => ok_grd (by omega) ?_) (fun h => ?_)))
    · rw [Int.toNat_natCast, Int.toNat_natCast, est0]
      refine ok_bind (canGetOn_ok I Lm ta.2.1 f3) (fun z hz => ok_grd (by omega) (ok_ltv ?_))
      obtain ⟨m2, e, inv⟩ := second (setM m 346 r0 z) (fun c i h => setM_ne (by omega)) (by rw [setM_same]; omega) (fun q => by
        rw [setM_same] at q
        rcases hz with hz | hz
        · exact ⟨c0, i, by omega, hh, hk, (noc hz.2).1, (noc hz.2).2, und_jus f2 ta.2.1 hz.2⟩
        · omega) (fun q => by rw [setM_same]; rw [Int.toNat_natCast] at h; omega) (fun q => by
        rw [setM_same]
        rcases hz with hz | hz
        · exact hz.1
        · exact absurd q hz.2)
      exact ⟨_, e, m2, rfl, inv⟩
    · rw [Int.toNat_natCast] at h
      obtain ⟨m2, e, inv⟩ := second m (fun c i h => rfl) (f6 r0 q1) (fun q => by
        obtain ⟨c, j, j1, j2⟩ := f7 r0 q1 q
        exact ⟨c, j, by omega, j2⟩) (fun q => q) (fun q => by
        have := (noc q).2
        rcases f6 r0 q1 with z | z
        · exact absurd ⟨this, z⟩ h
        · exact z)
      exact ⟨_, e, m2, rfl, inv⟩
  · rintro m ⟨f1, -⟩
    unfold C_Search_readHops_b1
    rw [f1 119 11 (by omega), r2, if_neg (by omega)]
  · obtain ⟨-, -, -, -, -, -, -, -, f9⟩ := h
    obtain ⟨j, j1, j2⟩ := k4 r c a
    obtain ⟨j', j3, j4⟩ := k4 r c'' b
    exact f9 r c c'' j j' j1 j3 a j2 b j4 d e f
  · dsimp only at h
    obtain ⟨g1, g2, g3, g4⟩ := h
    refine ⟨g1, best_of g2 (fun q hq hiq c c' a1 a2 a3 a4 a5 => ?_), g3⟩
    obtain ⟨r, hr, er⟩ := r5.2.2 q hq hiq
    have up : lvQ mc day sh mi q c ≤ lvQ mc day sh mi q (c' - 1) := by
      by_cases hh : c = c' - 1
      · rw [hh]; omega
      · have := qv_up (day := day) (sh := sh) (mi := mi) I hiq.1 (c := c) (c' := c' - 1) (by omega) (by omega)
        omega
    have lv0 : 0 ≤ lvQ mc day sh mi q c := a5.1
    have e : c' - 1 + 1 = c' := by omega
    have := g4 r c (c' - 1) (hop_of I r5 hr (by rw [er]; omega) (by rw [er]; exact lv0)) (hop_of I r5 hr (by rw [er]; omega) (by rw [er]; omega)) (by omega) (by rw [er]; exact a5) (by rw [er, e]; exact a4)
    rw [er, e] at this
    exact this
end SCAN
