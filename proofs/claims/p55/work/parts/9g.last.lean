/-! ===== last ===== -/
def FvB (mc : Mem) (day : Int) (a to : Nat) (x v : Int) : Prop := ∃ L, BestQ mc day (-1) 0 (-1) (ini (wC mc (-1)) a x) L ∧ ∀ y, v ≤ y ↔ ArrB (nC mc) (wC mc (-1)) to y L
def CdB (mc : Mem) (day : Int) (a : Nat) (x : Int) : Prop := ∃ q c : Nat, q < 72 ∧ isQ mc day q ∧ c + 1 < lenQ mc q ∧ 0 ≤ lvQ mc day (-1) 0 q c ∧ x = lvQ mc day (-1) 0 q c - dg (wC mc (-1)) a (stQ mc q c)
def KvB (mc : Mem) (day : Int) (a to : Nat) (y v : Int) : Prop := (∀ x L, 0 ≤ x → BestQ mc day (-1) 0 (-1) (ini (wC mc (-1)) a x) L → (ArrB (nC mc) (wC mc (-1)) to y L ↔ x ≤ v)) ∧ -1 ≤ v ∧ v ≤ 10000 ∧ (v < 0 ∨ CdB mc day a v)
theorem best_ge {N : Nat} {g : Nat → Int} {w : Nat → Nat → Int} {Rd : RdT} {a : Nat} {x : Int} {L : Lb} (hx : x ≤ 1000000) (hg : ∀ s, s < N → 0 ≤ g s) (hw : ∀ u v, u < N → v < N → 0 ≤ w u v) (hR : ∀ s t s' t', Rd s t s' t' → s < N ∧ s' < N ∧ t < t') (ha : a < N) (B : Best N g w Rd (ini w a x) L) : ∀ s, s < N → x ≤ L.1 s ∧ x ≤ L.2 s := by
  refine B.1.2.2 (fun _ => x, fun _ => x) ⟨fun s t s' t' r c => ?_, fun s v hs hv _ => ?_⟩ (fun s hs => ?_)
  · have k := hR s t s' t' r
    have := hg s k.1
    have c2 := c.2
    dsimp only at c2 ⊢
    omega
  · have := hw s v hs hv
    dsimp only
    omega
  · have := hw a s ha hs
    simp only [ini]
    refine ⟨hx, ?_⟩
    split
    · omega
    · split <;> omega
section LAS
variable {mc mm m m0 : Mem} {day : Int}
theorem rdQ3 (I : CI mc) : ∀ s t s' t', RdQ mc day (-1) 0 (-1) s t s' t' → s < nC mc ∧ s' < nC mc ∧ t < t' := fun _ _ _ _ r => RdQ_st I r
theorem bestQ_ge {a : Nat} {x : Int} {L : Lb} (I : CI mc) (hx : x ≤ 1000000) (ha : a < nC mc) (B : BestQ mc day (-1) 0 (-1) (ini (wC mc (-1)) a x) L) : ∀ s, s < nC mc → x ≤ L.1 s ∧ x ≤ L.2 s := best_ge hx (fun s hs => (CI_g I hs).1) (CI_w0 I) (rdQ3 I) ha B
theorem atByRides_ok {to : Nat} (I : CI mc) (C : CtL mc (-1) m) (ht : to < nC mc) (rg : Rg (nC mc) (labC 352 m)) : Ok (C_Labels_atByRides 352 to m) (fun v => (∀ y, v ≤ y ↔ ArrB (nC mc) (wC mc (-1)) to y (labC 352 m)) ∧ 0 ≤ v ∧ v ≤ 1000000) := by
  have n := CI_n I
  have bt := rg to ht
  unfold C_Labels_atByRides
  rw [Int.toNat_natCast]
  refine ok_grd (by omega) (ok_ltv (ok_ltv (ok_bq2 (Q := fun r => (∀ y, r.1 ≤ y ↔ ArrB (nC mc) (wC mc (-1)) to y (labC 352 m)) ∧ 0 ≤ r.1 ∧ r.1 ≤ 1000000) ?_ (fun _ _ h => ok_some h))))
  refine ok_loop (fun s => ∃ k : Nat, s.2 = k ∧ k ≤ nC mc ∧ 0 ≤ s.1 ∧ s.1 ≤ 1000000 ∧ ∀ y, s.1 ≤ y ↔ ((labC 352 m).1 to ≤ y ∨ ∃ v, v < k ∧ (labC 352 m).1 v + wC mc (-1) v to ≤ y)) (fun s => nC mc - s.2.toNat) ⟨0, rfl, Nat.zero_le _, ?_, ?_, fun y => ⟨fun h => Or.inl h, fun h => ?_⟩⟩ ?_
  · exact bt.1
  · exact bt.2.1
  · rcases h with h | ⟨v, h, -⟩
    · exact h
    · omega
  · rintro ⟨z, kk⟩ ⟨k, e1, e2, b1, b2, e3⟩
    dsimp only at e1 b1 b2 e3 ⊢
    subst e1
    have e0 : m 1 0 = nC mc := C.1
    unfold C_Labels_atByRides_b1
    rw [e0]
    refine ok_ite (fun hk => ?_) (fun hk => ok_some ⟨fun y => ?_, b1, b2⟩)
    · have hk2 : k < nC mc := by omega
      have wb := CI_w (cut := -1) I hk2 ht
      have ew : m (17 + k) to = wC mc (-1) k to := C.2.2.2 k to hk2 ht
      have bk := rg k hk2
      have el : m (352 + 1) k = (labC 352 m).1 k := rfl
      simp only [Int.toNat_natCast]
      rw [ew, el]
      refine ok_grd (by unfold InR; omega) (ok_ltv (ok_grd (by unfold InR; omega) (ok_ltv (ok_some ⟨⟨k + 1, by dsimp only; omega, by omega, ?_, ?_, fun y => ?_⟩, by dsimp only; omega⟩))))
      · dsimp only; split <;> omega
      · dsimp only; split <;> omega
      · dsimp only
        have := e3 y
        constructor
        · intro h
          by_cases hh : z ≤ y
          · rcases this.mp hh with q | ⟨v, q, q2⟩
            · exact Or.inl q
            · exact Or.inr ⟨v, by omega, q2⟩
          · split at h
            · exact Or.inr ⟨k, by omega, h⟩
            · omega
        · rintro (q | ⟨v, q, q2⟩)
          · have := this.mpr (Or.inl q)
            split <;> omega
          · by_cases hv : v = k
            · rw [hv] at q2
              split <;> omega
            · have := this.mpr (Or.inr ⟨v, by omega, q2⟩)
              split <;> omega
    · have : k = nC mc := by omega
      rw [this] at e3
      exact e3 y
theorem byRide_ok {to : Nat} (I : CI mc) (r : RelM mc day (-1) 0 (-1) m) (ht : to < nC mc) (rg : Rg (nC mc) (labM m)) : Ok (M_byRide to m) (fun v => (∀ y, v ≤ y ↔ ArrB (nC mc) (wC mc (-1)) to y (labM m)) ∧ 0 ≤ v ∧ v ≤ 1000000) := by
  have n := CI_n I
  have bt := rg to ht
  unfold M_byRide
  rw [Int.toNat_natCast]
  refine ok_grd (by omega) (ok_ltv (ok_ltv (ok_bq2 (Q := fun r => (∀ y, r.1 ≤ y ↔ ArrB (nC mc) (wC mc (-1)) to y (labM m)) ∧ 0 ≤ r.1 ∧ r.1 ≤ 1000000) ?_ (fun _ _ h => ok_some h))))
  refine ok_loop (fun s => ∃ k : Nat, s.2 = k ∧ k ≤ nC mc ∧ 0 ≤ s.1 ∧ s.1 ≤ 1000000 ∧ ∀ y, s.1 ≤ y ↔ ((labM m).1 to ≤ y ∨ ∃ v, v < k ∧ (labM m).1 v + wC mc (-1) v to ≤ y)) (fun s => nC mc - s.2.toNat) ⟨0, rfl, Nat.zero_le _, ?_, ?_, fun y => ⟨fun h => Or.inl h, fun h => ?_⟩⟩ ?_
  · exact bt.1
  · exact bt.2.1
  · rcases h with h | ⟨v, h, -⟩
    · exact h
    · omega
  · rintro ⟨z, kk⟩ ⟨k, e1, e2, b1, b2, e3⟩
    dsimp only at e1 b1 b2 e3 ⊢
    subst e1
    have e0 : m 0 1 = nC mc := by rw [r.1.1]; exact n.1
    unfold M_byRide_b1
    rw [e0]
    refine ok_ite (fun hk => ?_) (fun hk => ok_some ⟨fun y => ?_, b1, b2⟩)
    · have hk2 : k < nC mc := by omega
      have wb := CI_w (cut := -1) I hk2 ht
      have wd := CI_wd (cut := -1) I ht
      have ew : m 3 (12 * k + to) = dg (wC mc (-1)) k to := r.2.2.1 k to hk2 ht
      have db : 0 ≤ dg (wC mc (-1)) k to ∧ dg (wC mc (-1)) k to ≤ 1000000 := by unfold dg; split <;> omega
      have bk := rg k hk2
      have el : m 16 k = (labM m).1 k := rfl
      have ei : (12 * (k : Int) + (to : Int)).toNat = 12 * k + to := by omega
      rw [ei, ew, Int.toNat_natCast, el]
      refine ok_grd (by unfold InR; omega) (ok_ltv (ok_ltv (ok_grd (by unfold InR; omega) (ok_ltv (ok_some ⟨⟨k + 1, by dsimp only; omega, by omega, ?_, ?_, fun y => ?_⟩, by dsimp only; omega⟩)))))
      · dsimp only; split <;> omega
      · dsimp only; split <;> omega
      · dsimp only
        have t := e3 y
        have t2 := (e3 ((labM m).1 to)).mpr (Or.inl (Int.le_refl _))
        constructor
        · intro h
          by_cases hh : z ≤ y
          · rcases t.mp hh with q | ⟨v, q, q2⟩
            · exact Or.inl q
            · exact Or.inr ⟨v, by omega, q2⟩
          · split at h
            · by_cases hkt : k = to
              · rw [hkt] at h
                unfold dg at h
                rw [if_pos rfl] at h
                exact Or.inl (by omega)
              · unfold dg at h
                rw [if_neg hkt] at h
                exact Or.inr ⟨k, by omega, h⟩
            · omega
        · rintro (q | ⟨v, q, q2⟩)
          · have := t.mpr (Or.inl q)
            split <;> omega
          · by_cases hv : v = k
            · rw [hv] at q2
              by_cases hkt : k = to
              · rw [hkt] at q2
                have := t.mpr (Or.inl (by omega))
                split <;> omega
              · have : dg (wC mc (-1)) k to = wC mc (-1) k to := if_neg hkt
                split <;> omega
            · have := t.mpr (Or.inr ⟨v, by omega, q2⟩)
              split <;> omega
    · have : k = nC mc := by omega
      rw [this] at e3
      exact e3 y
def FrBk (m0 m : Mem) : Prop := ∀ c i, ¬ (c = 346 ∨ c = 347 ∨ c = 348) → m c i = m0 c i
theorem lastRides_ok {a to : Nat} {y : Int} (I : CI mc) (C : Ctx mc day (-1) 0 (-1) m0) (ha : a < nC mc) (ht : to < nC mc) (hy : 0 ≤ y ∧ y ≤ 999999) : Ok (C_Search_lastLeaveByRides a to y m0) (fun x => FrBk m0 x.2 ∧ KvB mc day a to y x.1) := by
  have n := CI_n I
  unfold C_Search_lastLeaveByRides
  refine ok_bind (scanBack_ok I C ht hy) (fun m1 h1 => ok_grd (by omega) (ok_ltv (ok_ltv ?_)))
  obtain ⟨f1, ⟨sn, cp, bd, vl⟩, cr⟩ := h1
  rw [Int.toNat_natCast]
  have L1 : CtL mc (-1) m1 := CtL_fr I (CtL_of I C.1 C.2.1) (fun c i h => f1 c i (by omega))
  refine ok_bq2 (Q := fun s => ∀ x, x ≤ s.1 ↔ LvB (nC mc) (wC mc (-1)) (m1 347) a x) ?_ (fun v _ h => ok_some ⟨f1, ?_⟩)
  · refine ok_loop (fun s => ∃ k : Nat, s.2 = k ∧ k ≤ nC mc ∧ ∀ x, x ≤ s.1 ↔ (x ≤ m1 347 a ∨ ∃ v, v < k ∧ x ≤ m1 347 v - wC mc (-1) a v)) (fun s => nC mc - s.2.toNat) ⟨0, rfl, Nat.zero_le _, fun x => ⟨fun h => Or.inl h, fun h => ?_⟩⟩ ?_
    · rcases h with h | ⟨v, h, -⟩
      · exact h
      · omega
    · rintro ⟨z, kk⟩ ⟨k, e1, e2, e3⟩
      dsimp only at e1 e3 ⊢
      subst e1
      unfold C_Search_lastLeaveByRides_b1
      rw [L1.1]
      refine ok_ite (fun hk => ?_) (fun hk => ok_some (fun x => ?_))
      · have hk2 : k < nC mc := by omega
        have wb := CI_w (cut := -1) I ha hk2
        have ew : m1 (17 + a) k = wC mc (-1) a k := L1.2.2.2 a k ha hk2
        have bk := bd k hk2
        simp only [Int.toNat_natCast]
        rw [ew]
        refine ok_grd (by unfold InR; omega) (ok_ltv (ok_grd (by unfold InR; omega) (ok_ltv (ok_some ⟨⟨k + 1, by dsimp only; omega, by omega, fun x => ?_⟩, by dsimp only; omega⟩))))
        dsimp only
        have t := e3 x
        constructor
        · intro h
          by_cases hh : x ≤ z
          · rcases t.mp hh with q | ⟨v, q, q2⟩
            · exact Or.inl q
            · exact Or.inr ⟨v, by omega, q2⟩
          · split at h
            · exact Or.inr ⟨k, by omega, h⟩
            · omega
        · rintro (q | ⟨v, q, q2⟩)
          · have := t.mpr (Or.inl q)
            split <;> omega
          · by_cases hv : v = k
            · rw [hv] at q2
              split <;> omega
            · have := t.mpr (Or.inr ⟨v, by omega, q2⟩)
              split <;> omega
      · have : k = nC mc := by omega
        rw [this] at e3
        exact e3 x
  · dsimp only at h ⊢
    have ba := bd a ha
    refine ⟨fun x L hx B => ?_, ?_, ?_, ?_⟩
    · rw [h x]
      exact dual sn cp cr (fun s hs => by have := bd s hs; omega) (fun s hs => (CI_g I hs).1) (CI_w0 I) (rdQ3 I) ha ht hx B
    · exact (h (-1)).mpr (Or.inl ba.1)
    · rcases (h v).mp (Int.le_refl _) with q | ⟨s, hs, q⟩
      · omega
      · have := bd s hs
        have wb := CI_w (cut := -1) I ha hs
        omega
    · by_cases hv : v < 0
      · exact Or.inl hv
      · right
        rcases (h v).mp (Int.le_refl _) with q | ⟨s, hs, q⟩
        · have e := (h (m1 347 a)).mpr (Or.inl (Int.le_refl _))
          rcases vl a ha with z | ⟨qq, c, o1, o2, o3, o4, o5, o6⟩
          · omega
          · refine ⟨qq, c, o1, o2, o3, o4, ?_⟩
            rw [o6, o5]
            unfold dg
            rw [if_pos rfl]
            omega
        · have e := (h (m1 347 s - wC mc (-1) a s)).mpr (Or.inr ⟨s, hs, Int.le_refl _⟩)
          have wb := CI_w (cut := -1) I ha hs
          have b := bd s hs
          rcases vl s hs with z | ⟨qq, c, o1, o2, o3, o4, o5, o6⟩
          · omega
          · refine ⟨qq, c, o1, o2, o3, o4, ?_⟩
            rw [o6, o5]
            unfold dg
            by_cases hh : a = s
            · have := CI_wd (cut := -1) I ha
              rw [← hh] at e q b
              omega
            · rw [if_neg hh]
              omega
/-- the last minute, also by foot -/
def LlB (mc : Mem) (day : Int) (a b : Nat) (y v : Int) : Prop := v ≤ y ∧ -2000000 ≤ v ∧ ∀ x L, 0 ≤ x → x ≤ 100000 → BestQ mc day (-1) 0 (-1) (ini (wC mc (-1)) a x) L → (min (L.1 b) (L.2 b) ≤ y ↔ x ≤ v)
theorem lastLeave_ok {a b : Nat} {y : Int} (I : CI mc) (C : Ctx mc day (-1) 0 (-1) m0) (ha : a < nC mc) (hb : b < nC mc) (hy : 0 ≤ y ∧ y ≤ 999999) (ex : ∀ x : Int, 0 ≤ x → x ≤ 10000 → ∃ L, BestQ mc day (-1) 0 (-1) (ini (wC mc (-1)) a x) L) : Ok (C_Search_lastLeave a b y m0) (fun x => FrBk m0 x.2 ∧ LlB mc day a b y x.1) := by
  have n := CI_n I
  unfold C_Search_lastLeave
  refine ok_bq2 (lastRides_ok I C ha hb hy) (fun v m1 h1 => ok_ltv ?_)
  dsimp only at h1
  obtain ⟨f1, k1, k2, k3, k4⟩ := h1
  have L1 : CtL mc (-1) m1 := CtL_fr I (CtL_of I C.1 C.2.1) (fun c i h => f1 c i (by omega))
  have ew : m1 (17 + a) b = wC mc (-1) a b := L1.2.2.2 a b ha hb
  have wb := CI_w (cut := -1) I ha hb
  rw [Int.toNat_natCast, Int.toNat_natCast, ew]
  have vy : v ≤ y := by
    by_cases hv : 0 ≤ v
    · obtain ⟨L, B⟩ := ex v hv k3
      have ge := bestQ_ge I (by omega) ha B
      rcases (k1 v L hv B).mpr (Int.le_refl _) with q | ⟨s, hs, q⟩
      · have := ge b hb; omega
      · have := ge s hs
        have := CI_w (cut := -1) I hs hb
        omega
    · omega
  refine ok_grd (by unfold InR; omega) (ok_ltv (ok_some ⟨f1, ?_, ?_, fun x L hx hx2 B => ?_⟩))
  · dsimp only
    split <;> split <;> omega
  · dsimp only
    split <;> split <;> omega
  · dsimp only
    have bf := best_foot (y := y) (CI_w0 I) hb B (fun s t s' t' r => (RdQ_st I r).1)
    rw [k1 x L hx B] at bf
    have e1 : min (L.1 b) (L.2 b) ≤ y ↔ (L.1 b ≤ y ∨ L.2 b ≤ y) := by omega
    rw [e1, bf]
    simp only [ini]
    by_cases hab : a = b
    · have e2 : (if (a : Int) = (b : Int) then y else y - wC mc (-1) a b) = y := if_pos (by omega)
      rw [e2, if_pos hab.symm]
      split <;> omega
    · have e2 : (if (a : Int) = (b : Int) then y else y - wC mc (-1) a b) = y - wC mc (-1) a b := if_neg (by omega)
      rw [e2, if_neg (fun q => hab q.symm)]
      split <;> split <;> omega
theorem best_ex {a : Nat} (I : Inv mc mm) (hd : 0 ≤ day ∧ day ≤ 27) (ha : a < nC mc) : ∀ x : Int, 0 ≤ x → x ≤ 10000 → ∃ L, BestQ mc day (-1) 0 (-1) (ini (wC mc (-1)) a x) L := by
  intro x h0 h1
  have CI0 : CI mc := ⟨_, I⟩
  obtain ⟨m1, -, l⟩ := lay_ok (sh := -1) (mi := 0) CI0 hd (by omega) (Ctx_self I)
  obtain ⟨m2, -, s⟩ := scan_ok (cut := -1) (a := a) (t := x) CI0 (by omega) ⟨l.2.1, l.2.2.1, l.2.2.2⟩ ha (by omega) ⟨h0, h1⟩
  exact ⟨_, s.2.1⟩
theorem FrBk_ctx {m : Mem} (I : CI mc) (C : Ctx mc day (-1) 0 (-1) m0) (f : FrBk m0 m) : Ctx mc day (-1) 0 (-1) m := Ctx_fr I C (fun c i h => f c i (by unfold cX pC at h; omega))
theorem mLast_ok {a b : Nat} {y v : Int} (I : Inv mc mm) (hd : 0 ≤ day ∧ day ≤ 27) (ha : a < nC mc) (hb : b < nC mc) (hy : 0 ≤ y ∧ y ≤ 2879) (h : LlB mc day a b y v) (hv : 0 ≤ v) (e0 : mm 0 0 = 0) : Ok (loop (fun s => M_last_b1 a b day y s.1 s.2.1 s.2.2) ((0 : Int), y, mm)) (fun r => r.1 = v ∧ r.2.2 0 0 = 0 ∧ ∀ c i, pM c i → r.2.2 c i = mm c i) := by
  have CI0 : CI mc := ⟨_, I⟩
  refine ok_loop (fun s => 0 ≤ s.1 ∧ s.1 ≤ v ∧ v ≤ s.2.1 ∧ s.2.1 ≤ y ∧ s.2.2 0 0 = 0 ∧ ∀ c i, pM c i → s.2.2 c i = mm c i) (fun s => (s.2.1 - s.1).toNat) ⟨Int.le_refl _, hv, h.1, Int.le_refl _, e0, fun _ _ _ => rfl⟩ ?_
  rintro ⟨lo, hi, m⟩ ⟨b1, b2, b3, b4, b5, b6⟩
  dsimp only at b1 b2 b3 b4 b5 b6 ⊢
  have J : Inv mc m := Inv_fr I (fun _ _ _ => rfl) b6
  unfold M_last_b1
  refine ok_ite (fun hl => ?_) (fun hl => ok_some ⟨by dsimp only; omega, b5, b6⟩)
  obtain ⟨md, hmd⟩ : ∃ md, md = (lo + hi + 1).tdiv 2 := ⟨_, rfl⟩
  have hmd2 : md = (lo + hi + 1) / 2 := by rw [hmd, Int.tdiv_eq_ediv_of_nonneg (by omega)]
  rw [← hmd]
  refine ok_grd (by unfold InR; omega) (ok_ltv (ok_bq2 (earliestOf_ok (sh := -1) (mi := 0) (cut := -1) (t := md) CI0 hd (by omega) (relM_set J) ha hb (by omega)) (fun t m2 e => ?_)))
  dsimp only at e
  obtain ⟨e1, e2, e3, e4, e5⟩ := e
  have k := h.2.2 md _ (by omega) (by omega) e3
  rw [← e5] at k
  have g0 : m2 0 0 = 0 := by rw [e1 0 0 (by omega) (by omega)]; exact b5
  have g1 : ∀ c i, pM c i → m2 c i = mm c i := fun c i q => by
    rw [e1 c i (by unfold pM at q; omega) (by unfold pM at q; omega)]
    exact b6 c i q
  refine ok_ite (fun ht => ok_ltv (ok_some ⟨⟨by dsimp only; omega, by dsimp only; omega, by dsimp only; omega, b4, g0, g1⟩, by dsimp only; omega⟩)) (fun ht => ok_grd (by unfold InR; omega) (ok_ltv (ok_some ⟨⟨b1, b2, by dsimp only; omega, by dsimp only; omega, g0, g1⟩, by dsimp only; omega⟩)))
theorem st_last : ST_last Inv := by
  intro mc mm p0 p1 p2 p3 I _ _ _ _
  obtain ⟨i1, i2, i3, -⟩ := id I.1
  have CI0 : CI mc := ⟨_, I⟩
  have n := CI_n CI0
  refine ag_of ?_
  unfold C_last
  repeat' (first
    | with_reducible refine ok_ltv ?_
    | with_reducible refine ok_tbd_inl ?_
    | with_reducible refine ok_tbd_inr ?_
    | with_reducible refine wp_bind ?_
    | with_reducible refine wp_bq1 ?_
    | with_reducible refine wp_bq2 ?_
    | (with_reducible refine wp_needNumber (fun _ => ?_) (fun _ _ => ?_)) <;> (try (exfalso; omega))
    | (with_reducible refine wp_needDay (fun _ => ?_) (fun _ _ => ?_)) <;> (try (exfalso; omega))
    | (with_reducible refine wp_needStop (fun _ => ?_) (fun _ _ => ?_)) <;> (try (exfalso; omega))
    | (with_reducible refine wp_needService (fun _ => ?_) (fun _ _ => ?_)) <;> (try (exfalso; omega))
    | (with_reducible refine wp_needTrip (fun _ => ?_) (fun _ _ => ?_)) <;> (try (exfalso; omega))
    | (with_reducible refine wp_needCall (by omega) (fun _ => ?_) (fun _ _ _ _ => ?_)) <;> (try (exfalso; omega))
    | (with_reducible refine wp_needUnlike (fun _ => ?_) (fun _ => ?_)) <;> (try (exfalso; omega))
    | (with_reducible refine wp_needFound (fun _ => ?_) (fun _ => ?_)) <;> (try (exfalso; omega))
    | (with_reducible refine wp_needRoomForTrip (fun _ => ?_) (fun _ => ?_)) <;> (try (exfalso; omega))
    | (with_reducible refine wp_needRoomForSigns (by unfold InR; omega) (fun _ => ?_) (fun _ => ?_)) <;> (try (exfalso; omega))
    | (with_reducible refine wp_isNoStop (by (try simp (disch := omega) only [setM_ne, setM_hit, true_and, and_true]); omega) (by (try simp (disch := omega) only [setM_ne, setM_hit, true_and, and_true]); omega) (fun h => ?_) (fun h1 h2 => ?_)) <;> (try simp (disch := omega) only [setM_ne, setM_hit, true_and, and_true] at h) <;> (try simp (disch := omega) only [setM_ne, setM_hit, true_and, and_true] at h1) <;> (try simp (disch := omega) only [setM_ne, setM_hit, true_and, and_true] at h2) <;> (try (exfalso; omega))
    | (with_reducible refine wp_isNoService (by (try simp (disch := omega) only [setM_ne, setM_hit, true_and, and_true]); omega) (by (try simp (disch := omega) only [setM_ne, setM_hit, true_and, and_true]); omega) (fun h => ?_) (fun h1 h2 => ?_)) <;> (try simp (disch := omega) only [setM_ne, setM_hit, true_and, and_true] at h) <;> (try simp (disch := omega) only [setM_ne, setM_hit, true_and, and_true] at h1) <;> (try simp (disch := omega) only [setM_ne, setM_hit, true_and, and_true] at h2) <;> (try (exfalso; omega))
    | (with_reducible refine wp_isNoTrip (by (try simp (disch := omega) only [setM_ne, setM_hit, true_and, and_true]); omega) (by (try simp (disch := omega) only [setM_ne, setM_hit, true_and, and_true]); omega) (fun h => ?_) (fun h1 h2 => ?_)) <;> (try simp (disch := omega) only [setM_ne, setM_hit, true_and, and_true] at h) <;> (try simp (disch := omega) only [setM_ne, setM_hit, true_and, and_true] at h1) <;> (try simp (disch := omega) only [setM_ne, setM_hit, true_and, and_true] at h2) <;> (try (exfalso; omega))
    | (with_reducible refine wp_isNoDay (fun h => ?_) (fun h1 h2 => ?_)) <;> (try (exfalso; omega))
    | with_reducible refine wp_isThrown1 ?_
    | with_reducible refine wp_isThrown0 ?_
    | (with_reducible refine wp_isThrownI (fun h => ?_) (fun h => ?_)) <;> (try simp (disch := omega) only [setM_ne, setM_hit, true_and, and_true] at h) <;> (try simp only [isIn0] at h) <;> (try (exfalso; omega))
    | with_reducible refine ok_grd (by (try simp (disch := omega) only [setM_ne, setM_hit, true_and, and_true]); (try unfold InR); omega) ?_
    | (with_reducible refine ok_some ?_) <;> (try dsimp only)
    | (with_reducible refine ok_ite (fun h => ?_) (fun h => ?_)) <;> (try dsimp only at h) <;> (try simp (disch := omega) only [setM_ne, setM_hit, true_and, and_true] at h) <;> (try simp only [isIn0, i01] at h) <;> (try (exfalso; first | exact h trivial | omega)))
  · unfold M_last
    repeat' (first
    | with_reducible refine ok_ltv ?_
    | with_reducible refine ok_tbd_inl ?_
    | with_reducible refine ok_tbd_inr ?_
    | with_reducible refine wp_bind ?_
    | with_reducible refine wp_bq1 ?_
    | with_reducible refine wp_bq2 ?_
    | (with_reducible refine wp_needNumber (fun _ => ?_) (fun _ _ => ?_)) <;> (try (exfalso; omega))
    | (with_reducible refine wp_needDay (fun _ => ?_) (fun _ _ => ?_)) <;> (try (exfalso; omega))
    | (with_reducible refine wp_needStop (fun _ => ?_) (fun _ _ => ?_)) <;> (try (exfalso; omega))
    | (with_reducible refine wp_needService (fun _ => ?_) (fun _ _ => ?_)) <;> (try (exfalso; omega))
    | (with_reducible refine wp_needTrip (fun _ => ?_) (fun _ _ => ?_)) <;> (try (exfalso; omega))
    | (with_reducible refine wp_needCall (by omega) (fun _ => ?_) (fun _ _ _ _ => ?_)) <;> (try (exfalso; omega))
    | (with_reducible refine wp_needUnlike (fun _ => ?_) (fun _ => ?_)) <;> (try (exfalso; omega))
    | (with_reducible refine wp_needFound (fun _ => ?_) (fun _ => ?_)) <;> (try (exfalso; omega))
    | (with_reducible refine wp_needRoomForTrip (fun _ => ?_) (fun _ => ?_)) <;> (try (exfalso; omega))
    | (with_reducible refine wp_needRoomForSigns (by unfold InR; omega) (fun _ => ?_) (fun _ => ?_)) <;> (try (exfalso; omega))
    | (with_reducible refine wp_isNoStop (by (try simp (disch := omega) only [setM_ne, setM_hit, true_and, and_true]); omega) (by (try simp (disch := omega) only [setM_ne, setM_hit, true_and, and_true]); omega) (fun h => ?_) (fun h1 h2 => ?_)) <;> (try simp (disch := omega) only [setM_ne, setM_hit, true_and, and_true] at h) <;> (try simp (disch := omega) only [setM_ne, setM_hit, true_and, and_true] at h1) <;> (try simp (disch := omega) only [setM_ne, setM_hit, true_and, and_true] at h2) <;> (try (exfalso; omega))
    | (with_reducible refine wp_isNoService (by (try simp (disch := omega) only [setM_ne, setM_hit, true_and, and_true]); omega) (by (try simp (disch := omega) only [setM_ne, setM_hit, true_and, and_true]); omega) (fun h => ?_) (fun h1 h2 => ?_)) <;> (try simp (disch := omega) only [setM_ne, setM_hit, true_and, and_true] at h) <;> (try simp (disch := omega) only [setM_ne, setM_hit, true_and, and_true] at h1) <;> (try simp (disch := omega) only [setM_ne, setM_hit, true_and, and_true] at h2) <;> (try (exfalso; omega))
    | (with_reducible refine wp_isNoTrip (by (try simp (disch := omega) only [setM_ne, setM_hit, true_and, and_true]); omega) (by (try simp (disch := omega) only [setM_ne, setM_hit, true_and, and_true]); omega) (fun h => ?_) (fun h1 h2 => ?_)) <;> (try simp (disch := omega) only [setM_ne, setM_hit, true_and, and_true] at h) <;> (try simp (disch := omega) only [setM_ne, setM_hit, true_and, and_true] at h1) <;> (try simp (disch := omega) only [setM_ne, setM_hit, true_and, and_true] at h2) <;> (try (exfalso; omega))
    | (with_reducible refine wp_isNoDay (fun h => ?_) (fun h1 h2 => ?_)) <;> (try (exfalso; omega))
    | with_reducible refine wp_isThrown1 ?_
    | with_reducible refine wp_isThrown0 ?_
    | (with_reducible refine wp_isThrownI (fun h => ?_) (fun h => ?_)) <;> (try simp (disch := omega) only [setM_ne, setM_hit, true_and, and_true] at h) <;> (try simp only [isIn0] at h) <;> (try (exfalso; omega))
    | with_reducible refine ok_grd (by (try simp (disch := omega) only [setM_ne, setM_hit, true_and, and_true]); (try unfold InR); omega) ?_
    | (with_reducible refine ok_some ?_) <;> (try dsimp only)
    | (with_reducible refine ok_ite (fun h => ?_) (fun h => ?_)) <;> (try dsimp only at h) <;> (try simp (disch := omega) only [setM_ne, setM_hit, true_and, and_true] at h) <;> (try simp only [isIn0, i01] at h) <;> (try (exfalso; first | exact h trivial | omega)))
    (refine agp_er ?_ ?_ ?_); decide; (first | (rw [setM_same]; rfl) | (dsimp only; simp (disch := omega) only [setM_ne, setM_hit, true_and, and_true]; rfl))
    repeat (first | exact I | with_reducible refine Inv_thr ?_ _)
  · unfold M_last
    repeat' (first
    | with_reducible refine ok_ltv ?_
    | with_reducible refine ok_tbd_inl ?_
    | with_reducible refine ok_tbd_inr ?_
    | with_reducible refine wp_bind ?_
    | with_reducible refine wp_bq1 ?_
    | with_reducible refine wp_bq2 ?_
    | (with_reducible refine wp_needNumber (fun _ => ?_) (fun _ _ => ?_)) <;> (try (exfalso; omega))
    | (with_reducible refine wp_needDay (fun _ => ?_) (fun _ _ => ?_)) <;> (try (exfalso; omega))
    | (with_reducible refine wp_needStop (fun _ => ?_) (fun _ _ => ?_)) <;> (try (exfalso; omega))
    | (with_reducible refine wp_needService (fun _ => ?_) (fun _ _ => ?_)) <;> (try (exfalso; omega))
    | (with_reducible refine wp_needTrip (fun _ => ?_) (fun _ _ => ?_)) <;> (try (exfalso; omega))
    | (with_reducible refine wp_needCall (by omega) (fun _ => ?_) (fun _ _ _ _ => ?_)) <;> (try (exfalso; omega))
    | (with_reducible refine wp_needUnlike (fun _ => ?_) (fun _ => ?_)) <;> (try (exfalso; omega))
    | (with_reducible refine wp_needFound (fun _ => ?_) (fun _ => ?_)) <;> (try (exfalso; omega))
    | (with_reducible refine wp_needRoomForTrip (fun _ => ?_) (fun _ => ?_)) <;> (try (exfalso; omega))
    | (with_reducible refine wp_needRoomForSigns (by unfold InR; omega) (fun _ => ?_) (fun _ => ?_)) <;> (try (exfalso; omega))
    | (with_reducible refine wp_isNoStop (by (try simp (disch := omega) only [setM_ne, setM_hit, true_and, and_true]); omega) (by (try simp (disch := omega) only [setM_ne, setM_hit, true_and, and_true]); omega) (fun h => ?_) (fun h1 h2 => ?_)) <;> (try simp (disch := omega) only [setM_ne, setM_hit, true_and, and_true] at h) <;> (try simp (disch := omega) only [setM_ne, setM_hit, true_and, and_true] at h1) <;> (try simp (disch := omega) only [setM_ne, setM_hit, true_and, and_true] at h2) <;> (try (exfalso; omega))
    | (with_reducible refine wp_isNoService (by (try simp (disch := omega) only [setM_ne, setM_hit, true_and, and_true]); omega) (by (try simp (disch := omega) only [setM_ne, setM_hit, true_and, and_true]); omega) (fun h => ?_) (fun h1 h2 => ?_)) <;> (try simp (disch := omega) only [setM_ne, setM_hit, true_and, and_true] at h) <;> (try simp (disch := omega) only [setM_ne, setM_hit, true_and, and_true] at h1) <;> (try simp (disch := omega) only [setM_ne, setM_hit, true_and, and_true] at h2) <;> (try (exfalso; omega))
    | (with_reducible refine wp_isNoTrip (by (try simp (disch := omega) only [setM_ne, setM_hit, true_and, and_true]); omega) (by (try simp (disch := omega) only [setM_ne, setM_hit, true_and, and_true]); omega) (fun h => ?_) (fun h1 h2 => ?_)) <;> (try simp (disch := omega) only [setM_ne, setM_hit, true_and, and_true] at h) <;> (try simp (disch := omega) only [setM_ne, setM_hit, true_and, and_true] at h1) <;> (try simp (disch := omega) only [setM_ne, setM_hit, true_and, and_true] at h2) <;> (try (exfalso; omega))
    | (with_reducible refine wp_isNoDay (fun h => ?_) (fun h1 h2 => ?_)) <;> (try (exfalso; omega))
    | with_reducible refine wp_isThrown1 ?_
    | with_reducible refine wp_isThrown0 ?_
    | (with_reducible refine wp_isThrownI (fun h => ?_) (fun h => ?_)) <;> (try simp (disch := omega) only [setM_ne, setM_hit, true_and, and_true] at h) <;> (try simp only [isIn0] at h) <;> (try (exfalso; omega))
    | with_reducible refine ok_grd (by (try simp (disch := omega) only [setM_ne, setM_hit, true_and, and_true]); (try unfold InR); omega) ?_
    | (with_reducible refine ok_some ?_) <;> (try dsimp only)
    | (with_reducible refine ok_ite (fun h => ?_) (fun h => ?_)) <;> (try dsimp only at h) <;> (try simp (disch := omega) only [setM_ne, setM_hit, true_and, and_true] at h) <;> (try simp only [isIn0, i01] at h) <;> (try (exfalso; first | exact h trivial | omega)))
    (refine agp_er ?_ ?_ ?_); decide; (first | (rw [setM_same]; rfl) | (dsimp only; simp (disch := omega) only [setM_ne, setM_hit, true_and, and_true]; rfl))
    repeat (first | exact I | with_reducible refine Inv_thr ?_ _)
  · unfold M_last
    repeat' (first
    | with_reducible refine ok_ltv ?_
    | with_reducible refine ok_tbd_inl ?_
    | with_reducible refine ok_tbd_inr ?_
    | with_reducible refine wp_bind ?_
    | with_reducible refine wp_bq1 ?_
    | with_reducible refine wp_bq2 ?_
    | (with_reducible refine wp_needNumber (fun _ => ?_) (fun _ _ => ?_)) <;> (try (exfalso; omega))
    | (with_reducible refine wp_needDay (fun _ => ?_) (fun _ _ => ?_)) <;> (try (exfalso; omega))
    | (with_reducible refine wp_needStop (fun _ => ?_) (fun _ _ => ?_)) <;> (try (exfalso; omega))
    | (with_reducible refine wp_needService (fun _ => ?_) (fun _ _ => ?_)) <;> (try (exfalso; omega))
    | (with_reducible refine wp_needTrip (fun _ => ?_) (fun _ _ => ?_)) <;> (try (exfalso; omega))
    | (with_reducible refine wp_needCall (by omega) (fun _ => ?_) (fun _ _ _ _ => ?_)) <;> (try (exfalso; omega))
    | (with_reducible refine wp_needUnlike (fun _ => ?_) (fun _ => ?_)) <;> (try (exfalso; omega))
    | (with_reducible refine wp_needFound (fun _ => ?_) (fun _ => ?_)) <;> (try (exfalso; omega))
    | (with_reducible refine wp_needRoomForTrip (fun _ => ?_) (fun _ => ?_)) <;> (try (exfalso; omega))
    | (with_reducible refine wp_needRoomForSigns (by unfold InR; omega) (fun _ => ?_) (fun _ => ?_)) <;> (try (exfalso; omega))
    | (with_reducible refine wp_isNoStop (by (try simp (disch := omega) only [setM_ne, setM_hit, true_and, and_true]); omega) (by (try simp (disch := omega) only [setM_ne, setM_hit, true_and, and_true]); omega) (fun h => ?_) (fun h1 h2 => ?_)) <;> (try simp (disch := omega) only [setM_ne, setM_hit, true_and, and_true] at h) <;> (try simp (disch := omega) only [setM_ne, setM_hit, true_and, and_true] at h1) <;> (try simp (disch := omega) only [setM_ne, setM_hit, true_and, and_true] at h2) <;> (try (exfalso; omega))
    | (with_reducible refine wp_isNoService (by (try simp (disch := omega) only [setM_ne, setM_hit, true_and, and_true]); omega) (by (try simp (disch := omega) only [setM_ne, setM_hit, true_and, and_true]); omega) (fun h => ?_) (fun h1 h2 => ?_)) <;> (try simp (disch := omega) only [setM_ne, setM_hit, true_and, and_true] at h) <;> (try simp (disch := omega) only [setM_ne, setM_hit, true_and, and_true] at h1) <;> (try simp (disch := omega) only [setM_ne, setM_hit, true_and, and_true] at h2) <;> (try (exfalso; omega))
    | (with_reducible refine wp_isNoTrip (by (try simp (disch := omega) only [setM_ne, setM_hit, true_and, and_true]); omega) (by (try simp (disch := omega) only [setM_ne, setM_hit, true_and, and_true]); omega) (fun h => ?_) (fun h1 h2 => ?_)) <;> (try simp (disch := omega) only [setM_ne, setM_hit, true_and, and_true] at h) <;> (try simp (disch := omega) only [setM_ne, setM_hit, true_and, and_true] at h1) <;> (try simp (disch := omega) only [setM_ne, setM_hit, true_and, and_true] at h2) <;> (try (exfalso; omega))
    | (with_reducible refine wp_isNoDay (fun h => ?_) (fun h1 h2 => ?_)) <;> (try (exfalso; omega))
    | with_reducible refine wp_isThrown1 ?_
    | with_reducible refine wp_isThrown0 ?_
    | (with_reducible refine wp_isThrownI (fun h => ?_) (fun h => ?_)) <;> (try simp (disch := omega) only [setM_ne, setM_hit, true_and, and_true] at h) <;> (try simp only [isIn0] at h) <;> (try (exfalso; omega))
    | with_reducible refine ok_grd (by (try simp (disch := omega) only [setM_ne, setM_hit, true_and, and_true]); (try unfold InR); omega) ?_
    | (with_reducible refine ok_some ?_) <;> (try dsimp only)
    | (with_reducible refine ok_ite (fun h => ?_) (fun h => ?_)) <;> (try dsimp only at h) <;> (try simp (disch := omega) only [setM_ne, setM_hit, true_and, and_true] at h) <;> (try simp only [isIn0, i01] at h) <;> (try (exfalso; first | exact h trivial | omega)))
    (refine agp_er ?_ ?_ ?_); decide; (first | (rw [setM_same]; rfl) | (dsimp only; simp (disch := omega) only [setM_ne, setM_hit, true_and, and_true]; rfl))
    repeat (first | exact I | with_reducible refine Inv_thr ?_ _)
  · unfold M_last
    repeat' (first
    | with_reducible refine ok_ltv ?_
    | with_reducible refine ok_tbd_inl ?_
    | with_reducible refine ok_tbd_inr ?_
    | with_reducible refine wp_bind ?_
    | with_reducible refine wp_bq1 ?_
    | with_reducible refine wp_bq2 ?_
    | (with_reducible refine wp_needNumber (fun _ => ?_) (fun _ _ => ?_)) <;> (try (exfalso; omega))
    | (with_reducible refine wp_needDay (fun _ => ?_) (fun _ _ => ?_)) <;> (try (exfalso; omega))
    | (with_reducible refine wp_needStop (fun _ => ?_) (fun _ _ => ?_)) <;> (try (exfalso; omega))
    | (with_reducible refine wp_needService (fun _ => ?_) (fun _ _ => ?_)) <;> (try (exfalso; omega))
    | (with_reducible refine wp_needTrip (fun _ => ?_) (fun _ _ => ?_)) <;> (try (exfalso; omega))
    | (with_reducible refine wp_needCall (by omega) (fun _ => ?_) (fun _ _ _ _ => ?_)) <;> (try (exfalso; omega))
    | (with_reducible refine wp_needUnlike (fun _ => ?_) (fun _ => ?_)) <;> (try (exfalso; omega))
    | (with_reducible refine wp_needFound (fun _ => ?_) (fun _ => ?_)) <;> (try (exfalso; omega))
    | (with_reducible refine wp_needRoomForTrip (fun _ => ?_) (fun _ => ?_)) <;> (try (exfalso; omega))
    | (with_reducible refine wp_needRoomForSigns (by unfold InR; omega) (fun _ => ?_) (fun _ => ?_)) <;> (try (exfalso; omega))
    | (with_reducible refine wp_isNoStop (by (try simp (disch := omega) only [setM_ne, setM_hit, true_and, and_true]); omega) (by (try simp (disch := omega) only [setM_ne, setM_hit, true_and, and_true]); omega) (fun h => ?_) (fun h1 h2 => ?_)) <;> (try simp (disch := omega) only [setM_ne, setM_hit, true_and, and_true] at h) <;> (try simp (disch := omega) only [setM_ne, setM_hit, true_and, and_true] at h1) <;> (try simp (disch := omega) only [setM_ne, setM_hit, true_and, and_true] at h2) <;> (try (exfalso; omega))
    | (with_reducible refine wp_isNoService (by (try simp (disch := omega) only [setM_ne, setM_hit, true_and, and_true]); omega) (by (try simp (disch := omega) only [setM_ne, setM_hit, true_and, and_true]); omega) (fun h => ?_) (fun h1 h2 => ?_)) <;> (try simp (disch := omega) only [setM_ne, setM_hit, true_and, and_true] at h) <;> (try simp (disch := omega) only [setM_ne, setM_hit, true_and, and_true] at h1) <;> (try simp (disch := omega) only [setM_ne, setM_hit, true_and, and_true] at h2) <;> (try (exfalso; omega))
    | (with_reducible refine wp_isNoTrip (by (try simp (disch := omega) only [setM_ne, setM_hit, true_and, and_true]); omega) (by (try simp (disch := omega) only [setM_ne, setM_hit, true_and, and_true]); omega) (fun h => ?_) (fun h1 h2 => ?_)) <;> (try simp (disch := omega) only [setM_ne, setM_hit, true_and, and_true] at h) <;> (try simp (disch := omega) only [setM_ne, setM_hit, true_and, and_true] at h1) <;> (try simp (disch := omega) only [setM_ne, setM_hit, true_and, and_true] at h2) <;> (try (exfalso; omega))
    | (with_reducible refine wp_isNoDay (fun h => ?_) (fun h1 h2 => ?_)) <;> (try (exfalso; omega))
    | with_reducible refine wp_isThrown1 ?_
    | with_reducible refine wp_isThrown0 ?_
    | (with_reducible refine wp_isThrownI (fun h => ?_) (fun h => ?_)) <;> (try simp (disch := omega) only [setM_ne, setM_hit, true_and, and_true] at h) <;> (try simp only [isIn0] at h) <;> (try (exfalso; omega))
    | with_reducible refine ok_grd (by (try simp (disch := omega) only [setM_ne, setM_hit, true_and, and_true]); (try unfold InR); omega) ?_
    | (with_reducible refine ok_some ?_) <;> (try dsimp only)
    | (with_reducible refine ok_ite (fun h => ?_) (fun h => ?_)) <;> (try dsimp only at h) <;> (try simp (disch := omega) only [setM_ne, setM_hit, true_and, and_true] at h) <;> (try simp only [isIn0, i01] at h) <;> (try (exfalso; first | exact h trivial | omega)))
    (refine agp_er ?_ ?_ ?_); decide; (first | (rw [setM_same]; rfl) | (dsimp only; simp (disch := omega) only [setM_ne, setM_hit, true_and, and_true]; rfl))
    repeat (first | exact I | with_reducible refine Inv_thr ?_ _)
  · obtain ⟨a, rfl⟩ : ∃ a : Nat, p0 = a := ⟨p0.toNat, by omega⟩
    obtain ⟨b, rfl⟩ : ∃ b : Nat, p1 = b := ⟨p1.toNat, by omega⟩
    refine (lay_ok (sh := -1) (mi := 0) CI0 (by omega) (by omega) (Ctx_self I)).mono (fun m1 l => ?_)
    have C1 : Ctx mc p2 (-1) 0 (-1) m1 := ⟨l.2.1, l.2.2.1, l.2.2.2⟩
    refine ok_bq2 (lastLeave_ok (a := a) (b := b) CI0 C1 (by omega) (by omega) (by omega) (best_ex I (by omega) (by omega))) (fun v m2 h2 => ok_ltv ?_)
    dsimp only at h2
    obtain ⟨f2, ll⟩ := h2
    have C2 := FrBk_ctx CI0 C1 f2
    -- the reference's head
    have mside : ∀ P : Int × Mem → Prop, (v < 0 → ∀ mm', Inv m2 mm' → mm' 0 0 = 3 → P (0, mm')) → (0 ≤ v → ∀ mm', Inv m2 mm' → mm' 0 0 = 0 → P (v, mm')) → Ok (M_last a b p2 p3 mm) P := by
      intro P hP1 hP2
      unfold M_last
      refine wp_bq2 (wp_isNoStop (by omega) (by omega) (fun _ => by omega) (fun _ _ => ok_ite (fun q => absurd rfl q) (fun _ => wp_bq2 (wp_isNoStop (by (try dsimp only); (first | omega | (simp (disch := omega) only [setM_ne, setM_hit, true_and, and_true]; done) | (simp (disch := omega) only [setM_ne, setM_hit, true_and, and_true]; omega))) (by (try dsimp only); (first | omega | (simp (disch := omega) only [setM_ne, setM_hit, true_and, and_true]; done) | (simp (disch := omega) only [setM_ne, setM_hit, true_and, and_true]; omega))) (fun h => by exfalso; dsimp only at h; simp (disch := omega) only [setM_ne, setM_hit, true_and, and_true] at h; omega) (fun _ _ => ok_ite (fun q => absurd rfl q) (fun _ => wp_bq2 (wp_isThrownI (fun h => by exfalso; simp only [isIn0] at h; omega) (fun _ => ok_ite (fun q => absurd rfl q) (fun _ => ok_ltv ?_)))))))))
      have J : Inv mc (setM (setM (setM mm 0 0 0) 0 0 0) 0 0 0) := by repeat (first | exact I | with_reducible refine Inv_thr ?_ _)
      obtain ⟨m3, hm3⟩ : ∃ m3, m3 = setM (setM (setM mm 0 0 0) 0 0 0) 0 0 0 := ⟨_, rfl⟩
      dsimp only
      rw [← hm3] at J ⊢
      refine ok_bq2 (earliestOf_ok (sh := -1) (mi := 0) (cut := -1) (t := 0) CI0 (by omega) (by omega) (relM_set J) (by omega) (by omega) (by omega)) (fun t mm2 e => ?_)
      dsimp only at e
      obtain ⟨e1, e2, e3, e4, e5⟩ := e
      have k := ll.2.2 0 _ (by omega) (by omega) e3
      rw [← e5] at k
      have J2 : Inv mc mm2 := Inv_fr J (fun _ _ _ => rfl) (fun c i q => e1 c i (by unfold pM at q; omega) (by unfold pM at q; omega))
      have J3 : Inv m2 mm2 := Inv_end J C2.1 C2.2.1.1 (fun c i q => e1 c i (by unfold pM at q; omega) (by unfold pM at q; omega))
      refine ok_ite (fun ht => wp_bq2 (wp_isThrown1 (ok_ite (fun _ => ok_some (hP1 (by omega) _ (Inv_thr J3 _) (by dsimp only; exact setM_same _ _ _ _))) (fun q => absurd Int.one_ne_zero q)))) (fun ht => wp_bq2 (wp_isThrown0 (ok_ite (fun q => absurd rfl q) (fun _ => ok_ltv (ok_ltv ?_)))))
      refine ok_bq3 (mLast_ok (Inv_thr J2 0) (by omega) (by omega) (by omega) (by omega) ll (by omega) (by dsimp only; exact setM_same _ _ _ _)) (fun v2 _ mm3 h3 => ok_some ?_)
      dsimp only at h3
      rw [h3.1]
      exact hP2 (by omega) _ (Inv_fr (Inv_thr J3 0) (fun _ _ _ => rfl) h3.2.2) h3.2.1
    refine ok_ite (fun hv => ok_some ?_) (fun hv => ok_some ?_)
    · refine mside _ (fun _ mm' J e => ?_) (fun q => by omega)
      exact agp_er (by decide) (by rw [e]; rfl) J
    · refine mside _ (fun q => by omega) (fun _ mm' J e => ?_)
      exact agp_ok e rfl J
end LAS
