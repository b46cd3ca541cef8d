/-! ===== read from the end: the last departures, against the best labels ===== -/
def ArrB (N : Nat) (w : Nat → Nat → Int) (to : Nat) (y : Int) (L : Lb) : Prop := L.1 to ≤ y ∨ ∃ s, s < N ∧ L.1 s + w s to ≤ y
def SndB (N : Nat) (g : Nat → Int) (w : Nat → Nat → Int) (Rd : RdT) (to : Nat) (y : Int) (On Off : Nat → Int) : Prop := (∀ s, s < N → 0 ≤ On s → ∀ L', Cl N g w Rd L' → (L'.2 s ≤ On s ∨ L'.1 s + g s ≤ On s) → ArrB N w to y L') ∧ ∀ s, s < N → ∀ L', Cl N g w Rd L' → L'.1 s ≤ Off s → ArrB N w to y L'
def CmpB (N : Nat) (g : Nat → Int) (w : Nat → Nat → Int) (to : Nat) (y : Int) (On Off : Nat → Int) : Prop := y ≤ Off to ∧ (∀ s, s < N → y - w s to ≤ Off s) ∧ (∀ s, s < N → 0 ≤ On s → On s - g s ≤ Off s) ∧ ∀ s v, s < N → v < N → 0 ≤ On v → On v - w s v ≤ Off s
def LvB (N : Nat) (w : Nat → Nat → Int) (On : Nat → Int) (a : Nat) (x : Int) : Prop := x ≤ On a ∨ ∃ s, s < N ∧ x ≤ On s - w a s
section DUAL
variable {N : Nat} {g : Nat → Int} {w : Nat → Nat → Int} {Rd : RdT} {to : Nat} {y : Int} {On Off : Nat → Int}
theorem arrB_congr {A B : Lb} (h : ∀ s, s < N → A.1 s = B.1 s) (ht : to < N) (q : ArrB N w to y A) : ArrB N w to y B := by
  rcases q with q | ⟨s, hs, q⟩
  · left
    rw [← h to ht]
    exact q
  · right
    exact ⟨s, hs, by rw [← h s hs]; exact q⟩
theorem dual {a : Nat} {x : Int} {L : Lb} (S : SndB N g w Rd to y On Off) (C : CmpB N g w to y On Off) (Cr : ∀ s t s' t', Rd s t s' t' → 0 ≤ t → t' ≤ Off s' → t ≤ On s) (hb : ∀ s, s < N → -1 ≤ On s ∧ On s ≤ 100000 ∧ Off s ≤ 999999) (hg : ∀ s, s < N → 0 ≤ g s) (hw : ∀ u v, u < N → v < N → 0 ≤ w u v) (hR : ∀ s t s' t', Rd s t s' t' → s < N ∧ s' < N ∧ t < t') (ha : a < N) (ht : to < N) (hx : 0 ≤ x) (B : Best N g w Rd (ini w a x) L) : ArrB N w to y L ↔ LvB N w On a x := by
  have cl : Cl N g w Rd L := ⟨B.2, B.1.2.1⟩
  constructor
  · intro q
    apply Classical.byContradiction
    intro no
    have n1 : On a < x := by
      apply Int.lt_of_not_ge
      intro z
      exact no (Or.inl z)
    have n2 : ∀ s, s < N → On s - w a s < x := fun s hs => by
      apply Int.lt_of_not_ge
      intro z
      exact no (Or.inr ⟨s, hs, z⟩)
    obtain ⟨M, hM⟩ : ∃ M : Lb, M = (fun s => (if Off s < -1 then -1 else Off s) + 1, fun s => On s + 1) := ⟨_, rfl⟩
    have m1 : ∀ s, M.1 s = (if Off s < -1 then -1 else Off s) + 1 := fun s => by rw [hM]
    have m2 : ∀ s, M.2 s = On s + 1 := fun s => by rw [hM]
    have rc : RCl g Rd M := by
      intro s t s' t' r c
      have k := hR s t s' t' r
      have b := hb s k.1
      have b' := hb s' k.2.1
      have k3 := hg s k.1
      obtain ⟨c0, c1⟩ := c
      rw [m1, m2] at c1
      rw [m1]
      by_cases hh : Off s' < -1
      · rw [if_pos hh]; omega
      · rw [if_neg hh]
        apply Classical.byContradiction
        intro z
        have e := Cr s t s' t' r c0 (by omega)
        have f := C.2.2.1 s k.1 (by omega)
        rcases c1 with c1 | c1
        · omega
        · split at c1 <;> omega
    have wc : WCl N w M := by
      intro s v hs hv _
      have b := hb v hv
      have k := hw s v hs hv
      rw [m1, m2]
      by_cases hh : 0 ≤ On v
      · have f := C.2.2.2 s v hs hv hh
        split <;> omega
      · split <;> omega
    have le : leL N M (ini w a x) := by
      intro s hs
      have b := hb s hs
      rw [m1, m2]
      have z := n2 s hs
      simp only [ini]
      constructor
      · split <;> omega
      · split
        · rename_i h; rw [h]; omega
        · split <;> omega
    have fin := B.1.2.2 M ⟨rc, wc⟩ le
    rcases q with q | ⟨s, hs, q⟩
    · have := (fin to ht).1
      rw [m1] at this
      have := C.1
      split at * <;> omega
    · have := (fin s hs).1
      rw [m1] at this
      have := C.2.1 s hs
      split at * <;> omega
  · have le := B.1.1
    rintro (h | ⟨s, hs, h⟩)
    · have := (le a ha).2
      simp only [ini, if_true] at this
      exact S.1 a ha (by omega) L cl (Or.inl (by omega))
    · have := (le s hs).2
      have k := hw a s ha hs
      refine S.1 s hs (by omega) L cl (Or.inl ?_)
      simp only [ini] at this
      split at this
      · omega
      · split at this <;> omega
/-- the arrival at a stop, by rides or from the beginning -/
theorem best_foot {a : Nat} {x : Int} {L : Lb} (hw : ∀ u v, u < N → v < N → 0 ≤ w u v) (ht : to < N) (B : Best N g w Rd (ini w a x) L) (hR : ∀ s t s' t', Rd s t s' t' → s < N) : (L.1 to ≤ y ∨ L.2 to ≤ y) ↔ (ArrB N w to y L ∨ (ini w a x).2 to ≤ y) := by
  constructor
  · rintro (h | h)
    · exact Or.inl (Or.inl h)
    · apply Classical.byContradiction
      intro no
      have n1 : y < (ini w a x).2 to := by
        apply Int.lt_of_not_ge
        intro z
        exact no (Or.inr z)
      have n2 : ∀ s, s < N → y < L.1 s + w s to := fun s hs => by
        apply Int.lt_of_not_ge
        intro z
        exact no (Or.inl (Or.inr ⟨s, hs, z⟩))
      obtain ⟨M, hM⟩ : ∃ M : Lb, M = (L.1, fun s => if s = to then y + 1 else L.2 s) := ⟨_, rfl⟩
      have m1 : M.1 = L.1 := by rw [hM]
      have m2 : ∀ s, M.2 s = if s = to then y + 1 else L.2 s := fun s => by rw [hM]
      have ge : ∀ s, L.2 s ≤ M.2 s := fun s => by
        rw [m2]
        split
        · rename_i e; rw [e]; omega
        · omega
      have rc : RCl g Rd M := by
        intro s t s' t' r c
        rw [m1]
        refine B.2 s t s' t' r ⟨c.1, ?_⟩
        have := ge s
        have := c.2
        rw [m1] at this
        omega
      have wc : WCl N w M := by
        intro s v hs hv hn
        rw [m1, m2]
        split
        · rename_i e
          rw [e]
          have := n2 s hs
          omega
        · exact B.1.2.1 s v hs hv hn
      have le : leL N M (ini w a x) := by
        intro s hs
        have := B.1.1 s hs
        rw [m1, m2]
        refine ⟨this.1, ?_⟩
        split
        · rename_i e; rw [e]; omega
        · exact this.2
      have := (B.1.2.2 M ⟨rc, wc⟩ le to ht).2
      rw [m2, if_pos rfl] at this
      omega
  · rintro ((h | ⟨s, hs, h⟩) | h)
    · exact Or.inl h
    · by_cases e : s = to
      · have := hw to to ht ht
        rw [e] at h
        exact Or.inl (by omega)
      · have := B.1.2.1 s to hs ht e
        exact Or.inr (by omega)
    · have := (B.1.1 to ht).2
      exact Or.inr (by omega)
end DUAL
section BACK
variable {mc m m0 : Mem} {day : Int}
theorem getOnBack_ok {s : Nat} {t : Int} (I : CI mc) (C : CtL mc (-1) m0) (hs : s < nC mc) (ht : -10000 ≤ t ∧ t ≤ 10000) : Ok (C_Search_getOnBack s t m0) (fun m => (∀ c i, ¬ (c = 347 ∨ c = 348) → m c i = m0 c i) ∧ (∀ v : Nat, m 347 v = if v = s ∧ m0 347 s < t then t else m0 347 v) ∧ (∀ v : Nat, v < nC mc → m0 348 v ≤ m 348 v) ∧ (m0 347 s < t → (t - mc 2 s ≤ m 348 s) ∧ ∀ v : Nat, v < nC mc → t - wC mc (-1) v s ≤ m 348 v) ∧ ∀ v : Nat, v < nC mc → m 348 v = m0 348 v ∨ (m0 347 s < t ∧ (m 348 v = t - wC mc (-1) v s ∨ (v = s ∧ m 348 v = t - mc 2 s)))) := by
  have n := CI_n I
  have gb := CI_g I hs
  unfold C_Search_getOnBack
  rw [Int.toNat_natCast]
  refine ok_grd (by omega) (ok_ite (fun h => ok_some ⟨fun _ _ _ => rfl, fun v => ?_, fun v _ => Int.le_refl _, fun q => by omega, fun v _ => Or.inl rfl⟩) (fun h => ok_ltv ?_))
  · rw [if_neg (by omega)]
  · obtain ⟨m1, hm1⟩ : ∃ m1, m1 = setM m0 347 s t := ⟨_, rfl⟩
    rw [← hm1]
    have y1 : ∀ c i, ¬ (c = 347 ∧ i = s) → m1 c i = m0 c i := fun c i h => by rw [hm1]; exact setM_ne h
    have y2 : m1 347 s = t := by rw [hm1]; exact setM_same _ _ _ _
    rw [y1 2 s (by omega), C.2.1 s hs]
    refine ok_grd (by unfold InR; omega) (ok_ltv ?_)
    obtain ⟨m2, hm2⟩ : ∃ m2, m2 = setM m1 348 s (if m1 348 s < t - mc 2 s then t - mc 2 s else m1 348 s) := ⟨_, rfl⟩
    rw [← hm2]
    have z1 : ∀ c i, ¬ (c = 348 ∧ i = s) → m2 c i = m1 c i := fun c i h => by rw [hm2]; exact setM_ne h
    have z2 : m2 348 s = if m0 348 s < t - mc 2 s then t - mc 2 s else m0 348 s := by
      rw [hm2, setM_same, y1 348 s (by omega)]
    have z3 : ∀ v : Nat, v ≠ s → m2 348 v = m0 348 v := fun v hv => by rw [z1 _ _ (by omega), y1 _ _ (by omega)]
    have z4 : m0 348 s ≤ m2 348 s ∧ t - mc 2 s ≤ m2 348 s ∧ (m2 348 s = m0 348 s ∨ m2 348 s = t - mc 2 s) := by
      rw [z2]
      split <;> omega
    refine ok_ltv (ok_bq2 (ok_for0 (n := nC mc) (fun k m => (∀ c i, ¬ c = 348 → m c i = m2 c i) ∧ (∀ v : Nat, v < k → m2 348 v ≤ m 348 v ∧ t - wC mc (-1) v s ≤ m 348 v ∧ (m 348 v = m2 348 v ∨ m 348 v = t - wC mc (-1) v s)) ∧ ∀ v : Nat, k ≤ v → m 348 v = m2 348 v) ⟨fun _ _ _ => rfl, fun v hv => by omega, fun _ _ => rfl⟩ ?_ ?_) (fun _ m h => ok_some ?_))
    · rintro k m hk ⟨f1, f2, f3⟩
      have wb := CI_w (cut := -1) I hk hs
      have e0 : m 1 0 = nC mc := by rw [f1 1 0 (by omega), z1 1 0 (by omega), y1 1 0 (by omega)]; exact C.1
      have ew : m (17 + k) s = wC mc (-1) k s := by rw [f1 _ _ (by omega), z1 _ _ (by omega), y1 _ _ (by omega)]; exact C.2.2.2 k s hk hs
      unfold C_Search_getOnBack_b1
      simp only [Int.toNat_natCast]
      rw [e0, ew, f3 k (by omega)]
      refine ok_ite (fun _ => ok_grd (by unfold InR; omega) (ok_ltv (ok_grd (by unfold InR; omega) (ok_ltv (ok_some ⟨_, rfl, fun c i hc => ?_, fun v hv => ?_, fun v hv => ?_⟩))))) (fun h => by omega)
      · rw [setM_ne (by omega)]
        exact f1 c i hc
      · by_cases hh : v = k
        · rw [hh, setM_same]
          split <;> omega
        · rw [setM_ne (by omega)]
          exact f2 v (by omega)
      · rw [setM_ne (by omega)]
        exact f3 v (by omega)
    · rintro m ⟨f1, -⟩
      have e0 : m 1 0 = nC mc := by rw [f1 1 0 (by omega), z1 1 0 (by omega), y1 1 0 (by omega)]; exact C.1
      unfold C_Search_getOnBack_b1
      rw [e0, if_neg (by omega)]
    · dsimp only at h
      obtain ⟨f1, f2, -⟩ := h
      refine ⟨fun c i hc => ?_, fun v => ?_, fun v hv => ?_, fun _ => ⟨?_, fun v hv => (f2 v hv).2.1⟩, fun v hv => ?_⟩
      · rw [f1 c i (by omega), z1 c i (by omega), y1 c i (by omega)]
      · rw [f1 347 v (by omega), z1 347 v (by omega)]
        by_cases hv : v = s
        · rw [if_pos ⟨hv, by omega⟩, hv]
          exact y2
        · rw [if_neg (fun q => hv q.1), y1 _ _ (by omega)]
      · have := f2 v hv
        by_cases hh : v = s
        · rw [hh] at this ⊢; omega
        · have := z3 v hh; omega
      · have := f2 s hs; omega
      · have := f2 v hv
        by_cases hh : v = s
        · rw [hh] at this ⊢; omega
        · have := z3 v hh; omega
/-- what reading from the end leaves -/
def BkP (mc : Mem) (day : Int) (to : Nat) (y : Int) (On Off : Nat → Int) : Prop := SndB (nC mc) (mc 2) (wC mc (-1)) (RdQ mc day (-1) 0 (-1)) to y On Off ∧ CmpB (nC mc) (mc 2) (wC mc (-1)) to y On Off ∧ (∀ s, s < nC mc → -1 ≤ On s ∧ On s ≤ 10000 ∧ -2000000 ≤ Off s ∧ Off s ≤ 999999) ∧ ∀ s, s < nC mc → On s = -1 ∨ ∃ q c : Nat, q < 72 ∧ isQ mc day q ∧ c + 1 < lenQ mc q ∧ 0 ≤ lvQ mc day (-1) 0 q c ∧ stQ mc q c = s ∧ lvQ mc day (-1) 0 q c = On s
theorem BkP_on {to : Nat} {y t : Int} {s : Nat} {On Off On' Off' : Nat → Int} (I : CI mc) (h : BkP mc day to y On Off) (hs : s < nC mc) (ht : 0 ≤ t ∧ t ≤ 10000) (h1 : ∀ v, On' v = if v = s ∧ On s < t then t else On v) (h2 : ∀ v, v < nC mc → Off v ≤ Off' v) (h3 : On s < t → (t - mc 2 s ≤ Off' s) ∧ ∀ v, v < nC mc → t - wC mc (-1) v s ≤ Off' v) (h4 : ∀ v, v < nC mc → Off' v = Off v ∨ (On s < t ∧ (Off' v = t - wC mc (-1) v s ∨ (v = s ∧ Off' v = t - mc 2 s)))) (ho : ∃ q c : Nat, q < 72 ∧ isQ mc day q ∧ c + 1 < lenQ mc q ∧ stQ mc q c = s ∧ lvQ mc day (-1) 0 q c = t) (hj : ∀ L', Cl (nC mc) (mc 2) (wC mc (-1)) (RdQ mc day (-1) 0 (-1)) L' → can (mc 2) L' s t → ArrB (nC mc) (wC mc (-1)) to y L') (htt : to < nC mc) : BkP mc day to y On' Off' := by
  obtain ⟨⟨s1, s2⟩, ⟨c1, c2, c3, c4⟩, b1, v1⟩ := h
  have gb := CI_g I hs
  refine ⟨⟨fun v hv h0 L' cl q => ?_, fun v hv L' cl q => ?_⟩, ⟨?_, fun v hv => ?_, fun v hv h0 => ?_, fun u v hu hv h0 => ?_⟩, fun v hv => ?_, fun v hv => ?_⟩
  · rw [h1] at h0 q
    by_cases hh : v = s ∧ On s < t
    · rw [if_pos hh] at q
      rw [hh.1] at q
      exact hj L' cl ⟨ht.1, q⟩
    · rw [if_neg hh] at h0 q
      exact s1 v hv h0 L' cl q
  · rcases h4 v hv with e | ⟨e0, e | ⟨e1, e⟩⟩
    · rw [e] at q
      exact s2 v hv L' cl q
    · rw [e] at q
      refine hj L' cl ⟨ht.1, ?_⟩
      by_cases hh : v = s
      · have := CI_wd (cut := -1) I hs
        rw [hh, this] at q
        rw [hh] at hv
        exact Or.inr (by omega)
      · have := cl.2 v s hv hs hh
        exact Or.inl (by omega)
    · rw [e1] at q
      rw [e1] at e
      rw [e] at q
      exact hj L' cl ⟨ht.1, Or.inr (by omega)⟩
  · have := h2 to htt
    omega
  · have := h2 v hv; have := c2 v hv; omega
  · have k := h2 v hv
    rw [h1] at h0 ⊢
    by_cases hh : v = s ∧ On s < t
    · rw [if_pos hh, hh.1]
      exact (h3 hh.2).1
    · rw [if_neg hh] at h0 ⊢
      have := c3 v hv h0
      omega
  · have k := h2 u hu
    rw [h1] at h0 ⊢
    by_cases hh : v = s ∧ On s < t
    · rw [if_pos hh, hh.1]
      exact (h3 hh.2).2 u hu
    · rw [if_neg hh] at h0 ⊢
      have := c4 u v hu hv h0
      omega
  · have b := b1 v hv
    have k := h2 v hv
    have wb := CI_w (cut := -1) I hv hs
    rw [h1]
    refine ⟨?_, ?_, by omega, ?_⟩
    · split <;> omega
    · split <;> omega
    · rcases h4 v hv with e | ⟨e0, e | ⟨e1, e⟩⟩ <;> omega
  · rw [h1]
    by_cases hh : v = s ∧ On s < t
    · rw [if_pos hh, hh.1]
      obtain ⟨q, c, o1, o2, o3, o4, o5⟩ := ho
      exact Or.inr ⟨q, c, o1, o2, o3, by omega, o4, o5⟩
    · rw [if_neg hh]
      exact v1 v hv
end BACK
