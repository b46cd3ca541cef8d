/-! ===== the matching: searching, taking back, counting ===== -/
section MAU
variable {mc mm m m0 m1 : Mem} {day : Int} {n k w : Nat}
theorem findFree_ok (e1 : m0 431 0 = n) (n24 : n ≤ 24) (hk : k < n) (M : MtI n m0) (hk0 : m0 438 k = -1) : Ok (C_Fleet_findFree k m0) (fun r => (r.1 = -1 ∧ (∀ c i, ¬ (c = 440 ∨ c = 441) → r.2 c i = m0 c i) ∧ ∃ τ, τ ≤ m0 435 k ∧ Tgt n m0 (m0 433 k) τ) ∨ FdR n k m0 r) := by
  unfold C_Fleet_findFree
  refine ok_ltv (ok_bq2 (ok_for0 (n := n) (fun j m => (∀ c i, ¬ (c = 440 ∨ c = 441) → m c i = m0 c i) ∧ ∀ b : Nat, b < j → m 441 b = -1) ⟨fun _ _ _ => rfl, fun b h => by omega⟩ ?_ ?_) (fun _ m3 h3 => ok_ltv (ok_ltv (ok_ltv ?_))))
  · rintro j m hj ⟨f1, f2⟩
    unfold C_Fleet_findFree_b1
    rw [f1 431 0 (by omega), e1]
    refine ok_ite (fun _ => ok_grd (by omega) (ok_ltv (ok_grd (by unfold InR; omega) (ok_ltv (ok_some ⟨_, rfl, fun c i hc => ?_, fun b hb => ?_⟩))))) (fun h => by omega)
    · rw [setM_ne (by omega)]
      exact f1 c i hc
    · rw [Int.toNat_natCast]
      by_cases hbj : b = j
      · rw [hbj, setM_same]
      · rw [setM_ne (by omega)]
        exact f2 b (by omega)
  · rintro m ⟨f1, -⟩
    unfold C_Fleet_findFree_b1
    rw [f1 431 0 (by omega), e1, if_neg (by omega)]
  · dsimp only at h3
    obtain ⟨f1, f2⟩ := h3
    obtain ⟨m4, hm4⟩ : ∃ m4, m4 = setM m3 440 0 (k : Int) := ⟨_, rfl⟩
    rw [← hm4]
    have g1 : ∀ c i, ¬ (c = 440 ∨ c = 441) → m4 c i = m0 c i := fun c i h => by rw [hm4, setM_ne (by omega)]; exact f1 c i h
    have g0 : m4 440 0 = k := by rw [hm4, setM_same]
    have g2 : ∀ b : Nat, b < n → m4 441 b = -1 := fun b hb => by rw [hm4, setM_ne (by omega)]; exact f2 b hb
    have B0 : BfS n k m0 0 1 m4 := by
      refine ⟨g1, Nat.le_refl _, ⟨g0, fun p hp => ?_, fun p h1 h2 => by omega, fun p p2 h1 h2 => by omega⟩, fun b hb => Or.inl (g2 b hb), ?_, fun p hp => by omega⟩
      · have : p = 0 := by omega
        rw [this]
        exact ⟨k, hk, g0, rfl⟩
      · rw [sI_0 (fun b hb => by rw [if_pos (g2 b hb)])]
        rfl
    refine ok_br3 (Q := fun x => match x with | .inl y => ∃ w : Nat, BfS n k m0 w w y.2.2 | .inr r => FdR n k m0 r) ?_ (fun _ _ m9 h => ok_some (Or.inl ?_)) (fun r h => ok_some (Or.inr h))
    · refine ok_loop (fun y => ∃ w turn : Nat, y.1 = w ∧ y.2.1 = turn ∧ turn ≤ w ∧ BfS n k m0 turn w y.2.2) (fun y => n + 2 - y.2.1.toNat) ⟨1, 0, rfl, rfl, by omega, B0⟩ ?_
      rintro ⟨ww, tt, m⟩ ⟨w, turn, a1, a2, a3, B⟩
      dsimp only at a1 a2 B ⊢
      subst a1
      subst a2
      unfold C_Fleet_findFree_b2
      refine ok_ite (fun ht => ok_ltv (ok_br3 (bfOne_ok e1 n24 hk M hk0 (by omega) B) (fun w2 _ m9 h => ok_grd ?_ (ok_ltv (ok_some ?_))) (fun r h => ok_some h))) (fun ht => ok_some ?_)
      · -- turns stay small
        have tw : w ≤ n + 1 := by
          have c5 := B.2.2.2.2.1
          have : sI (fun b => if m 441 b = -1 then 0 else 1) n ≤ n := by
            have := sI_le (f := fun b => if m 441 b = -1 then 0 else 1) (g := fun _ => 1) (n := n) (fun j _ => by split <;> omega)
            rw [sI_one] at this
            exact this
          omega
        unfold InR
        omega
      · dsimp only at h
        obtain ⟨w', b1, b2, b3⟩ := h
        have tw : w ≤ n + 1 := by
          have c5 := B.2.2.2.2.1
          have : sI (fun b => if m 441 b = -1 then 0 else 1) n ≤ n := by
            have := sI_le (f := fun b => if m 441 b = -1 then 0 else 1) (g := fun _ => 1) (n := n) (fun j _ => by split <;> omega)
            rw [sI_one] at this
            exact this
          omega
        exact ⟨⟨w', turn + 1, b1, by dsimp only; omega, by omega, b3⟩, by dsimp only; omega⟩
      · have : turn = w := by omega
        rw [this] at B
        exact ⟨w, B⟩
    · dsimp only at h
      obtain ⟨w, f1, f2, ⟨q0, q1, q2, q3⟩, f4, f5, f6⟩ := h
      refine ⟨rfl, f1, ?_⟩
      obtain ⟨p, p1, p2⟩ := least_of (r := fun p => m9 435 (m9 440 p).toNat) f2
      obtain ⟨e, h1, h2, h3⟩ := q1 p p1
      have f435 : ∀ i, m9 435 i = m0 435 i := fun i => f1 _ _ (by omega)
      refine ⟨m0 435 e, ?_, fun b hb hv ht => ?_⟩
      · have := p2 0 (by omega)
        (try dsimp only at this)
        rw [h2, q0, Int.toNat_natCast, Int.toNat_natCast, f435, f435] at this
        exact this
      · have fo : fol m9 e b := ⟨by rw [h3, f1 432 _ (by omega), f1 433 _ (by omega)]; exact hv.symm, by rw [f435, f1 434 _ (by omega)]; exact ht⟩
        have mk := f6 p p1 e h2 b hb fo
        rcases f4 b hb with z | ⟨p', -, -, -, -, p5, p6, p7, p8⟩
        · exact absurd z mk
        · obtain ⟨e', u1, u2, -⟩ := q1 p5 p7
          have := p2 p5 p7
          (try dsimp only at this)
          rw [h2, u2, Int.toNat_natCast, Int.toNat_natCast, f435, f435] at this
          exact ⟨e', u1, by rw [← u2, ← p8, f1 439 _ (by omega)], this⟩
theorem matchBack_ok {b p : Nat} (e1 : m1 431 0 = n) (n24 : n ≤ 24) (hk : k < n) (M : MtI n m1) (hk0 : m1 438 k = -1) (hb : b < n) (hfree : m1 439 b = -1) (hw : w ≤ n) (Q : QuP n k w m1) (hp : p < w) (hc : m1 441 b = m1 440 p) (hf : ∃ e : Nat, m1 440 p = e ∧ fol m1 e b) : Ok (C_Fleet_matchBack b m1) (fun m => (∀ c i, ¬ (c = 438 ∨ c = 439) → m c i = m1 c i) ∧ MtI n m ∧ (∀ v τ, Tgt n m1 v τ → Tgt n m v τ) ∧ m 438 k ≠ -1 ∧ ∀ e, e < n → e ≠ k → (m 438 e = -1 ↔ m1 438 e = -1)) := by
  obtain ⟨q0, q1, q2, q3⟩ := Q
  unfold C_Fleet_matchBack
  refine ok_ltv (ok_ltv (ok_bq3 (Q := fun (x : Int × Int × Mem) => (∀ c i, ¬ (c = 438 ∨ c = 439) → x.2.2 c i = m1 c i) ∧ MtI n x.2.2 ∧ (∀ v τ, Tgt n m1 v τ → Tgt n x.2.2 v τ) ∧ x.2.2 438 k ≠ -1 ∧ ∀ e, e < n → e ≠ k → (x.2.2 438 e = -1 ↔ m1 438 e = -1)) ?_ (fun _ _ _ h => ok_some h)))
  refine ok_loop (fun x => ∃ turn : Nat, x.2.1 = turn ∧ turn ≤ n ∧ (∀ c i, ¬ (c = 438 ∨ c = 439) → x.2.2 c i = m1 c i) ∧ ((x.1 = -1 ∧ MtI n x.2.2 ∧ (∀ v τ, Tgt n m1 v τ → Tgt n x.2.2 v τ) ∧ x.2.2 438 k ≠ -1 ∧ ∀ e, e < n → e ≠ k → (x.2.2 438 e = -1 ↔ m1 438 e = -1)) ∨ ∃ b p : Nat, x.1 = b ∧ b < n ∧ p < w ∧ turn + p + 1 ≤ n ∧ m1 441 b = m1 440 p ∧ (∃ e : Nat, m1 440 p = e ∧ fol m1 e b) ∧ (∀ e, e < n → x.2.2 438 e = -1 ∨ ∃ b' : Nat, b' < n ∧ b' ≠ b ∧ x.2.2 438 e = b' ∧ x.2.2 439 b' = e ∧ fol m1 e b') ∧ (∀ b', b' < n → b' ≠ b → x.2.2 439 b' = -1 ∨ ∃ e : Nat, e < n ∧ x.2.2 439 b' = e ∧ x.2.2 438 e = b') ∧ (∀ p', p' ≤ p → ∀ e : Nat, m1 440 p' = e → x.2.2 438 e = m1 438 e) ∧ (∀ v τ, Tgt n m1 v τ → (m1 432 b = v → m1 434 b < τ) ∧ ∀ b', b' < n → b' ≠ b → m1 432 b' = v → τ ≤ m1 434 b' → ∃ e : Nat, e < n ∧ x.2.2 439 b' = e ∧ τ ≤ m1 435 e) ∧ ∀ e, e < n → e ≠ k → (x.2.2 438 e = -1 ↔ m1 438 e = -1))) (fun x => n + 1 - x.2.1.toNat) ⟨0, rfl, Nat.zero_le _, fun _ _ _ => rfl, Or.inr ⟨b, p, rfl, hb, hp, by omega, hc, hf, fun e he => ?_, fun b' hb' _ => M.2 b' hb', fun _ _ _ _ => rfl, fun v τ T => ⟨fun hv => ?_, fun b' hb' _ hv ht => T b' hb' hv ht⟩, fun _ _ _ => Iff.rfl⟩⟩ ?_
  · rcases M.1 e he with z | ⟨b', h1, h2, h3, h4⟩
    · exact Or.inl z
    · refine Or.inr ⟨b', h1, fun q => ?_, h2, h3, h4⟩
      rw [q, hfree] at h3
      omega
  · apply Int.lt_of_not_ge
    intro z
    obtain ⟨e, h1, h2, -⟩ := T b hb hv z
    rw [hfree] at h2
    omega
  · rintro ⟨nx, tt, m⟩ ⟨turn, a1, a2, f1, h⟩
    dsimp only at a1 f1 h ⊢
    subst a1
    unfold C_Fleet_matchBack_b1
    rw [f1 431 0 (by omega), e1]
    rcases h with ⟨h1, h2, h3, h4, h5⟩ | ⟨b, p, rfl, hb, hp, htp, hc, ⟨e, he, hf⟩, cA, cB, cC, cD, cE⟩
    · refine ok_grd ⟨fun q => absurd h1 q.2, fun q => absurd h1 q.2⟩ ?_
      rw [if_neg (fun q => q.1.2 h1)]
      exact ok_some ⟨f1, h2, h3, h4, h5⟩
    · obtain ⟨e', h1, h2, -⟩ := q1 p hp
      have hee : e' = e := by omega
      rw [hee] at h1
      have ec : m 441 b = e := by rw [f1 441 _ (by omega), hc]; exact he
      have efr := cC p (Nat.le_refl _) e he
      refine ok_grd ⟨fun _ => by omega, fun _ => by omega⟩ ?_
      rw [Int.toNat_natCast, ec, if_pos ⟨⟨by omega, by omega⟩, by omega⟩]
      refine ok_grd (by omega) (ok_ltv (ok_grd (by omega) (ok_ltv (ok_ltv (ok_ltv (ok_ltv (ok_grd (by unfold InR; omega) (ok_ltv (ok_some ?_)))))))))
      rw [Int.toNat_natCast, efr]
      obtain ⟨m2, hm2⟩ : ∃ m2, m2 = setM (setM m 438 e (b : Int)) 439 b (e : Int) := ⟨_, rfl⟩
      rw [← hm2]
      have x1 : ∀ c i, ¬ (c = 438 ∧ i = e) → ¬ (c = 439 ∧ i = b) → m2 c i = m c i := fun c i y1 y2 => by rw [hm2, setM_ne y2, setM_ne y1]
      have x2 : m2 438 e = b := by rw [hm2, setM_ne (by omega), setM_same]
      have x3 : m2 439 b = e := by rw [hm2, setM_same]
      have g1 : ∀ c i, ¬ (c = 438 ∨ c = 439) → m2 c i = m1 c i := fun c i y => by rw [x1 c i (by omega) (by omega)]; exact f1 c i y
      have folm : ∀ e b, fol m2 e b ↔ fol m1 e b := fun e b => by
        unfold fol
        rw [g1 433 _ (by omega), g1 432 _ (by omega), g1 435 _ (by omega), g1 434 _ (by omega)]
      by_cases hp0 : p = 0
      · rw [hp0, q0] at he
        have hek : e = k := by omega
        have fr : m1 438 e = -1 := by rw [hek]; exact hk0
        rw [fr]
        refine ⟨⟨turn + 1, by dsimp only; omega, by omega, g1, Or.inl ⟨rfl, ⟨fun e2 he2 => ?_, fun b2 hb2 => ?_⟩, fun v τ T b2 hb2 hv ht => ?_, ?_, fun e2 he2 hne => ?_⟩⟩, by dsimp only; omega⟩
        · dsimp only
          by_cases hq : e2 = e
          · rw [hq]
            exact Or.inr ⟨b, hb, x2, x3, (folm e b).mpr hf⟩
          · rw [x1 438 e2 (by omega) (by omega)]
            rcases cA e2 he2 with z | ⟨b', y1, y2, y3, y4, y5⟩
            · exact Or.inl z
            · exact Or.inr ⟨b', y1, y3, by rw [x1 439 b' (by omega) (by omega)]; exact y4, (folm _ _).mpr y5⟩
        · dsimp only
          by_cases hq : b2 = b
          · rw [hq]
            exact Or.inr ⟨e, h1, x3, x2⟩
          · rw [x1 439 b2 (by omega) (by omega)]
            rcases cB b2 hb2 hq with z | ⟨e2, y1, y2, y3⟩
            · exact Or.inl z
            · have : e2 ≠ e := fun q => by
                rw [q, efr, fr] at y3
                omega
              exact Or.inr ⟨e2, y1, y2, by rw [x1 438 e2 (by omega) (by omega)]; exact y3⟩
        · dsimp only at hv ht ⊢
          rw [g1 432 _ (by omega)] at hv
          rw [g1 434 _ (by omega)] at ht
          have D := cD v τ T
          have hq : b2 ≠ b := fun q => by
            rw [q] at hv ht
            have := D.1 hv
            omega
          obtain ⟨e2, y1, y2, y3⟩ := D.2 b2 hb2 hq hv ht
          exact ⟨e2, y1, by rw [x1 439 b2 (by omega) (by omega)]; exact y2, by rw [g1 435 _ (by omega)]; exact y3⟩
        · dsimp only
          rw [← hek, x2]
          omega
        · dsimp only
          rw [x1 438 e2 (by omega) (by omega)]
          exact cE e2 he2 hne
      · obtain ⟨b1, u1, u2, p', u3, u4, e5, u5, u6⟩ := q2 p (by omega) hp
        rw [he] at u2
        have fr : m1 438 e = b1 := (mt_iff M h1 u1).mp u2
        have ek : e ≠ k := fun q => by
          rw [q, hk0] at fr
          omega
        have fb1 : fol m1 e b1 := by
          rcases M.1 e h1 with z | ⟨b9, y1, y2, y3, y4⟩
          · omega
          · have : b9 = b1 := by omega
            rw [← this]
            exact y4
        obtain ⟨nb, o39⟩ : b1 ≠ b ∧ m 439 b1 = e := by
          rcases cA e h1 with z | ⟨b9, y1, y2, y3, y4, y5⟩
          · omega
          · have : b9 = b1 := by omega
            rw [this] at y2 y4
            exact ⟨y2, y4⟩
        rw [fr]
        refine ⟨⟨turn + 1, by dsimp only; omega, by omega, g1, Or.inr ⟨b1, p', rfl, u1, by omega, by omega, u4, ⟨e5, u5, u6⟩, fun e2 he2 => ?_, fun b2 hb2 hne => ?_, fun p9 h9 e9 he9 => ?_, fun v τ T => ⟨fun hv => ?_, fun b2 hb2 hne hv ht => ?_⟩, fun e2 he2 hne => ?_⟩⟩, by dsimp only; omega⟩
        · dsimp only
          by_cases hq : e2 = e
          · rw [hq]
            exact Or.inr ⟨b, hb, fun z => nb z.symm, x2, x3, hf⟩
          · rw [x1 438 e2 (by omega) (by omega)]
            rcases cA e2 he2 with z | ⟨b', y1, y2, y3, y4, y5⟩
            · exact Or.inl z
            · refine Or.inr ⟨b', y1, fun z => ?_, y3, by rw [x1 439 b' (by omega) (by omega)]; exact y4, y5⟩
              rw [z, o39] at y4
              omega
        · dsimp only
          by_cases hq : b2 = b
          · rw [hq]
            exact Or.inr ⟨e, h1, x3, x2⟩
          · rw [x1 439 b2 (by omega) (by omega)]
            rcases cB b2 hb2 hq with z | ⟨e2, y1, y2, y3⟩
            · exact Or.inl z
            · have : e2 ≠ e := fun q => by
                rw [q, efr, fr] at y3
                omega
              exact Or.inr ⟨e2, y1, y2, by rw [x1 438 e2 (by omega) (by omega)]; exact y3⟩
        · dsimp only
          have : e9 ≠ e := fun q => by
            have := q3 p9 p (by omega) hp
            rw [he9, he, q] at this
            exact this rfl
          rw [x1 438 e9 (by omega) (by omega)]
          exact cC p9 (by omega) e9 he9
        · apply Int.lt_of_not_ge
          intro z
          obtain ⟨e9, y1, y2, y3⟩ := T b1 u1 hv z
          have : e9 = e := by omega
          rw [this] at y3
          have D := (cD v τ T).1 (by rw [← hv, ← hf.1, fb1.1])
          have := hf.2
          omega
        · dsimp only
          have D := cD v τ T
          have hq : b2 ≠ b := fun q => by
            rw [q] at hv ht
            have := D.1 hv
            omega
          obtain ⟨e2, y1, y2, y3⟩ := D.2 b2 hb2 hq hv ht
          exact ⟨e2, y1, by rw [x1 439 b2 (by omega) (by omega)]; exact y2, y3⟩
        · dsimp only
          by_cases hq : e2 = e
          · rw [hq, x2, fr]
            omega
          · rw [x1 438 e2 (by omega) (by omega)]
            exact cE e2 he2 hne
/-- as many are left alone as by times -/
theorem match_count {x : Nat → Int} (I : CI mc) (F : FltP mc day m n) (M : MtI n m) (hT : ∀ e, e < n → m 438 e = -1 → ∃ τ, τ ≤ m 435 e ∧ Tgt n m (m 433 e) τ) (hx : ∀ v, v < nC mc → DefP (Dv mc day v) (x v)) : (n : Int) - sI (fun e => if m 438 e = -1 then 0 else 1) n = sI x (nC mc) := by
  -- the lack in words of the fleet
  have hD : ∀ v t, Dv mc day v t = sI (fun i => if m 432 i = v ∧ m 434 i ≤ t then 1 else 0) n + - sI (fun i => if m 433 i = v ∧ m 435 i ≤ t then 1 else 0) n := by
    intro v t
    unfold Dv
    rw [← F.1, ← sI_neg, ← sI_add]
    exact sI_congr (fun i _ => by (try dsimp only); omega)
  have tot : ∀ f : Nat → Int, (∀ i, i < n → 0 ≤ f i ∧ f i < nC mc) → ∀ g : Nat → Int, sI (fun v : Nat => sI (fun i => if f i = (v : Int) then g i else 0) n) (nC mc) = sI g n := by
    intro f hf g
    rw [sI_swap]
    refine sI_congr (fun i hi => ?_)
    have := sI_pt (c := f i) (h := fun _ => g i) (n := nC mc)
    rw [this, if_pos (hf i hi)]
  have c1 : sI (fun b => if m 439 b = -1 then 1 else 0) n = n - sI (fun e => if m 438 e = -1 then 0 else 1) n := by
    have : sI (fun b => if m 439 b = -1 then 1 else 0) n + sI (fun b => if m 439 b = -1 then 0 else 1) n = n := by
      rw [← sI_add, ← sI_one n]
      exact sI_congr (fun i _ => by split <;> omega)
    rw [mt_one M] at this
    omega
  have c2 : sI (fun e => if m 438 e = -1 then 1 else 0) n = n - sI (fun e => if m 438 e = -1 then 0 else 1) n := by
    have : sI (fun e => if m 438 e = -1 then 1 else 0) n + sI (fun e => if m 438 e = -1 then 0 else 1) n = n := by
      rw [← sI_add, ← sI_one n]
      exact sI_congr (fun i _ => by split <;> omega)
    omega
  -- no fewer are left alone
  have up : sI x (nC mc) ≤ sI (fun b => if m 439 b = -1 then 1 else 0) n := by
    rw [← tot (m 432) (fun i hi => by have := F.2 i hi; omega) (fun b => if m 439 b = -1 then 1 else 0)]
    refine sI_le (fun v hv => ?_)
    have P := hx v hv
    have U0 : 0 ≤ sI (fun i => if m 432 i = (v : Int) then (if m 439 i = -1 then 1 else 0) else 0) n := by
      have := sI_le (f := fun _ => 0) (g := fun i => if m 432 i = (v : Int) then (if m 439 i = -1 then 1 else 0) else 0) (n := n) (fun j _ => by split; split; all_goals omega)
      rw [sI_0 (fun _ _ => rfl)] at this
      exact this
    rcases P.2.2 with z | ⟨t, z⟩
    · omega
    · rw [hD] at z
      have a : sI (fun i => if m 432 i = v ∧ m 434 i ≤ t then 1 else 0) n ≤ sI (fun i => if m 432 i = (v : Int) then (if m 439 i = -1 then 1 else 0) else 0) n + sI (fun b => if m 439 b = -1 then 0 else (fun e : Nat => if m 433 e = v ∧ m 435 e ≤ t then 1 else 0) (m 439 b).toNat) n := by
        rw [← sI_add]
        refine sI_le (fun b hb => ?_)
        dsimp only
        by_cases hc : m 432 b = v ∧ m 434 b ≤ t
        · rw [if_pos hc, if_pos hc.1]
          rcases M.2 b hb with q | ⟨e, h1, h2, h3⟩
          · rw [if_pos q]
            split <;> omega
          · have fo : fol m e b := by
              rcases M.1 e h1 with q | ⟨b', y1, y2, y3, y4⟩
              · omega
              · have : b' = b := by omega
                rw [← this]
                exact y4
            rw [if_neg (by omega), if_neg (by omega), h2, Int.toNat_natCast, if_pos ⟨by rw [fo.1]; exact hc.1, by have := fo.2; omega⟩]
            omega
        · rw [if_neg hc]
          split <;> split <;> (try split) <;> omega
      rw [mt_sum M (fun e : Nat => if m 433 e = v ∧ m 435 e ≤ t then 1 else 0)] at a
      have b : sI (fun e => if m 438 e = -1 then 0 else if m 433 e = v ∧ m 435 e ≤ t then 1 else 0) n ≤ sI (fun i => if m 433 i = v ∧ m 435 i ≤ t then 1 else 0) n := sI_le (fun i _ => by (try dsimp only); split <;> (try split) <;> (try split) <;> omega)
      omega
  -- no more are left alone
  have lo : sI (fun e => if m 438 e = -1 then 1 else 0) n ≤ sI x (nC mc) := by
    have key : ∀ v, v < nC mc → sI (fun i => if m 433 i = (v : Int) then (if m 438 i = -1 then 1 else 0) else 0) n + (sI (fun i => if m 432 i = (v : Int) then (fun _ => 1) i else 0) n + - sI (fun i => if m 433 i = (v : Int) then (fun _ => 1) i else 0) n) ≤ x v := by
      intro v hv
      have P := hx v hv
      obtain ⟨τ, T, hτ⟩ : ∃ τ, Tgt n m v τ ∧ ∀ e, e < n → m 438 e = -1 → m 433 e = v → τ ≤ m 435 e := by
        have : ∀ k, k ≤ n → ∃ τ, Tgt n m v τ ∧ ∀ e, e < k → m 438 e = -1 → m 433 e = v → τ ≤ m 435 e := by
          intro k
          induction k with
          | zero =>
            intro _
            refine ⟨1000000, fun b hb _ h => ?_, fun e h => by omega⟩
            have := F.2 b hb
            omega
          | succ k ih =>
            intro hk
            obtain ⟨τ, T, h⟩ := ih (by omega)
            by_cases hc : m 438 k = -1 ∧ m 433 k = v
            · obtain ⟨τ2, h2, T2⟩ := hT k (by omega) hc.1
              rw [hc.2] at T2
              by_cases hh : τ ≤ τ2
              · refine ⟨τ, T, fun e he h3 h4 => ?_⟩
                by_cases hek : e = k
                · rw [hek]; omega
                · exact h e (by omega) h3 h4
              · refine ⟨τ2, T2, fun e he h3 h4 => ?_⟩
                by_cases hek : e = k
                · rw [hek]; omega
                · have := h e (by omega) h3 h4
                  omega
            · refine ⟨τ, T, fun e he h3 h4 => ?_⟩
              by_cases hek : e = k
              · rw [hek] at h3 h4
                exact absurd ⟨h3, h4⟩ hc
              · exact h e (by omega) h3 h4
        exact this n (Nat.le_refl _)
      have d := P.2.1 (τ - 1)
      rw [hD] at d
      -- beginnings from the minute on are those of matched ends
      have a : sI (fun b => if m 439 b = -1 then 0 else (fun e : Nat => if m 433 e = v ∧ τ ≤ m 435 e then 1 else 0) (m 439 b).toNat) n = sI (fun b => if m 432 b = v ∧ τ ≤ m 434 b then 1 else 0) n := by
        refine sI_congr (fun b hb => ?_)
        dsimp only
        by_cases hc : m 432 b = v ∧ τ ≤ m 434 b
        · obtain ⟨e, h1, h2, h3⟩ := T b hb hc.1 hc.2
          have fo : fol m e b := by
            rcases M.1 e h1 with q | ⟨b', y1, y2, y3, y4⟩
            · have := (mt_iff M h1 hb).mp h2
              omega
            · have : b' = b := by
                have := (mt_iff M h1 hb).mp h2
                omega
              rw [← this]
              exact y4
          rw [if_pos hc, if_neg (by omega), h2, Int.toNat_natCast, if_pos ⟨by rw [fo.1]; exact hc.1, h3⟩]
        · rw [if_neg hc]
          rcases M.2 b hb with q | ⟨e, h1, h2, h3⟩
          · rw [if_pos q]
          · have fo : fol m e b := by
              rcases M.1 e h1 with q | ⟨b', y1, y2, y3, y4⟩
              · omega
              · have : b' = b := by omega
                rw [← this]
                exact y4
            rw [if_neg (by omega), h2, Int.toNat_natCast, if_neg]
            rintro ⟨z1, z2⟩
            exact hc ⟨by rw [← fo.1]; exact z1, by have := fo.2; omega⟩
      rw [mt_sum M (fun e : Nat => if m 433 e = v ∧ τ ≤ m 435 e then 1 else 0)] at a
      have b : sI (fun e => if m 438 e = -1 then 0 else if m 433 e = v ∧ τ ≤ m 435 e then 1 else 0) n + sI (fun i => if m 433 i = (v : Int) then (if m 438 i = -1 then 1 else 0) else 0) n = sI (fun e => if m 433 e = v ∧ τ ≤ m 435 e then 1 else 0) n := by
        rw [← sI_add]
        refine sI_congr (fun e he => ?_)
        (try dsimp only)
        by_cases h1 : m 438 e = -1
        · rw [if_pos h1, if_pos h1]
          by_cases h2 : m 433 e = v
          · have := hτ e he h1 h2
            rw [if_pos h2, if_pos ⟨h2, this⟩]
            rfl
          · rw [if_neg h2, if_neg (fun q => h2 q.1)]
            rfl
        · rw [if_neg h1, if_neg h1]
          split <;> split <;> omega
      have s1 : sI (fun i => if m 432 i = v ∧ m 434 i ≤ τ - 1 then 1 else 0) n + sI (fun b => if m 432 b = v ∧ τ ≤ m 434 b then 1 else 0) n = sI (fun i => if m 432 i = (v : Int) then (fun _ => 1) i else 0) n := by
        rw [← sI_add]
        refine sI_congr (fun i _ => ?_)
        dsimp only
        by_cases h1 : m 432 i = v
        · rw [if_pos h1]
          by_cases h2 : τ ≤ m 434 i
          · rw [if_neg (by omega), if_pos ⟨h1, h2⟩]
            rfl
          · rw [if_pos (by omega), if_neg (by omega)]
            rfl
        · rw [if_neg h1, if_neg (fun q => h1 q.1), if_neg (fun q => h1 q.1)]
          rfl
      have s2 : sI (fun i => if m 433 i = v ∧ m 435 i ≤ τ - 1 then 1 else 0) n + sI (fun e => if m 433 e = v ∧ τ ≤ m 435 e then 1 else 0) n = sI (fun i => if m 433 i = (v : Int) then (fun _ => 1) i else 0) n := by
        rw [← sI_add]
        refine sI_congr (fun i _ => ?_)
        dsimp only
        by_cases h1 : m 433 i = v
        · rw [if_pos h1]
          by_cases h2 : τ ≤ m 435 i
          · rw [if_neg (by omega), if_pos ⟨h1, h2⟩]
            rfl
          · rw [if_pos (by omega), if_neg (by omega)]
            rfl
        · rw [if_neg h1, if_neg (fun q => h1 q.1), if_neg (fun q => h1 q.1)]
          rfl
      omega
    have := sI_le (n := nC mc) key
    rw [sI_add, sI_add, sI_neg, tot (m 433) (fun i hi => by have := F.2 i hi; omega), tot (m 432) (fun i hi => by have := F.2 i hi; omega), tot (m 433) (fun i hi => by have := F.2 i hi; omega)] at this
    omega
  omega
end MAU
