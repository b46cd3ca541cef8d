/-! ===== waits: the class's turns ===== -/
section WCU
variable {mc mm m m0 ms : Mem} {day mask : Int}
theorem holdOnce_ok {B : Int} (I : CI mc) (hd : 0 ≤ day ∧ day ≤ 27) (p : Per mc ms) (d : DsW mc day ms B) (hB : B ≤ 500000) (U : UnW mc day mask (xC ms)) : Ok (C_Wishes_holdOnce day mask ms) (fun r => (r.1 = 0 ∨ r.1 = 1) ∧ FrD ms r.2 ∧ DsW mc day r.2 (B + 18000) ∧ UnW mc day mask (xC r.2) ∧ (∀ t c : Nat, c < 8 → xC ms t c ≤ xC r.2 t c) ∧ (r.1 = 0 → r.2 = ms ∧ ∀ w : Nat, (w : Int) < mc 400 4 → hldW mc day mask w → ndW mc (xC ms) w ≤ xC ms (owN mc w) (nwN mc w)) ∧ (r.1 = 1 → ∃ w : Nat, (w : Int) < mc 400 4 ∧ hldW mc day mask w ∧ ∃ z, (∀ Y, FixW mc day mask Y → z ≤ ndW mc Y w) ∧ xC ms (owN mc w) (nwN mc w) < z) ∧ ∀ w : Nat, (w : Int) < mc 400 4 → hldW mc day mask w → ∀ c, nwN mc w ≤ c → c < lnT mc (owN mc w) → ndW mc (xC ms) w ≤ xC r.2 (owN mc w) c) := by
  have w60 : 0 ≤ mc 400 4 ∧ mc 400 4 ≤ 6 := by
    obtain ⟨mm, I⟩ := I
    exact ⟨I.2.2.2.2.2.2.2.1, I.2.2.2.2.2.2.2.2.1⟩
  unfold C_Wishes_holdOnce
  refine ok_ltv (ok_ltv (ok_bq3 (Q := fun (r : Int × Int × Mem) => (r.1 = 0 ∨ r.1 = 1) ∧ FrD ms r.2.2 ∧ DsW mc day r.2.2 (B + 18000) ∧ UnW mc day mask (xC r.2.2) ∧ (∀ t c : Nat, c < 8 → xC ms t c ≤ xC r.2.2 t c) ∧ (r.1 = 0 → r.2.2 = ms ∧ ∀ w : Nat, (w : Int) < mc 400 4 → hldW mc day mask w → ndW mc (xC ms) w ≤ xC ms (owN mc w) (nwN mc w)) ∧ (r.1 = 1 → ∃ w : Nat, (w : Int) < mc 400 4 ∧ hldW mc day mask w ∧ ∃ z, (∀ Y, FixW mc day mask Y → z ≤ ndW mc Y w) ∧ xC ms (owN mc w) (nwN mc w) < z) ∧ ∀ w : Nat, (w : Int) < mc 400 4 → hldW mc day mask w → ∀ c, nwN mc w ≤ c → c < lnT mc (owN mc w) → ndW mc (xC ms) w ≤ xC r.2.2 (owN mc w) c) ?_ (fun _ _ _ h => ok_grd h.1 (ok_some h))))
  refine ok_loop (fun r => ∃ k : Nat, r.2.1 = k ∧ (k : Int) ≤ mc 400 4 ∧ (r.1 = 0 ∨ r.1 = 1) ∧ FrD ms r.2.2 ∧ DsW mc day r.2.2 (B + 3000 * k) ∧ UnW mc day mask (xC r.2.2) ∧ (∀ t c : Nat, c < 8 → xC ms t c ≤ xC r.2.2 t c) ∧ (r.1 = 0 → r.2.2 = ms ∧ ∀ w : Nat, w < k → hldW mc day mask w → ndW mc (xC ms) w ≤ xC ms (owN mc w) (nwN mc w)) ∧ (r.1 = 1 → ∃ w : Nat, (w : Int) < mc 400 4 ∧ hldW mc day mask w ∧ ∃ z, (∀ Y, FixW mc day mask Y → z ≤ ndW mc Y w) ∧ xC ms (owN mc w) (nwN mc w) < z) ∧ ∀ w : Nat, w < k → hldW mc day mask w → ∀ c, nwN mc w ≤ c → c < lnT mc (owN mc w) → ndW mc (xC ms) w ≤ xC r.2.2 (owN mc w) c) (fun r => (mc 400 4 - r.2.1).toNat) ⟨0, rfl, by omega, Or.inl rfl, fun _ _ _ => rfl, ?_, U, fun _ _ _ => Int.le_refl _, fun _ => ⟨rfl, fun w h => by omega⟩, fun h => absurd (show (0 : Int) = 1 from h) (by decide), fun w h => by omega⟩ ?_
  · have : B + 3000 * ((0 : Nat) : Int) = B := by omega
    rw [this]
    exact d
  rintro ⟨mv, kk, m⟩ ⟨k, a1, a2, b1, b2, b3, b4, b5, b6, b7, b8⟩
  dsimp only at a1 b1 b2 b3 b4 b5 b6 b7 b8 ⊢
  subst a1
  have pm := FrD_per p b2
  have q4 : m 400 4 = mc 400 4 := pm _ _ ⟨by unfold pC; omega, by omega⟩
  have dsw : ∀ B' : Int, B + 3000 * k ≤ B' → DsW mc day m B' := fun B' hB' => ⟨fun t c h1 h2 => by have := b3.1 t c h1 h2; omega, b3.2.1, b3.2.2⟩
  -- a wish that isn't held, or needs nothing
  have next : (hldW mc day mask k → ∀ c, nwN mc k ≤ c → c < lnT mc (owN mc k) → ndW mc (xC ms) k ≤ xC m (owN mc k) c) → (mv = 0 → hldW mc day mask k → ndW mc (xC ms) k ≤ xC ms (owN mc k) (nwN mc k)) → (k : Int) < mc 400 4 → ∃ k' : Nat, (k : Int) + 1 = k' ∧ (k' : Int) ≤ mc 400 4 ∧ (mv = 0 ∨ mv = 1) ∧ FrD ms m ∧ DsW mc day m (B + 3000 * k') ∧ UnW mc day mask (xC m) ∧ (∀ t c : Nat, c < 8 → xC ms t c ≤ xC m t c) ∧ (mv = 0 → m = ms ∧ ∀ w : Nat, w < k' → hldW mc day mask w → ndW mc (xC ms) w ≤ xC ms (owN mc w) (nwN mc w)) ∧ (mv = 1 → ∃ w : Nat, (w : Int) < mc 400 4 ∧ hldW mc day mask w ∧ ∃ z, (∀ Y, FixW mc day mask Y → z ≤ ndW mc Y w) ∧ xC ms (owN mc w) (nwN mc w) < z) ∧ ∀ w : Nat, w < k' → hldW mc day mask w → ∀ c, nwN mc w ≤ c → c < lnT mc (owN mc w) → ndW mc (xC ms) w ≤ xC m (owN mc w) c := by
    intro h1 h2 h3
    refine ⟨k + 1, by omega, by omega, b1, b2, dsw _ (by omega), b4, b5, fun h => ⟨(b6 h).1, fun w hw hh => ?_⟩, b7, fun w hw hh c x1 x2 => ?_⟩
    · by_cases e : w = k
      · rw [e] at hh ⊢
        exact h2 h hh
      · exact (b6 h).2 w (by omega) hh
    · by_cases e : w = k
      · rw [e] at hh x1 x2 ⊢
        exact h1 hh c x1 x2
      · exact b8 w (by omega) hh c x1 x2
  unfold C_Wishes_holdOnce_b1
  rw [q4]
  refine ok_ite (fun hk => ?_) (fun hk => ok_some ⟨b1, b2, dsw _ (by omega), b4, b5, fun h => ⟨(b6 h).1, fun w hw hh => (b6 h).2 w (by omega) hh⟩, b7, fun w hw hh => b8 w (by omega) hh⟩)
  have f := wish_facts I hk
  refine ok_ite (fun hmask => ok_bind (isCounted_ok I hd pm hk) (fun z hz => ok_ite (fun hz1 => ?_) (fun hz1 => ?_))) (fun hmask => ?_)
  · have hc : cntW mc day k := by
      rcases hz with hz | hz
      · exact hz.2
      · exact absurd hz.1 hz1
    have hh : hldW mc day mask k := ⟨hmask, hc⟩
    have l := ln_of I hc.2.1
    have ls := ln_of I hc.1.1
    have ndle : ndW mc (xC ms) k ≤ ndW mc (xC m) k := by
      have := b5 (twN mc k) (cwN mc k - 1) (by omega)
      unfold ndW
      omega
    have gb := (gap_ok I pm hk b3 (by omega)).2
    refine ok_bq2 (hold_ok I pm hk b3 (by omega)) (fun r2 m2 h => ok_ltv ?_)
    dsimp only at h
    rcases h with ⟨h1, h2, h3⟩ | ⟨h1, h2, h3, h4⟩
    · rw [h1, jior_0 (by rcases b1 with q | q <;> rw [q] <;> unfold InR <;> omega), h2]
      refine ok_grd (by unfold InR; omega) (ok_ltv (ok_some ⟨next (fun _ c x1 x2 => ?_) (fun h0 _ => ?_) hk, by dsimp only; omega⟩))
      · have := ds_up b3 hc.2.1 x1 x2
        omega
      · have := (b6 h0).1
        rw [this] at h3
        exact h3
    · have jo : jior mv r2 = 1 := by
        rw [h1]
        rcases b1 with q | q <;> rw [q] <;> decide
      rw [jo]
      have up : ∀ t c : Nat, c < 8 → xC m t c ≤ xC m2 t c := fun t c hc8 => by
        rw [h4 t c hc8]
        split <;> omega
      refine ok_grd (by unfold InR; omega) (ok_ltv (ok_some ⟨⟨k + 1, by dsimp only; omega, by omega, Or.inr rfl, fun c i h => ?_, ⟨fun t c x1 x2 => ?_, fun t c x1 x2 => ?_, fun t c x1 x2 x3 => ?_⟩, fun Y F t c x1 x2 => ?_, fun t c x1 => ?_, fun h => absurd (show (1 : Int) = 0 from h) (by decide), fun _ => ⟨k, hk, hh, ndW mc (xC m) k, fun Y F => nd_mono I hk hc (b4 Y F), ?_⟩, fun w hw hh' c x1 x2 => ?_⟩, by dsimp only; omega⟩))
      · dsimp only
        rw [h2 c i h]
        exact b2 c i h
      · dsimp only
        have l' := ln_of I x1
        have := b3.1 t c x1 x2
        rw [h4 t c (by omega)]
        split <;> omega
      · dsimp only
        have l' := ln_of I x1
        have := b3.2.1 t c x1 x2
        rw [h4 t c (by omega), h4 t (c + 1) (by omega)]
        by_cases e : t = owN mc k
        · rw [e] at x2
          split <;> split <;> omega
        · rw [if_neg (fun q => e q.1), if_neg (fun q => e q.1)]
          exact this
      · dsimp only
        have l' := ln_of I x1
        rw [h4 t c (by omega), if_neg]
        · exact b3.2.2 t c x1 x2 x3
        · rintro ⟨q, -⟩
          rw [q] at x2
          exact x2 hc.2
      · dsimp only
        have l' := ln_of I x1.1
        rw [h4 t c (by omega)]
        by_cases e : t = owN mc k ∧ nwN mc k ≤ c ∧ c < lnT mc (owN mc k) ∧ xC m t c < ndW mc (xC m) k
        · rw [if_pos e, e.1]
          exact un_raise I hk hh b4 e.2.1 e.2.2.1 (Int.le_refl _) Y F
        · rw [if_neg e]
          exact b4 Y F t c x1 x2
      · dsimp only
        have := b5 t c x1
        have := up t c x1
        omega
      · have := b5 (owN mc k) (nwN mc k) (by omega)
        omega
      · dsimp only
        have lw : lnT mc (owN mc w) ≤ 8 := (wish_facts I (w := w) (by omega)).2.2.2.2.2.2.2.2.2.2.2.2.2.1
        by_cases e : w = k
        · rw [e] at x1 x2 ⊢
          rw [h4 (owN mc k) c (by omega)]
          split
          · exact ndle
          · rename_i q
            have : ¬ xC m (owN mc k) c < ndW mc (xC m) k := fun y => q ⟨rfl, x1, x2, y⟩
            omega
        · have := b8 w (by omega) hh' c x1 x2
          have := up (owN mc w) c (by omega)
          omega
  · have hc : ¬ cntW mc day k := by
      rcases hz with hz | hz
      · exact absurd hz.1 (fun q => hz1 (by omega))
      · exact hz.2
    refine ok_grd (by unfold InR; omega) (ok_ltv (ok_some ⟨next (fun q => absurd q.2 hc) (fun _ q => absurd q.2 hc) hk, by dsimp only; omega⟩))
  · refine ok_grd (by unfold InR; omega) (ok_ltv (ok_some ⟨next (fun q => absurd q.1 hmask) (fun _ q => absurd q.1 hmask) hk, by dsimp only; omega⟩))
theorem cnS_1 {S : Nat → Prop} {w : Nat} (h : S w) : @ite Int (S w) (Classical.propDecidable _) 1 0 = 1 := if_pos h
theorem cnS_0 {S : Nat → Prop} {w : Nat} (h : ¬ S w) : @ite Int (S w) (Classical.propDecidable _) 1 0 = 0 := if_neg h
theorem cnS_all {S : Nat → Prop} : ∀ {K : Nat}, (∀ w, w < K → S w) → cnS S K = K := by
  intro K h
  unfold cnS
  rw [← sI_one K]
  exact sI_congr (fun w hw => cnS_1 (h w hw))
theorem cnS_le {S T : Nat → Prop} {K : Nat} (h : ∀ w, w < K → S w → T w) : cnS S K ≤ cnS T K := by
  unfold cnS
  refine sI_le (fun w hw => ?_)
  by_cases z : S w
  · rw [cnS_1 z, cnS_1 (h w hw z)]
    exact Int.le_refl _
  · rw [cnS_0 z]
    by_cases y : T w
    · rw [cnS_1 y]; omega
    · rw [cnS_0 y]; omega
theorem cnS_lt {S T : Nat → Prop} {K w0 : Nat} (h : ∀ w, w < K → S w → T w) (h0 : w0 < K) (h1 : T w0) (h2 : ¬ S w0) : cnS S K + 1 ≤ cnS T K := by
  have e : cnS (fun w => S w ∨ w = w0) K = cnS S K + 1 := by
    unfold cnS
    refine sI_upd (s := w0) h0 (fun k hk hne => ?_) ?_
    · by_cases z : S k
      · rw [cnS_1 z, cnS_1 (S := fun w => S w ∨ w = w0) (Or.inl z)]
      · rw [cnS_0 z, cnS_0 (S := fun w => S w ∨ w = w0) (fun q => by
          rcases q with q | q
          · exact z q
          · exact hne q)]
    · rw [cnS_0 h2, cnS_1 (S := fun w => S w ∨ w = w0) (Or.inr rfl)]
      rfl
  rw [← e]
  refine cnS_le (fun w hw q => ?_)
  rcases q with q | q
  · exact h w hw q
  · rw [q]; exact h1
theorem cnS_full {S : Nat → Prop} {K : Nat} (h : (K : Int) ≤ cnS S K) : ∀ w, w < K → S w := by
  intro w hw
  apply Classical.byContradiction
  intro hn
  have a := cnS_lt (S := S) (T := fun _ => True) (K := K) (w0 := w) (fun _ _ _ => trivial) hw trivial hn
  rw [cnS_all (fun _ _ => trivial)] at a
  omega
/-- settled wishes, and looked after -/
def BfI (mc : Mem) (day mask : Int) (R : Nat → Nat → Int) (m : Mem) (j : Nat) : Prop := (j : Int) ≤ mc 400 4 ∧ ∃ S : Nat → Prop, (j : Int) ≤ cnS S (mc 400 4).toNat ∧ (∀ w : Nat, (w : Int) < mc 400 4 → S w → hldW mc day mask w → xC m (twN mc w) (cwN mc w - 1) = R (twN mc w) (cwN mc w - 1)) ∧ ∀ w : Nat, (w : Int) < mc 400 4 → S w → hldW mc day mask w → ∀ c, nwN mc w ≤ c → c < lnT mc (owN mc w) → ndW mc R w ≤ xC m (owN mc w) c
theorem spreadLoop_ok (I : CI mc) (hd : 0 ≤ day ∧ day ≤ 27) (p : Per mc m0) (d : DsW mc day m0 120) (U : UnW mc day mask (xC m0)) : Ok (loop (fun s => C_Wishes_spread_b1 day mask s.1 s.2.1 s.2.2) ((1 : Int), (0 : Int), m0)) (fun r => FrD m0 r.2.2 ∧ DsW mc day r.2.2 200000 ∧ UnW mc day mask (xC r.2.2) ∧ (r.1 = 0 → FixW mc day mask (xC r.2.2)) ∧ ((∃ R, FixW mc day mask R ∧ UnW mc day mask R) → r.1 = 0)) := by
  have w60 : 0 ≤ mc 400 4 ∧ mc 400 4 ≤ 6 := by
    obtain ⟨mm, I⟩ := I
    exact ⟨I.2.2.2.2.2.2.2.1, I.2.2.2.2.2.2.2.2.1⟩
  refine ok_loop (fun r => ∃ j : Nat, r.2.1 = j ∧ (j : Int) ≤ mc 400 4 + 1 ∧ (r.1 = 0 ∨ r.1 = 1) ∧ FrD m0 r.2.2 ∧ DsW mc day r.2.2 (120 + 18000 * j) ∧ UnW mc day mask (xC r.2.2) ∧ (r.1 = 0 → FixW mc day mask (xC r.2.2)) ∧ (r.1 = 1 → ∀ R, FixW mc day mask R → UnW mc day mask R → BfI mc day mask R r.2.2 j)) (fun r => 20 - r.2.1.toNat) ⟨0, rfl, by omega, Or.inr rfl, fun _ _ _ => rfl, ?_, U, fun h => absurd (show (1 : Int) = 0 from h) (by decide), fun _ R _ _ => ⟨by omega, fun _ => False, ?_, fun _ _ h => absurd h (fun q => q), fun _ _ h => absurd h (fun q => q)⟩⟩ ?_
  · have : (120 : Int) + 18000 * ((0 : Nat) : Int) = 120 := by omega
    rw [this]
    exact d
  · have e : cnS (fun _ => False) (mc 400 4).toNat = 0 := by
      unfold cnS
      exact sI_0 (fun w _ => cnS_0 (S := fun _ => False) (w := w) (fun q => q))
    rw [e]
    exact Int.le_refl _
  rintro ⟨mv, jj, m⟩ ⟨j, a1, a2, b1, b2, b3, b4, b5, b6⟩
  dsimp only at a1 b1 b2 b3 b4 b5 b6 ⊢
  subst a1
  have pm := FrD_per p b2
  have q4 : m 400 4 = mc 400 4 := pm _ _ ⟨by unfold pC; omega, by omega⟩
  unfold C_Wishes_spread_b1
  rw [q4]
  refine ok_ite (fun hj => ok_bq2 (holdOnce_ok I hd pm b3 (by omega) b4) (fun mv2 m2 h => ok_ltv (ok_grd (by unfold InR; omega) (ok_ltv (ok_some ?_))))) (fun hj => ok_some ⟨b2, ⟨fun t c h1 h2 => by have := b3.1 t c h1 h2; dsimp only; omega, b3.2.1, b3.2.2⟩, b4, b5, fun q => ?_⟩)
  · dsimp only at h
    obtain ⟨h1, h2, h3, h4, h5, h6, h7, h8⟩ := h
    have mv1 : mv = 1 := b1.resolve_left hj.2
    refine ⟨⟨j + 1, by dsimp only; omega, by omega, h1, fun c i hc => ?_, ?_, h4, fun q => ?_, fun q R F UR => ?_⟩, by dsimp only; omega⟩
    · dsimp only
      rw [h2 c i hc]
      exact b2 c i hc
    · have : (120 : Int) + 18000 * ((j + 1 : Nat) : Int) = 120 + 18000 * (j : Int) + 18000 := by omega
      rw [this]
      exact h3
    · dsimp only at q ⊢
      have k := h6 q
      rw [k.1]
      exact ⟨fun t c x1 x2 => (b3.1 t c x1.1 x2).1, fun t c x1 x2 => b3.2.1 t c x1.1 x2, k.2⟩
    · dsimp only at q ⊢
      obtain ⟨c1, S, c2, c3, c4⟩ := b6 mv1 R F UR
      have leR : LeW mc day (xC m) R := b4 R F
      have leR2 : LeW mc day (xC m2) R := h4 R F
      obtain ⟨w9, v1, v2, z, v3, v4⟩ := h7 q
      -- not all are looked after
      have jK : (j : Int) < mc 400 4 := by
        apply Classical.byContradiction
        intro hge
        have full := cnS_full (S := S) (K := (mc 400 4).toNat) (by omega)
        have f9 := wish_facts I v1
        have y1 := c4 w9 v1 (full w9 (by omega)) v2 (nwN mc w9) (Nat.le_refl _) (by omega)
        have y2 := v3 R F
        omega
      let T : Nat → Prop := fun w => hldW mc day mask w → xC m (twN mc w) (cwN mc w - 1) = R (twN mc w) (cwN mc w - 1)
      have ST : ∀ w, w < (mc 400 4).toNat → S w → T w := fun w hw hs hh => c3 w (by omega) hs hh
      have many : ((j + 1 : Nat) : Int) ≤ cnS T (mc 400 4).toNat := by
        by_cases ex : ∃ w0, w0 < (mc 400 4).toNat ∧ T w0 ∧ ¬ S w0
        · obtain ⟨w0, x1, x2, x3⟩ := ex
          have := cnS_lt ST x1 x2 x3
          omega
        · have sub : ∀ w : Nat, (w : Int) < mc 400 4 → hldW mc day mask w → xC m (twN mc w) (cwN mc w - 1) = R (twN mc w) (cwN mc w - 1) → S w := fun w hw hh e => by
            apply Classical.byContradiction
            intro hn
            exact ex ⟨w, by omega, fun _ => e, hn⟩
          have all := bf_step I F UR leR (fun t c x1 x2 => (b3.1 t c x1.1 x2).1) c4 sub
          rw [cnS_all (S := T) (fun w hw hh => all w (by omega) hh)]
          omega
      refine ⟨by omega, T, many, fun w hw ht hh => ?_, fun w hw ht hh c x1 x2 => ?_⟩
      · have e := ht hh
        have f := wish_facts I hw
        have y1 := h5 (twN mc w) (cwN mc w - 1) (by omega)
        have y2 := leR2 (twN mc w) (cwN mc w - 1) hh.2.1 (by omega)
        omega
      · have e := ht hh
        have y := h8 w hw hh c x1 x2
        unfold ndW at y ⊢
        omega
  · obtain ⟨R, F, UR⟩ := q
    rcases b1 with z | z
    · exact z
    · have := (b6 z R F UR).1
      omega
theorem limit_ok (I : CI mc) (p : Per mc m) : Ok (C_Wishes_isWithinLimit m) (fun z => (z = 1 ∧ ∀ w : Nat, (w : Int) < mc 400 4 → xC m (owN mc w) (nwN mc w) ≤ 240) ∨ (z = 0 ∧ ∃ w : Nat, (w : Int) < mc 400 4 ∧ 240 < xC m (owN mc w) (nwN mc w))) := by
  have w60 : 0 ≤ mc 400 4 ∧ mc 400 4 ≤ 6 := by
    obtain ⟨mm, I⟩ := I
    exact ⟨I.2.2.2.2.2.2.2.1, I.2.2.2.2.2.2.2.2.1⟩
  have q4 : m 400 4 = mc 400 4 := p _ _ ⟨by unfold pC; omega, by omega⟩
  unfold C_Wishes_isWithinLimit
  refine ok_ltv (ok_br1 (Q := fun x => match x with | .inl _ => ∀ w : Nat, (w : Int) < mc 400 4 → xC m (owN mc w) (nwN mc w) ≤ 240 | .inr z => z = 0 ∧ ∃ w : Nat, (w : Int) < mc 400 4 ∧ 240 < xC m (owN mc w) (nwN mc w)) ?_ (fun _ h => ok_some (Or.inl ⟨rfl, h⟩)) (fun z h => ok_some (Or.inr h)))
  refine ok_loop (fun s => ∃ k : Nat, s = k ∧ (k : Int) ≤ mc 400 4 ∧ ∀ w : Nat, w < k → xC m (owN mc w) (nwN mc w) ≤ 240) (fun s => (mc 400 4 - s).toNat) ⟨0, rfl, by omega, fun w h => by omega⟩ ?_
  rintro kk ⟨k, a1, a2, a3⟩
  subst a1
  unfold C_Wishes_isWithinLimit_b1
  rw [q4]
  refine ok_ite (fun hk => ?_) (fun hk => ok_some (fun w hw => a3 w (by omega)))
  have f := wish_facts I hk
  have e3 : m 403 k = owN mc k := by rw [p _ _ ⟨by unfold pC; omega, by omega⟩]; exact f.2.2.2.2.2.2.2.1
  have e4 : m 404 k = nwN mc k := by rw [p _ _ ⟨by unfold pC; omega, by omega⟩]; exact f.2.2.2.2.2.2.2.2.2.2.1
  simp only [Int.toNat_natCast, e3, e4]
  refine ok_grd (by omega) (ok_ite (fun h => ok_some ⟨rfl, k, hk, h⟩) (fun h => ok_grd (by unfold InR; omega) (ok_ltv (ok_some ⟨⟨k + 1, by omega, by omega, fun w hw => ?_⟩, by omega⟩))))
  by_cases e : w = k
  · rw [e]
    have : xC m (owN mc k) (nwN mc k) = m (407 + owN mc k) (nwN mc k) := rfl
    omega
  · exact a3 w (by omega)
end WCU
