/-! ===== waits: the least lateness that holds ===== -/
def runT (mc : Mem) (day : Int) (t : Nat) : Prop := (t : Int) < mc 31 0 ∧ bit (mc 30 (mc 32 t).toNat) day.toNat = 1
def lnT (mc : Mem) (t : Nat) : Nat := (mc 33 t).toNat
def twN (mc : Mem) (w : Nat) : Nat := (mc 401 w).toNat
def cwN (mc : Mem) (w : Nat) : Nat := (mc 402 w).toNat
def owN (mc : Mem) (w : Nat) : Nat := (mc 403 w).toNat
def nwN (mc : Mem) (w : Nat) : Nat := (mc 404 w).toNat
def cntW (mc : Mem) (day : Int) (w : Nat) : Prop := runT mc day (twN mc w) ∧ runT mc day (owN mc w)
def hldW (mc : Mem) (day mask : Int) (w : Nat) : Prop := jiand (jishr mask w) 1 = 1 ∧ cntW mc day w
def cstW (mc : Mem) (w : Nat) : Int := mc (60 + twN mc w) (cwN mc w) + mc 2 (mc (35 + twN mc w) (cwN mc w)).toNat - mc (85 + owN mc w) (nwN mc w)
def ndW (mc : Mem) (X : Nat → Nat → Int) (w : Nat) : Int := cstW mc w + X (twN mc w) (cwN mc w - 1)
def FixW (mc : Mem) (day mask : Int) (X : Nat → Nat → Int) : Prop := (∀ t c : Nat, runT mc day t → c < lnT mc t → lateC mc day t c ≤ X t c) ∧ (∀ t c : Nat, runT mc day t → c + 1 < lnT mc t → X t c ≤ X t (c + 1)) ∧ ∀ w : Nat, (w : Int) < mc 400 4 → hldW mc day mask w → ndW mc X w ≤ X (owN mc w) (nwN mc w)
def LeW (mc : Mem) (day : Int) (X Y : Nat → Nat → Int) : Prop := ∀ t c : Nat, runT mc day t → c < lnT mc t → X t c ≤ Y t c
def UnW (mc : Mem) (day mask : Int) (X : Nat → Nat → Int) : Prop := ∀ Y, FixW mc day mask Y → LeW mc day X Y
/-- no way to hold all within the limit -/
def NoW (mc : Mem) (day mask : Int) : Prop := ∀ Y, FixW mc day mask Y → ∃ w : Nat, (w : Int) < mc 400 4 ∧ runT mc day (owN mc w) ∧ 240 < Y (owN mc w) (nwN mc w)
noncomputable def costW (mc : Mem) (day mask : Int) (X : Nat → Nat → Int) : Int := sI (fun t => if 1 < mc 33 t ∧ bit (mc 30 (mc 32 t).toNat) day.toNat = 1 then X t (lnT mc t - 2) else 0) (mc 31 0).toNat + sI (fun w => @ite _ (jiand (jishr mask w) 1 = 0 ∧ cntW mc day w ∧ X (owN mc w) (nwN mc w) < ndW mc X w) (Classical.propDecidable _) (60 * mc 405 w) 0) (mc 400 4).toNat
section WAI
variable {mc mm m m0 : Mem} {day mask : Int} {X Y R D : Nat → Nat → Int}
theorem wish_facts (I : CI mc) {w : Nat} (hw : (w : Int) < mc 400 4) : w < 6 ∧ mc 401 w = twN mc w ∧ twN mc w < 24 ∧ (twN mc w : Int) < mc 31 0 ∧ mc 402 w = cwN mc w ∧ 1 ≤ cwN mc w ∧ cwN mc w < lnT mc (twN mc w) ∧ mc 403 w = owN mc w ∧ owN mc w < 24 ∧ (owN mc w : Int) < mc 31 0 ∧ mc 404 w = nwN mc w ∧ nwN mc w + 1 < lnT mc (owN mc w) ∧ lnT mc (twN mc w) ≤ 8 ∧ lnT mc (owN mc w) ≤ 8 ∧ 1 ≤ mc 405 w ∧ mc 405 w ≤ 99 := by
  obtain ⟨mm, I⟩ := I
  have a := I.2.2.2.2.2.2.2.2.2 w hw
  have b := I.2.2.2.2.2.2.2.2.1
  have t24 := I.2.2.1.2.2.1
  have c1 := I.2.2.1.2.2.2 (twN mc w) (by unfold twN; omega)
  have c2 := I.2.2.1.2.2.2 (owN mc w) (by unfold owN; omega)
  have e1 : mc 401 w = twN mc w := by unfold twN; omega
  have e2 : mc 403 w = owN mc w := by unfold owN; omega
  have l1 : mc 33 (twN mc w) = lnT mc (twN mc w) := by unfold lnT; omega
  have l2 : mc 33 (owN mc w) = lnT mc (owN mc w) := by unfold lnT; omega
  have a7 : mc 402 w < mc 33 (twN mc w) := by
    have : (mc 401 w).toNat = twN mc w := rfl
    rw [← this]
    omega
  have a8 : mc 404 w + 1 < mc 33 (owN mc w) := by
    have : (mc 403 w).toNat = owN mc w := rfl
    rw [← this]
    omega
  have e3 : mc 402 w = cwN mc w := by unfold cwN; omega
  have e4 : mc 404 w = nwN mc w := by unfold nwN; omega
  omega
theorem wish_calls (I : CI mc) {w : Nat} (hw : (w : Int) < mc 400 4) : 0 ≤ mc (60 + twN mc w) (cwN mc w) ∧ mc (60 + twN mc w) (cwN mc w) ≤ 2879 ∧ 0 ≤ mc (35 + twN mc w) (cwN mc w) ∧ mc (35 + twN mc w) (cwN mc w) < nC mc ∧ 0 ≤ mc (85 + owN mc w) (nwN mc w) ∧ mc (85 + owN mc w) (nwN mc w) ≤ 2879 ∧ 0 ≤ mc 2 (mc (35 + twN mc w) (cwN mc w)).toNat ∧ mc 2 (mc (35 + twN mc w) (cwN mc w)).toNat ≤ 30 := by
  have f := wish_facts I hw
  have n := CI_n I
  have hI := I
  obtain ⟨mm, I⟩ := I
  have c1 := (I.2.2.1.2.2.2 (twN mc w) (by omega)).2.2.2.2.2.2 (cwN mc w) (by unfold lnT at f; omega)
  have c2 := (I.2.2.1.2.2.2 (owN mc w) (by omega)).2.2.2.2.2.2 (nwN mc w) (by unfold lnT at f; omega)
  unfold ITc at c1 c2
  have g := CI_g hI (a := (mc (35 + twN mc w) (cwN mc w)).toNat) (by omega)
  omega
theorem ln_of (I : CI mc) {t : Nat} (h : (t : Int) < mc 31 0) : mc 33 t = lnT mc t ∧ 1 ≤ lnT mc t ∧ lnT mc t ≤ 8 ∧ t < 24 := by
  have tt := CI_t I
  obtain ⟨mm, I⟩ := I
  have := I.2.2.1.2.2.2 t h
  unfold lnT
  omega
theorem fix_up (F : FixW mc day mask X) {t c : Nat} (hr : runT mc day t) : ∀ {c' : Nat}, c ≤ c' → c' < lnT mc t → X t c ≤ X t c' := by
  intro c'
  induction c' with
  | zero =>
    intro h _
    have : c = 0 := by omega
    rw [this]
    exact Int.le_refl _
  | succ c' ih =>
    intro h h2
    by_cases e : c = c' + 1
    · rw [e]; exact Int.le_refl _
    · have a := ih (by omega) (by omega)
      have b := F.2.1 t c' hr h2
      omega
theorem nd_mono (I : CI mc) {w : Nat} (hw : (w : Int) < mc 400 4) (hc : cntW mc day w) (h : LeW mc day X Y) : ndW mc X w ≤ ndW mc Y w := by
  have f := wish_facts I hw
  have := h (twN mc w) (cwN mc w - 1) hc.1 (by omega)
  unfold ndW
  omega
/-- what is least lies within the limit -/
theorem fix_lim (I : CI mc) (F : FixW mc day mask X) (U : UnW mc day mask X) (h : ∀ w : Nat, (w : Int) < mc 400 4 → runT mc day (owN mc w) → X (owN mc w) (nwN mc w) ≤ 240) : ∀ t c : Nat, runT mc day t → c < lnT mc t → X t c ≤ 240 := by
  intro t c hr hc
  have k : FixW mc day mask (fun t c => if X t c ≤ 240 then X t c else 240) := by
    refine ⟨fun t c h1 h2 => ?_, fun t c h1 h2 => ?_, fun w hw hh => ?_⟩
    · have a := F.1 t c h1 h2
      have l := CI_late I (d := day) (t := (t : Int)) (c := (c : Int))
      dsimp only
      split <;> omega
    · have a := F.2.1 t c h1 h2
      dsimp only
      split <;> split <;> omega
    · have a := F.2.2 w hw hh
      have b := h w hw hh.2.2
      unfold ndW at a ⊢
      dsimp only
      rw [if_pos b]
      split <;> omega
  have := U _ k t c hr hc
  (try dsimp only at this)
  split at this <;> omega
theorem cost_congr (I : CI mc) (h1 : LeW mc day X Y) (h2 : LeW mc day Y X) : costW mc day mask X = costW mc day mask Y := by
  have eq : ∀ t c, runT mc day t → c < lnT mc t → X t c = Y t c := fun t c hr hc => by
    have a := h1 t c hr hc
    have b := h2 t c hr hc
    omega
  unfold costW
  congr 1
  · refine sI_congr (fun t ht => ?_)
    by_cases z : 1 < mc 33 t ∧ bit (mc 30 (mc 32 t).toNat) day.toNat = 1
    · rw [if_pos z, if_pos z]
      refine eq t _ ⟨by omega, z.2⟩ ?_
      unfold lnT
      omega
    · rw [if_neg z, if_neg z]
  · refine sI_congr (fun w hw => ?_)
    have f := wish_facts I (w := w) (by omega)
    by_cases z : jiand (jishr mask w) 1 = 0 ∧ cntW mc day w ∧ X (owN mc w) (nwN mc w) < ndW mc X w
    · have e1 := eq (owN mc w) (nwN mc w) z.2.1.2 (by omega)
      have e2 := eq (twN mc w) (cwN mc w - 1) z.2.1.1 (by omega)
      rw [if_pos z, if_pos]
      unfold ndW at z ⊢
      exact ⟨z.1, z.2.1, by omega⟩
    · rw [if_neg z, if_neg]
      intro y
      have e1 := eq (owN mc w) (nwN mc w) y.2.1.2 (by omega)
      have e2 := eq (twN mc w) (cwN mc w - 1) y.2.1.1 (by omega)
      apply z
      unfold ndW at y ⊢
      exact ⟨y.1, y.2.1, by omega⟩
theorem cost_bd (I : CI mc) (h : ∀ t c : Nat, runT mc day t → c < lnT mc t → 0 ≤ X t c ∧ X t c ≤ 240) : 0 ≤ costW mc day mask X ∧ costW mc day mask X ≤ 50000 := by
  have tt := CI_t I
  have w6 : 0 ≤ mc 400 4 ∧ mc 400 4 ≤ 6 := by
    obtain ⟨mm, I⟩ := I
    exact ⟨I.2.2.2.2.2.2.2.1, I.2.2.2.2.2.2.2.2.1⟩
  have a := sI_bd (h := fun t => if 1 < mc 33 t ∧ bit (mc 30 (mc 32 t).toNat) day.toNat = 1 then X t (lnT mc t - 2) else 0) (z := 240) (by omega) (n := (mc 31 0).toNat) (fun t ht => by
    (try dsimp only)
    by_cases z : 1 < mc 33 t ∧ bit (mc 30 (mc 32 t).toNat) day.toNat = 1
    · rw [if_pos z]
      exact h t _ ⟨by omega, z.2⟩ (by unfold lnT; omega)
    · rw [if_neg z]
      omega)
  have b := sI_bd (h := fun w => @ite _ (jiand (jishr mask w) 1 = 0 ∧ cntW mc day w ∧ X (owN mc w) (nwN mc w) < ndW mc X w) (Classical.propDecidable _) (60 * mc 405 w) 0) (z := 5940) (by omega) (n := (mc 400 4).toNat) (fun w hw => by
    have f := wish_facts I (w := w) (by omega)
    (try dsimp only)
    by_cases z : jiand (jishr mask w) 1 = 0 ∧ cntW mc day w ∧ X (owN mc w) (nwN mc w) < ndW mc X w
    · rw [if_pos z]
      omega
    · rw [if_neg z]
      omega)
  unfold costW
  have : (((mc 31 0).toNat : Nat) : Int) * 240 ≤ 24 * 240 := Int.mul_le_mul_of_nonneg_right (by omega) (by omega)
  have : (((mc 400 4).toNat : Nat) : Int) * 5940 ≤ 6 * 5940 := Int.mul_le_mul_of_nonneg_right (by omega) (by omega)
  omega
/-- where all that is settled is looked after, all is settled -/
theorem bf_step (I : CI mc) {S : Nat → Prop} (F : FixW mc day mask R) (U : UnW mc day mask R) (hD : LeW mc day D R) (hl : ∀ t c : Nat, runT mc day t → c < lnT mc t → lateC mc day t c ≤ D t c) (ap : ∀ w : Nat, (w : Int) < mc 400 4 → S w → hldW mc day mask w → ∀ c, nwN mc w ≤ c → c < lnT mc (owN mc w) → ndW mc R w ≤ D (owN mc w) c) (hs : ∀ w : Nat, (w : Int) < mc 400 4 → hldW mc day mask w → D (twN mc w) (cwN mc w - 1) = R (twN mc w) (cwN mc w - 1) → S w) : ∀ w : Nat, (w : Int) < mc 400 4 → hldW mc day mask w → D (twN mc w) (cwN mc w - 1) = R (twN mc w) (cwN mc w - 1) := by
  intro w0 hw0 hh0
  apply Classical.byContradiction
  intro hne
  -- a place that can't sink
  let T : Nat → Nat → Prop := fun t c => R t c = lateC mc day t c ∨ ∃ w : Nat, (w : Int) < mc 400 4 ∧ S w ∧ hldW mc day mask w ∧ owN mc w = t ∧ nwN mc w ≤ c ∧ R t c ≤ ndW mc R w
  obtain ⟨L, hL⟩ : ∃ L : Nat → Nat → Int, L = fun t c => @ite _ (T t c) (Classical.propDecidable _) (R t c) (R t c - 1) := ⟨_, rfl⟩
  have L1 : ∀ t c, T t c → L t c = R t c := fun t c h => by rw [hL]; exact if_pos h
  have L0 : ∀ t c, ¬ T t c → L t c = R t c - 1 := fun t c h => by rw [hL]; exact if_neg h
  have Lle : ∀ t c, L t c ≤ R t c := fun t c => by
    by_cases h : T t c
    · rw [L1 t c h]; exact Int.le_refl _
    · rw [L0 t c h]; omega
  have src : ∀ w : Nat, (w : Int) < mc 400 4 → hldW mc day mask w → ¬ D (twN mc w) (cwN mc w - 1) = R (twN mc w) (cwN mc w - 1) → L (twN mc w) (cwN mc w - 1) = R (twN mc w) (cwN mc w - 1) - 1 := by
    intro w hw hh hn
    have f := wish_facts I hw
    have d := hD (twN mc w) (cwN mc w - 1) hh.2.1 (by omega)
    refine L0 _ _ (fun ht => ?_)
    rcases ht with q | ⟨w', y1, y2, y3, y4, y5, y6⟩
    · have := hl (twN mc w) (cwN mc w - 1) hh.2.1 (by omega)
      omega
    · have := ap w' y1 y2 y3 (cwN mc w - 1) y5 (by rw [y4]; omega)
      rw [y4] at this
      omega
  have FL : FixW mc day mask L := by
    refine ⟨fun t c h1 h2 => ?_, fun t c h1 h2 => ?_, fun w hw hh => ?_⟩
    · have a := F.1 t c h1 h2
      by_cases h : T t c
      · rw [L1 t c h]; exact a
      · rw [L0 t c h]
        have : R t c ≠ lateC mc day t c := fun q => h (Or.inl q)
        omega
    · have a := F.2.1 t c h1 h2
      by_cases h : T t (c + 1)
      · rw [L1 t (c + 1) h]
        have := Lle t c
        omega
      · rw [L0 t (c + 1) h]
        by_cases k : T t c
        · rw [L1 t c k]
          have : R t c ≠ R t (c + 1) := fun q => by
            apply h
            rcases k with k | ⟨w', y1, y2, y3, y4, y5, y6⟩
            · left
              have b := F.1 t (c + 1) h1 h2
              have l := CI_lmono I (d := day) (t := (t : Int)) (c := (c : Int)) (c' := ((c + 1 : Nat) : Int)) (by omega)
              omega
            · exact Or.inr ⟨w', y1, y2, y3, y4, by omega, by omega⟩
          omega
        · rw [L0 t c k]
          omega
    · have f := wish_facts I hw
      have a := F.2.2 w hw hh
      by_cases hS : D (twN mc w) (cwN mc w - 1) = R (twN mc w) (cwN mc w - 1)
      · have n : ndW mc L w ≤ ndW mc R w := by
          have := Lle (twN mc w) (cwN mc w - 1)
          unfold ndW
          omega
        by_cases h : T (owN mc w) (nwN mc w)
        · rw [L1 _ _ h]
          omega
        · rw [L0 _ _ h]
          have : ¬ R (owN mc w) (nwN mc w) ≤ ndW mc R w := fun q => h (Or.inr ⟨w, hw, hs w hw hh hS, hh, rfl, Nat.le_refl _, q⟩)
          omega
      · have e := src w hw hh hS
        have n : ndW mc L w = ndW mc R w - 1 := by
          unfold ndW
          omega
        by_cases h : T (owN mc w) (nwN mc w)
        · rw [L1 _ _ h]
          omega
        · rw [L0 _ _ h]
          omega
  have f0 := wish_facts I hw0
  have := U L FL (twN mc w0) (cwN mc w0 - 1) hh0.2.1 (by omega)
  rw [src w0 hw0 hh0 hne] at this
  omega
end WAI
