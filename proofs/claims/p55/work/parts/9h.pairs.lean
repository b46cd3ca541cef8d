/-! ===== the pairs that no other one beats ===== -/
def stB (lv : Nat → Int) (i : Nat) : Int := if i = 0 then 0 else lv (i - 1) + 1
def PsB (mc : Mem) (day : Int) (a b k : Nat) (lv ar : Nat → Int) : Prop := ∀ i, i < k → FvB mc day a b (stB lv i) (ar i) ∧ 0 ≤ ar i ∧ ar i < 1000000 ∧ KvB mc day a b (ar i) (lv i) ∧ stB lv i ≤ lv i
def PsE (mc : Mem) (day : Int) (a b k : Nat) (lv : Nat → Int) : Prop := ∃ v, FvB mc day a b (stB lv k) v ∧ 1000000 ≤ v
/-- how many places leave up to a minute -/
def CdJ (mc : Mem) (day : Int) (a j : Nat) (z : Int) : Prop := isQ mc day (j / 7) ∧ j % 7 + 1 < lenQ mc (j / 7) ∧ 0 ≤ lvQ mc day (-1) 0 (j / 7) (j % 7) ∧ lvQ mc day (-1) 0 (j / 7) (j % 7) - dg (wC mc (-1)) a (stQ mc (j / 7) (j % 7)) ≤ z
noncomputable def cdf (mc : Mem) (day : Int) (a : Nat) (z : Int) (j : Nat) : Int := @ite _ (CdJ mc day a j z) (Classical.propDecidable _) 1 0
noncomputable def cdN (mc : Mem) (day : Int) (a : Nat) (z : Int) : Nat := muN (cdf mc day a z) 504
theorem muN_one {f : Nat → Int} : ∀ {n : Nat}, (∀ k, k < n → f k ≤ 1) → muN f n ≤ n := by
  intro n
  induction n with
  | zero => intro _; exact Nat.le_refl _
  | succ n ih =>
    intro h
    have a := ih (fun k hk => h k (by omega))
    have b := h n (by omega)
    simp only [muN]
    omega
section PRS
variable {mc mm m m0 : Mem} {day : Int} {a b : Nat}
theorem cdf_1 {z : Int} {j : Nat} (h : CdJ mc day a j z) : cdf mc day a z j = 1 := by
  unfold cdf
  exact if_pos h
theorem cdf_0 {z : Int} {j : Nat} (h : ¬ CdJ mc day a j z) : cdf mc day a z j = 0 := by
  unfold cdf
  exact if_neg h
theorem cdf_01 {z : Int} {j : Nat} : 0 ≤ cdf mc day a z j ∧ cdf mc day a z j ≤ 1 := by
  by_cases h : CdJ mc day a j z
  · rw [cdf_1 h]; omega
  · rw [cdf_0 h]; omega
theorem cdf_le {z z' : Int} {j : Nat} (h : z ≤ z') : cdf mc day a z j ≤ cdf mc day a z' j := by
  by_cases c : CdJ mc day a j z
  · rw [cdf_1 c, cdf_1 ⟨c.1, c.2.1, c.2.2.1, by have := c.2.2.2; omega⟩]
    omega
  · rw [cdf_0 c]
    exact cdf_01.1
theorem cdN_le {z : Int} : cdN mc day a z ≤ 504 := muN_one (fun _ _ => cdf_01.2)
theorem cdN_mono {z z' : Int} (h : z ≤ z') : cdN mc day a z ≤ cdN mc day a z' := muN_le (fun _ _ => cdf_le h)
theorem cdN_lt (I : CI mc) {z z' : Int} (h : z < z') (c : CdB mc day a z') : cdN mc day a z < cdN mc day a z' := by
  obtain ⟨q, c, h1, h2, h3, h4, h5⟩ := c
  have l := CI_len I h2.1
  have e1 : (7 * q + c) / 7 = q := by omega
  have e2 : (7 * q + c) % 7 = c := by omega
  refine muN_lt (s := 7 * q + c) (fun _ _ => cdf_le (by omega)) (by omega) cdf_01.1 ?_
  rw [cdf_0 (z := z), cdf_1 (z := z')]
  · omega
  · unfold CdJ
    rw [e1, e2]
    exact ⟨h2, h3, h4, by omega⟩
  · unfold CdJ
    rw [e1, e2]
    rintro ⟨-, -, -, q⟩
    omega
theorem CdB_bd (I : CI mc) (ha : a < nC mc) {z : Int} (c : CdB mc day a z) : z ≤ 4499 := by
  obtain ⟨q, c, h1, h2, h3, h4, h5⟩ := c
  have k := CI_call I h2.1 (c := c) (by omega)
  have w := CI_w (cut := -1) I ha k.2.1
  have b := qv_bd (day := day) (sh := -1) (mi := 0) I h2.1 h1 (by omega) (c := c) (by omega)
  unfold dg at h5
  split at h5 <;> omega
theorem Fv_mono {x x' v v' : Int} (I : CI mc) (hb : b < nC mc) (h : FvB mc day a b x v) (h' : FvB mc day a b x' v') (hx : x ≤ x') : v ≤ v' := by
  obtain ⟨L, B, e⟩ := h
  obtain ⟨L', B', e'⟩ := h'
  have le := best_mono B B' (ini_le hx)
  rw [e]
  rcases (e' v').mp (Int.le_refl _) with q | ⟨s, hs, q⟩
  · have := le b hb
    exact Or.inl (by omega)
  · have := le s hs
    exact Or.inr ⟨s, hs, by omega⟩
theorem Fv_top {x v : Int} (hb : b < nC mc) (h : FvB mc day a b x v) : v ≤ 1000000 := by
  obtain ⟨L, B, e⟩ := h
  rw [e]
  have := (B.1.1 b hb).1
  simp only [ini] at this
  exact Or.inl this
theorem Kv_iff {x v y K : Int} (hx : 0 ≤ x) (h : FvB mc day a b x v) (k : KvB mc day a b y K) : v ≤ y ↔ x ≤ K := by
  obtain ⟨L, B, e⟩ := h
  rw [e]
  exact k.1 x L hx B
theorem Ps_0 {k : Nat} {lv ar : Nat → Int} (P : PsB mc day a b k lv ar) : ∀ i, i ≤ k → 0 ≤ stB lv i := by
  intro i
  induction i with
  | zero => intro _; exact Int.le_refl _
  | succ i ih =>
    intro hi
    have e := ih (by omega)
    have p := (P i (by omega)).2.2.2.2
    show 0 ≤ lv (i + 1 - 1) + 1
    rw [show i + 1 - 1 = i by omega]
    omega
theorem stB_s {lv : Nat → Int} {i : Nat} : stB lv (i + 1) = lv i + 1 := by
  unfold stB
  rw [if_neg (by omega), show i + 1 - 1 = i by omega]
theorem Ps_lv {k : Nat} {lv ar : Nat → Int} (P : PsB mc day a b k lv ar) {i : Nat} (hi : i + 1 < k) : lv i < lv (i + 1) ∧ ar i < ar (i + 1) := by
  have p := P i (by omega)
  have q := P (i + 1) hi
  have z := Ps_0 P (i + 1) (by omega)
  rw [stB_s] at z q
  have e := Kv_iff z q.1 p.2.2.2.1
  omega
theorem Ps_le {k : Nat} {lv ar : Nat → Int} (P : PsB mc day a b k lv ar) {i j : Nat} (h : i ≤ j) (hj : j < k) : lv i ≤ lv j := by
  induction j with
  | zero =>
    have : i = 0 := by omega
    rw [this]
    omega
  | succ j ih =>
    by_cases e : i = j + 1
    · rw [e]; omega
    · have := ih (by omega) (by omega)
      have := (Ps_lv P (i := j) hj).1
      omega
def FrPs (m0 m : Mem) : Prop := ∀ c i, ¬ (345 ≤ c ∧ c ≤ 354) → m c i = m0 c i
theorem FrPs_ctx {m : Mem} (I : CI mc) (C : Ctx mc day (-1) 0 (-1) m0) (f : FrPs m0 m) : Ctx mc day (-1) 0 (-1) m := Ctx_fr I C (fun c i h => f c i (by unfold cX pC at h; omega))
theorem collect_ok (I : CI mc) (C : Ctx mc day (-1) 0 (-1) m0) (ha : a < nC mc) (hb : b < nC mc) : Ok (C_Search_collectPairs a b m0) (fun m => FrPs m0 m ∧ ∃ k : Nat, m 345 7 = k ∧ k ≤ 504 ∧ PsB mc day a b k (m 350) (m 351) ∧ PsE mc day a b k (m 350)) := by
  have n := CI_n I
  have ha12 : (a : Int) < 12 := by omega
  unfold C_Search_collectPairs
  refine ok_ltv (ok_ltv (ok_ltv (ok_br3 (Q := fun x => match x with | .inl _ => False | .inr m => FrPs m0 m ∧ ∃ k : Nat, m 345 7 = k ∧ k ≤ 504 ∧ PsB mc day a b k (m 350) (m 351) ∧ PsE mc day a b k (m 350)) ?_ (fun _ _ _ h => absurd h (fun q => q)) (fun m h => ok_some h))))
  refine ok_loop (fun s => ∃ k : Nat, s.2.1 = k ∧ s.1 = stB (s.2.2 350) k ∧ FrPs m0 s.2.2 ∧ s.2.2 345 7 = k ∧ PsB mc day a b k (s.2.2 350) (s.2.2 351) ∧ k ≤ cdN mc day a (s.1 - 1) ∧ s.1 ≤ 4500) (fun s => 600 - s.2.1.toNat) ⟨0, rfl, rfl, fun c i h => setM_ne (by omega), (by dsimp only; exact setM_same _ _ _ _), fun i h => by omega, Nat.zero_le _, by show (0 : Int) ≤ 4500; omega⟩ ?_
  rintro ⟨mi, tu, m⟩ ⟨k, e1, e2, f1, e3, P, e4, e5⟩
  dsimp only at e1 e2 f1 e3 P e4 e5 ⊢
  subst e1
  have k504 : k ≤ 504 := Nat.le_trans e4 cdN_le
  have st0 := Ps_0 P k (Nat.le_refl _)
  rw [← e2] at st0
  have Cm := FrPs_ctx I C f1
  unfold C_Search_collectPairs_b1
  refine ok_ite (fun _ => ok_bind (scan_ok (cut := -1) (a := a) (t := mi) I (by omega) Cm ha (by omega) (by omega)) (fun m1 h1 => ?_)) (fun h => by omega)
  have C1 := FrSc_ctx I Cm h1.1
  refine ok_bind (atByRides_ok I (CtL_of I C1.1 C1.2.1) hb h1.2.2) (fun v hv => ok_ltv ?_)
  have F : FvB mc day a b mi v := ⟨_, h1.2.1, hv.1⟩
  have g1 : FrPs m0 m1 := fun c i h => by rw [h1.1 c i (by omega)]; exact f1 c i h
  have r350 : m1 350 = m 350 := funext fun i => h1.1 _ _ (by omega)
  have r351 : m1 351 = m 351 := funext fun i => h1.1 _ _ (by omega)
  have e6 : m1 345 7 = k := by rw [h1.1 345 7 (by omega)]; exact e3
  refine ok_ite (fun hbig => ok_some ⟨g1, k, e6, k504, by rw [r350, r351]; exact P, v, by rw [r350, ← e2]; exact F, hbig⟩) (fun hsm => ?_)
  rw [e6]
  refine ok_grd (by omega) (ok_bq2 (lastRides_ok (y := v) I C1 ha hb (by omega)) (fun K m2 h2 => ok_ltv ?_))
  dsimp only at h2
  obtain ⟨f2, KB⟩ := h2
  have hK := (Kv_iff st0 F KB).mp (Int.le_refl _)
  have cd : CdB mc day a K := by
    rcases KB.2.2.2 with z | z
    · omega
    · exact z
  have K45 := CdB_bd I ha cd
  rw [Int.toNat_natCast]
  obtain ⟨m3, hm3⟩ : ∃ m3, m3 = setM m2 350 k K := ⟨_, rfl⟩
  rw [← hm3]
  have e7 : m3 345 7 = k := by rw [hm3, setM_ne (by omega), f2 345 7 (by omega)]; exact e6
  rw [e7, Int.toNat_natCast]
  refine ok_grd (by omega) (ok_ltv ?_)
  obtain ⟨m4, hm4⟩ : ∃ m4, m4 = setM m3 351 k v := ⟨_, rfl⟩
  rw [← hm4]
  have e8 : m4 345 7 = k := by rw [hm4, setM_ne (by omega)]; exact e7
  have e9 : m4 350 k = K := by rw [hm4, setM_ne (by omega), hm3, setM_same]
  rw [e8, Int.toNat_natCast, e9]
  refine ok_grd (by unfold InR; omega) (ok_ltv (ok_grd (by unfold InR; omega) (ok_ltv (ok_grd (by unfold InR; omega) (ok_ltv (ok_some ?_))))))
  obtain ⟨m5, hm5⟩ : ∃ m5, m5 = setM m4 345 7 ((k : Int) + 1) := ⟨_, rfl⟩
  rw [← hm5]
  have fr : ∀ c i, ¬ (c = 345 ∧ i = 7) → ¬ (c = 351 ∧ i = k) → ¬ (c = 350 ∧ i = k) → m5 c i = m2 c i := fun c i x1 x2 x3 => by
    rw [hm5, setM_ne x1, hm4, setM_ne x2, hm3, setM_ne x3]
  have v350 : ∀ i, i < k → m5 350 i = m 350 i := fun i hi => by rw [fr _ _ (by omega) (by omega) (by omega), f2 _ _ (by omega), r350]
  have v351 : ∀ i, i < k → m5 351 i = m 351 i := fun i hi => by rw [fr _ _ (by omega) (by omega) (by omega), f2 _ _ (by omega), r351]
  have k350 : m5 350 k = K := by rw [hm5, setM_ne (by omega)]; exact e9
  have k351 : m5 351 k = v := by rw [hm5, setM_ne (by omega), hm4, setM_same]
  have st : ∀ i, i ≤ k → stB (m5 350) i = stB (m 350) i := fun i hi => by
    unfold stB
    by_cases h0 : i = 0
    · rw [if_pos h0, if_pos h0]
    · rw [if_neg h0, if_neg h0, v350 _ (by omega)]
  refine ⟨⟨k + 1, by dsimp only; omega, ?_, fun c i h => ?_, ?_, fun i hi => ?_, ?_, by dsimp only; omega⟩, by dsimp only; omega⟩
  · dsimp only
    rw [stB_s, k350]
  · dsimp only
    rw [fr c i (by omega) (by omega) (by omega), f2 c i (by omega)]
    exact g1 c i h
  · dsimp only
    rw [hm5, setM_same]
    omega
  · dsimp only
    by_cases hik : i = k
    · rw [hik, st k (Nat.le_refl _), k350, k351, ← e2]
      exact ⟨F, hv.2.1, by omega, KB, hK⟩
    · rw [st i (by omega), v350 i (by omega), v351 i (by omega)]
      exact P i (by omega)
  · dsimp only
    have := cdN_lt I (z := mi - 1) (z' := K) (by omega) cd
    rw [show K + 1 - 1 = K by omega]
    omega
theorem pairFrom_ok {k : Nat} {x u : Int} (I : CI mc) (hb : b < nC mc) (hk : m 345 7 = k) (k5 : k ≤ 504) (P : PsB mc day a b k (m 350) (m 351)) (E : PsE mc day a b k (m 350)) (hx : 0 ≤ x) (F : FvB mc day a b x u) : Ok (C_Search_pairArrivalFrom x m) (fun v => v = u) := by
  have ut := Fv_top hb F
  unfold C_Search_pairArrivalFrom
  rw [hk]
  refine ok_ltv (ok_ltv (ok_ltv (ok_bq3 (Q := fun (s : Int × Int × Int) => ∃ i : Nat, s.1 = i ∧ i ≤ k ∧ (∀ j, j < i → m 350 j < x) ∧ ∀ j, i ≤ j → j < k → x ≤ m 350 j) ?_ (fun lo _ _ h => ?_))))
  · refine ok_loop (fun s => ∃ i j t : Nat, s.1 = i ∧ s.2.1 = j ∧ s.2.2 = t ∧ i ≤ j ∧ j ≤ k ∧ t + (j - i) ≤ k ∧ (∀ l, l < i → m 350 l < x) ∧ ∀ l, j ≤ l → l < k → x ≤ m 350 l) (fun s => (s.2.1 - s.1).toNat) ⟨0, k, 0, rfl, rfl, rfl, Nat.zero_le _, Nat.le_refl _, by omega, fun l h => by omega, fun l h h2 => by omega⟩ ?_
    rintro ⟨s1, s2, s3⟩ ⟨i, j, t, e1, e2, e3, b1, b2, b3, b4, b5⟩
    dsimp only at e1 e2 e3 ⊢
    subst e1
    subst e2
    subst e3
    unfold C_Search_pairArrivalFrom_b1
    refine ok_ite (fun h => ?_) (fun h => ok_some ⟨i, rfl, by omega, b4, fun l h1 h2 => b5 l (by omega) h2⟩)
    obtain ⟨md, hmd⟩ : ∃ md : Nat, md = (i + j) / 2 := ⟨_, rfl⟩
    have hmd2 : ((i : Int) + (j : Int)).tdiv 2 = md := by
      rw [Int.tdiv_eq_ediv_of_nonneg (by omega)]
      omega
    rw [hmd2]
    refine ok_grd (by unfold InR; omega) (ok_ltv ?_)
    rw [Int.toNat_natCast]
    refine (ok_grd (by omega) (ok_ite (fun hl => ok_grd (by unfold InR; omega) (ok_ltv (ok_grd (by unfold InR; omega) (ok_ltv (ok_some ⟨⟨md + 1, j, t + 1, by dsimp only; omega, rfl, by dsimp only; omega, by omega, b2, by omega, fun l hl2 => ?_, b5⟩, by dsimp only; omega⟩))))) (fun hl => ok_ltv (ok_grd (by unfold InR; omega) (ok_ltv (ok_some ⟨⟨i, md, t + 1, rfl, rfl, by dsimp only; omega, by omega, by omega, by omega, b4, fun l h1 h2 => ?_⟩, by dsimp only; omega⟩))))))
    · have := Ps_le P (i := l) (j := md) (by omega) (by omega)
      omega
    · have := Ps_le P (i := md) (j := l) h1 h2
      omega
  · dsimp only at h
    obtain ⟨i, rfl, b1, b2, b3⟩ := h
    have st : stB (m 350) i ≤ x := by
      unfold stB
      by_cases h0 : i = 0
      · rw [if_pos h0]; exact hx
      · rw [if_neg h0]
        have := b2 (i - 1) (by omega)
        omega
    refine ok_grd (by omega) (ok_some ?_)
    by_cases hik : i < k
    · rw [if_pos (by omega), Int.toNat_natCast]
      have p := P i hik
      have e := (Kv_iff hx F p.2.2.2.1).mpr (b3 i (Nat.le_refl _) hik)
      have e2 := Fv_mono I hb p.1 F st
      omega
    · rw [if_neg (by omega)]
      have : i = k := by omega
      rw [this] at st
      obtain ⟨v, h1, h2⟩ := E
      have := Fv_mono I hb h1 F st
      omega
end PRS
