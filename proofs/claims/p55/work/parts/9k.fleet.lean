/-! ===== sums; the trips of a day ===== -/
section SUM
variable {f g h : Nat → Int}
theorem sI_add : ∀ n : Nat, sI (fun k => f k + g k) n = sI f n + sI g n := by
  intro n
  induction n with
  | zero => rfl
  | succ n ih => simp only [sI]; rw [ih]; omega
theorem sI_0 : ∀ {n : Nat}, (∀ k, k < n → f k = 0) → sI f n = 0 := by
  intro n
  induction n with
  | zero => intro _; rfl
  | succ n ih =>
    intro h
    simp only [sI]
    rw [ih (fun k hk => h k (by omega)), h n (by omega)]
    rfl
theorem sI_le : ∀ {n : Nat}, (∀ k, k < n → f k ≤ g k) → sI f n ≤ sI g n := by
  intro n
  induction n with
  | zero => intro _; exact Int.le_refl _
  | succ n ih =>
    intro h
    have a := ih (fun k hk => h k (by omega))
    have b := h n (by omega)
    simp only [sI]
    omega
theorem sI_ge {j : Nat} : ∀ {n : Nat}, j ≤ n → (∀ i, i < j → h i = g i) → (∀ i, j ≤ i → i < n → 0 ≤ h i) → sI g j ≤ sI h n := by
  intro n
  induction n with
  | zero =>
    intro h1 _ _
    have : j = 0 := by omega
    rw [this]
    exact Int.le_refl _
  | succ n ih =>
    intro h1 h2 h3
    by_cases hj : j = n + 1
    · rw [hj]
      have := sI_congr (n := n + 1) (fun i hi => (h2 i (by omega)))
      omega
    · have a := ih (by omega) h2 (fun i h4 h5 => h3 i h4 (by omega))
      have b := h3 n (by omega) (by omega)
      simp only [sI]
      omega
theorem sI_pt {c : Int} {h : Nat → Int} : ∀ {n : Nat}, sI (fun x => if c = (x : Int) then h x else 0) n = if 0 ≤ c ∧ c < n then h c.toNat else 0 := by
  intro n
  induction n with
  | zero =>
    rw [if_neg (by omega)]
    rfl
  | succ n ih =>
    simp only [sI]
    rw [ih]
    by_cases hc : c = (n : Int)
    · rw [if_pos hc, if_neg (by omega), if_pos (by omega), hc, Int.toNat_natCast]
      omega
    · rw [if_neg hc]
      by_cases h2 : 0 ≤ c ∧ c < (n : Int)
      · rw [if_pos h2, if_pos (by omega)]
        omega
      · rw [if_neg h2, if_neg (by omega)]
        rfl
theorem sI_swap {F : Nat → Nat → Int} {n : Nat} : ∀ m : Nat, sI (fun i => sI (fun j => F i j) n) m = sI (fun j => sI (fun i => F i j) m) n := by
  intro m
  induction m with
  | zero =>
    show 0 = _
    exact (sI_0 (fun k _ => rfl)).symm
  | succ m ih =>
    show sI (fun i => sI (fun j => F i j) n) m + sI (fun j => F m j) n = sI (fun j => sI (fun i => F i j) m + F m j) n
    rw [ih, sI_add]
theorem sI_one (n : Nat) : sI (fun _ => 1) n = n := by
  induction n with
  | zero => rfl
  | succ n ih =>
    simp only [sI]
    rw [ih]
    omega
theorem sI_upd {s : Nat} : ∀ {n : Nat}, s < n → (∀ k, k < n → k ≠ s → f k = g k) → f s = g s + 1 → sI f n = sI g n + 1 := by
  intro n
  induction n with
  | zero => intro h; omega
  | succ n ih =>
    intro hs h1 h2
    simp only [sI]
    by_cases e : s = n
    · rw [sI_congr (n := n) (fun k hk => h1 k (by omega) (by omega)), ← e, h2]
      omega
    · rw [ih (by omega) (fun k hk hne => h1 k (by omega) hne) h2, h1 n (by omega) (fun q => e q.symm)]
      omega
theorem cI_sum {f : Nat → Int} {V : Nat} : ∀ {n : Nat}, (∀ j, j < n → 0 ≤ f j ∧ f j < V) → ∀ G : Int → Int, sI (fun j => G (f j)) n = sI (fun x : Nat => G x * (cI f x 0 n : Int)) V := by
  intro n
  induction n with
  | zero =>
    intro _ G
    show 0 = _
    rw [sI_0 (fun k _ => by show G k * ((0 : Nat) : Int) = 0; simp)]
  | succ n ih =>
    intro hf G
    have b := hf n (by omega)
    show sI (fun j => G (f j)) n + G (f n) = _
    rw [ih (fun j hj => hf j (by omega)) G]
    have e : sI (fun x : Nat => G x * (cI f x 0 (n + 1) : Int)) V = sI (fun x : Nat => G x * (cI f x 0 n : Int) + (if f n = (x : Int) then G x else 0)) V := by
      refine sI_congr (fun x _ => ?_)
      show G x * ((cI f x 0 n + (if f (0 + n) = (x : Int) then 1 else 0) : Nat) : Int) = _
      rw [Nat.zero_add]
      by_cases hx : f n = (x : Int)
      · rw [if_pos hx, if_pos hx, Int.natCast_add, Int.mul_add]
        simp
      · rw [if_neg hx, if_neg hx]
        simp
    rw [e, sI_add, sI_pt (c := f n) (h := fun x : Nat => G x), if_pos b]
    have : ((f n).toNat : Int) = f n := by omega
    rw [this]
theorem cI_same {f g : Nat → Int} {V n : Nat} (hf : ∀ j, j < n → 0 ≤ f j ∧ f j < V) (hg : ∀ j, j < n → 0 ≤ g j ∧ g j < V) (h : ∀ v, cI g v 0 n = cI f v 0 n) (G : Int → Int) : sI (fun j => G (g j)) n = sI (fun j => G (f j)) n := by
  rw [cI_sum hf, cI_sum hg]
  refine sI_congr (fun x _ => ?_)
  rw [h]
end SUM
/-- the greatest lack, or none -/
def DefP (D : Int → Int) (x : Int) : Prop := 0 ≤ x ∧ (∀ t, D t ≤ x) ∧ (x ≤ 0 ∨ ∃ t, x ≤ D t)
theorem DefP_uniq {D : Int → Int} {x y : Int} (h : DefP D x) (k : DefP D y) : x = y := by
  obtain ⟨h1, h2, h3⟩ := h
  obtain ⟨k1, k2, k3⟩ := k
  have a : x ≤ y := by
    rcases h3 with h3 | ⟨t, h3⟩
    · omega
    · have := k2 t; omega
  have b : y ≤ x := by
    rcases k3 with k3 | ⟨t, k3⟩
    · omega
    · have := h2 t; omega
  omega
def sg (x : Int) : Int := if x % 2 = 1 then 1 else -1
theorem sweep_cut {a : Nat → Int} {t : Int} : ∀ {f : Nat}, SoI a 0 f → ∃ j, j ≤ f ∧ sI (fun i => if a i ≤ 2 * t + 1 then sg (a i) else 0) f = sI (fun i => sg (a i)) j := by
  intro f
  induction f with
  | zero => intro _; exact ⟨0, Nat.le_refl _, rfl⟩
  | succ f ih =>
    intro s
    by_cases h : a f ≤ 2 * t + 1
    · refine ⟨f + 1, Nat.le_refl _, sI_congr (fun i hi => ?_)⟩
      have := s i f (by omega) (by omega) (by omega)
      rw [if_pos (by omega)]
    · obtain ⟨j, j1, j2⟩ := ih (fun i j h1 h2 h3 => s i j h1 h2 (by omega))
      refine ⟨j, by omega, ?_⟩
      show sI (fun i => if a i ≤ 2 * t + 1 then sg (a i) else 0) f + (if a f ≤ 2 * t + 1 then sg (a f) else 0) = _
      rw [if_neg h, j2]
      omega
theorem sweep {a : Nat → Int} {f : Nat} {fr : Int} (s : SoI a 0 f) (h0 : 0 ≤ fr) (h1 : ∀ j, j ≤ f → sI (fun i => sg (a i)) j ≤ fr) (h2 : fr ≤ 0 ∨ ∃ j, j < f ∧ a j % 2 = 1 ∧ fr ≤ sI (fun i => sg (a i)) (j + 1)) : DefP (fun t => sI (fun i => if a i ≤ 2 * t + 1 then sg (a i) else 0) f) fr := by
  refine ⟨h0, fun t => ?_, ?_⟩
  · obtain ⟨j, j1, j2⟩ := sweep_cut (t := t) s
    dsimp only
    rw [j2]
    exact h1 j j1
  · rcases h2 with h2 | ⟨j, j1, j2, j3⟩
    · exact Or.inl h2
    · right
      refine ⟨a j / 2, Int.le_trans j3 ?_⟩
      have e : 2 * (a j / 2) + 1 = a j := by omega
      dsimp only
      rw [e]
      refine sI_ge (by omega) (fun i hi => ?_) (fun i h4 h5 => ?_)
      · have := s i j (by omega) (by omega) j1
        rw [if_pos this]
      · have := s j i (by omega) (by omega) h5
        by_cases hh : a i ≤ a j
        · have : a i = a j := by omega
          rw [if_pos hh, this]
          unfold sg
          rw [if_pos j2]
          omega
        · rw [if_neg hh]
          exact Int.le_refl _
section FLEET
variable {mc mm m m0 : Mem} {day : Int}
def lsT (mc : Mem) (t : Nat) : Nat := (mc 33 t - 1).toNat
def sumT (mc : Mem) (day : Int) (F : Int → Int → Int → Int → Int) : Int := sI (fun t => if bit (mc 30 (mc 32 t).toNat) day.toNat = 1 then F (mc (35 + t) 0) (mc (35 + t) (lsT mc t)) (mc (85 + t) 0) (mc (60 + t) (lsT mc t) + 5) else 0) (mc 31 0).toNat
def FltP (mc : Mem) (day : Int) (m : Mem) (n : Nat) : Prop := (∀ F : Int → Int → Int → Int → Int, sI (fun i => F (m 432 i) (m 433 i) (m 434 i) (m 435 i)) n = sumT mc day F) ∧ ∀ i, i < n → 0 ≤ m 432 i ∧ m 432 i < nC mc ∧ 0 ≤ m 433 i ∧ m 433 i < nC mc ∧ 0 ≤ m 434 i ∧ m 434 i ≤ 2879 ∧ 0 ≤ m 435 i ∧ m 435 i ≤ 2884
def Dv (mc : Mem) (day : Int) (v : Nat) (t : Int) : Int := sumT mc day (fun a b c d => (if a = v ∧ c ≤ t then 1 else 0) - (if b = v ∧ d ≤ t then 1 else 0))
theorem gather_ok (I : CI mc) (hd : 0 ≤ day ∧ day ≤ 27) (p : Per mc m0) : Ok (C_Fleet_gather day m0) (fun m => (∀ c i, ¬ (431 ≤ c ∧ c ≤ 435) → m c i = m0 c i) ∧ ∃ n : Nat, m 431 0 = n ∧ n ≤ 24 ∧ FltP mc day m n) := by
  have tt := CI_t I
  have nn := CI_n I
  have hsv : ∀ t : Nat, (t : Int) < mc 31 0 → 0 ≤ mc 32 t ∧ mc 32 t < 6 ∧ 0 ≤ mc 30 (mc 32 t).toNat ∧ mc 30 (mc 32 t).toNat < 268435456 := by
    intro t h
    obtain ⟨mx, I⟩ := I
    have b := I.2.2.1.2.2.2 t h
    have c := I.2.1.2.2.1
    have d := I.2.1.2.2.2.1 (mc 32 t).toNat (by omega)
    exact ⟨b.2.1, by omega, d.1, d.2.1⟩
  have htr : ∀ t : Nat, (t : Int) < mc 31 0 → mc 33 t - 1 = lsT mc t ∧ lsT mc t < 8 ∧ 0 ≤ mc (35 + t) 0 ∧ mc (35 + t) 0 < nC mc ∧ 0 ≤ mc (35 + t) (lsT mc t) ∧ mc (35 + t) (lsT mc t) < nC mc ∧ 0 ≤ mc (85 + t) 0 ∧ mc (85 + t) 0 ≤ 2879 ∧ 0 ≤ mc (60 + t) (lsT mc t) ∧ mc (60 + t) (lsT mc t) ≤ 2879 := by
    intro t h
    obtain ⟨mx, I⟩ := I
    have b := I.2.2.1.2.2.2 t h
    have e : mc 33 t - 1 = lsT mc t := by unfold lsT; omega
    have c0 := b.2.2.2.2.2.2 0 (by omega)
    have c1 := b.2.2.2.2.2.2 (lsT mc t) (by omega)
    unfold ITc at c0 c1
    omega
  unfold C_Fleet_gather
  refine ok_ltv (ok_ltv (ok_bq2 (ok_for0 (n := (mc 31 0).toNat) (fun k m => (∀ c i, ¬ (431 ≤ c ∧ c ≤ 435) → m c i = m0 c i) ∧ ∃ n : Nat, m 431 0 = n ∧ n ≤ k ∧ (∀ F : Int → Int → Int → Int → Int, sI (fun i => F (m 432 i) (m 433 i) (m 434 i) (m 435 i)) n = sI (fun t => if bit (mc 30 (mc 32 t).toNat) day.toNat = 1 then F (mc (35 + t) 0) (mc (35 + t) (lsT mc t)) (mc (85 + t) 0) (mc (60 + t) (lsT mc t) + 5) else 0) k) ∧ ∀ i, i < n → 0 ≤ m 432 i ∧ m 432 i < nC mc ∧ 0 ≤ m 433 i ∧ m 433 i < nC mc ∧ 0 ≤ m 434 i ∧ m 434 i ≤ 2879 ∧ 0 ≤ m 435 i ∧ m 435 i ≤ 2884) ⟨fun c i h => setM_ne (by omega), 0, by rw [setM_same]; rfl, Nat.le_refl _, fun F => rfl, fun i h => by omega⟩ ?_ ?_) (fun _ m h => ok_some ?_)))
  · rintro k m hk ⟨f1, n, e1, e2, e3, e4⟩
    have pm : Per mc m := fun c i h => by
      rw [f1 c i (by obtain ⟨h, -⟩ := h; unfold pC at h; omega)]
      exact p c i h
    have hk2 : (k : Int) < mc 31 0 := by omega
    have sv := hsv k hk2
    have tr := htr k hk2
    have q31 : m 31 0 = mc 31 0 := pm _ _ ⟨by unfold pC; omega, by omega⟩
    have q32 : m 32 k = mc 32 k := pm _ _ ⟨by unfold pC; omega, by omega⟩
    have q30 : m 30 (mc 32 k).toNat = mc 30 (mc 32 k).toNat := pm _ _ ⟨by unfold pC; omega, by omega⟩
    have q33 : m 33 k = mc 33 k := pm _ _ ⟨by unfold pC; omega, by omega⟩
    unfold C_Fleet_gather_b1
    simp only [Int.toNat_natCast]
    rw [q31, q32]
    refine ok_ite (fun _ => ok_grd (by omega) (ok_bind (isOn_ok sv.1 sv.2.1 (by rw [q30]; exact sv.2.2)) (fun z hz => ?_))) (fun h => by omega)
    rw [q30, if_pos (by omega)] at hz
    have b01 := bit_01 (mc 30 (mc 32 k).toNat) day.toNat
    refine ok_ite (fun hy => ?_) (fun hy => ok_grd (by unfold InR; omega) (ok_ltv (ok_some ⟨_, rfl, f1, n, e1, by omega, fun F => ?_, e4⟩)))
    · rw [q33, tr.1, e1]
      simp only [Int.toNat_natCast]
      refine ok_grd (by unfold InR; omega) (ok_ltv (ok_grd (by omega) (ok_ltv ?_)))
      have w1 : m (35 + k) 0 = mc (35 + k) 0 := pm _ _ ⟨by unfold pC; omega, by omega⟩
      have w2 : m (35 + k) (lsT mc k) = mc (35 + k) (lsT mc k) := pm _ _ ⟨by unfold pC; omega, by omega⟩
      have w3 : m (85 + k) 0 = mc (85 + k) 0 := pm _ _ ⟨by unfold pC; omega, by omega⟩
      have w4 : m (60 + k) (lsT mc k) = mc (60 + k) (lsT mc k) := pm _ _ ⟨by unfold pC; omega, by omega⟩
      rw [w1]
      obtain ⟨m3, hm3⟩ : ∃ m3, m3 = setM m 432 n (mc (35 + k) 0) := ⟨_, rfl⟩
      rw [← hm3]
      have x3 : ∀ c i, ¬ (c = 432 ∧ i = n) → m3 c i = m c i := fun c i h => by rw [hm3]; exact setM_ne h
      rw [x3 431 0 (by omega), e1, Int.toNat_natCast, Int.toNat_natCast, x3 (35 + k) _ (by omega), w2]
      refine ok_grd (by omega) (ok_ltv ?_)
      obtain ⟨m4, hm4⟩ : ∃ m4, m4 = setM m3 433 n (mc (35 + k) (lsT mc k)) := ⟨_, rfl⟩
      rw [← hm4]
      have x4 : ∀ c i, ¬ (c = 433 ∧ i = n) → m4 c i = m3 c i := fun c i h => by rw [hm4]; exact setM_ne h
      rw [x4 431 0 (by omega), x3 431 0 (by omega), e1, Int.toNat_natCast, x4 (85 + k) _ (by omega), x3 (85 + k) _ (by omega), w3]
      refine ok_grd (by omega) (ok_ltv ?_)
      obtain ⟨m5, hm5⟩ : ∃ m5, m5 = setM m4 434 n (mc (85 + k) 0) := ⟨_, rfl⟩
      rw [← hm5]
      have x5 : ∀ c i, ¬ (c = 434 ∧ i = n) → m5 c i = m4 c i := fun c i h => by rw [hm5]; exact setM_ne h
      rw [x5 431 0 (by omega), x4 431 0 (by omega), x3 431 0 (by omega), e1, Int.toNat_natCast, x5 (60 + k) _ (by omega), x4 (60 + k) _ (by omega), x3 (60 + k) _ (by omega), w4]
      refine ok_grd (by unfold InR; omega) (ok_ltv ?_)
      obtain ⟨m6, hm6⟩ : ∃ m6, m6 = setM m5 435 n (mc (60 + k) (lsT mc k) + 5) := ⟨_, rfl⟩
      rw [← hm6]
      have x6 : ∀ c i, ¬ (c = 435 ∧ i = n) → m6 c i = m5 c i := fun c i h => by rw [hm6]; exact setM_ne h
      rw [x6 431 0 (by omega), x5 431 0 (by omega), x4 431 0 (by omega), x3 431 0 (by omega), e1]
      refine ok_grd (by unfold InR; omega) (ok_ltv (ok_grd (by unfold InR; omega) (ok_ltv (ok_some ⟨_, rfl, fun c i h => ?_, n + 1, ?_, by omega, fun F => ?_, fun i hi => ?_⟩))))
      · rw [setM_ne (by omega), x6 c i (by omega), x5 c i (by omega), x4 c i (by omega), x3 c i (by omega)]
        exact f1 c i h
      · rw [setM_same]
        omega
      · have hb : bit (mc 30 (mc 32 k).toNat) day.toNat = 1 := by omega
        have y2 : m6 432 n = mc (35 + k) 0 := by rw [x6 _ _ (by omega), x5 _ _ (by omega), x4 _ _ (by omega), hm3, setM_same]
        have y3 : m6 433 n = mc (35 + k) (lsT mc k) := by rw [x6 _ _ (by omega), x5 _ _ (by omega), hm4, setM_same]
        have y4 : m6 434 n = mc (85 + k) 0 := by rw [x6 _ _ (by omega), hm5, setM_same]
        have y5 : m6 435 n = mc (60 + k) (lsT mc k) + 5 := by rw [hm6, setM_same]
        simp only [sI]
        rw [if_pos hb, ← e3 F]
        congr 1
        · refine sI_congr (fun i hi => ?_)
          rw [setM_ne (by omega), setM_ne (by omega), setM_ne (by omega), setM_ne (by omega)]
          rw [x6 432 i (by omega), x5 432 i (by omega), x4 432 i (by omega), x3 432 i (by omega)]
          rw [x6 433 i (by omega), x5 433 i (by omega), x4 433 i (by omega), x3 433 i (by omega)]
          rw [x6 434 i (by omega), x5 434 i (by omega), x4 434 i (by omega), x3 434 i (by omega)]
          rw [x6 435 i (by omega), x5 435 i (by omega), x4 435 i (by omega), x3 435 i (by omega)]
        · rw [setM_ne (by omega), setM_ne (by omega), setM_ne (by omega), setM_ne (by omega), y2, y3, y4, y5]
      · rw [setM_ne (by omega), setM_ne (by omega), setM_ne (by omega), setM_ne (by omega)]
        by_cases hin : i = n
        · rw [hin]
          have y2 : m6 432 n = mc (35 + k) 0 := by rw [x6 _ _ (by omega), x5 _ _ (by omega), x4 _ _ (by omega), hm3, setM_same]
          have y3 : m6 433 n = mc (35 + k) (lsT mc k) := by rw [x6 _ _ (by omega), x5 _ _ (by omega), hm4, setM_same]
          have y4 : m6 434 n = mc (85 + k) 0 := by rw [x6 _ _ (by omega), hm5, setM_same]
          have y5 : m6 435 n = mc (60 + k) (lsT mc k) + 5 := by rw [hm6, setM_same]
          omega
        · have := e4 i (by omega)
          rw [x6 432 i (by omega), x5 432 i (by omega), x4 432 i (by omega), x3 432 i (by omega)]
          rw [x6 433 i (by omega), x5 433 i (by omega), x4 433 i (by omega), x3 433 i (by omega)]
          rw [x6 434 i (by omega), x5 434 i (by omega), x4 434 i (by omega), x3 434 i (by omega)]
          rw [x6 435 i (by omega), x5 435 i (by omega), x4 435 i (by omega), x3 435 i (by omega)]
          exact this
    · simp only [sI]
      rw [if_neg (by omega), e3 F]
      omega
  · rintro m ⟨f1, -⟩
    have q31 : m 31 0 = mc 31 0 := by
      rw [f1 31 0 (by omega)]
      exact p _ _ ⟨by unfold pC; omega, by omega⟩
    unfold C_Fleet_gather_b1
    rw [q31, if_neg (by omega)]
  · dsimp only at h
    obtain ⟨f1, n, e1, e2, e3, e4⟩ := h
    exact ⟨f1, n, e1, by omega, e3, e4⟩
end FLEET
