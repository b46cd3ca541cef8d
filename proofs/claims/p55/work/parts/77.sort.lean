/-! ===== sorting by pieces put together ===== -/
def cI (f : Nat → Int) (v : Int) (lo : Nat) : Nat → Nat
  | 0 => 0
  | k + 1 => cI f v lo k + (if f (lo + k) = v then 1 else 0)
section CI1
variable {f g : Nat → Int} {v : Int}
theorem cI_add (lo a : Nat) : ∀ b : Nat, cI f v lo (a + b) = cI f v lo a + cI f v (lo + a) b := by
  intro b
  induction b with
  | zero => rfl
  | succ b ih =>
    show cI f v lo (a + b) + _ = _ + (cI f v (lo + a) b + _)
    rw [ih, Nat.add_assoc, Nat.add_assoc lo a b]
    rfl
theorem cI_congr {lo : Nat} : ∀ {n : Nat}, (∀ i, lo ≤ i → i < lo + n → f i = g i) → cI f v lo n = cI g v lo n := by
  intro n
  induction n with
  | zero => intro _; rfl
  | succ n ih =>
    intro h
    show cI f v lo n + _ = cI g v lo n + _
    rw [ih (fun i h1 h2 => h i h1 (by omega)), h (lo + n) (by omega) (by omega)]
theorem cI_pos {lo : Nat} : ∀ {n : Nat}, (0 < cI f v lo n ↔ ∃ i, lo ≤ i ∧ i < lo + n ∧ f i = v) := by
  intro n
  induction n with
  | zero => exact ⟨fun h => by simp [cI] at h, fun ⟨i, h1, h2, _⟩ => by omega⟩
  | succ n ih =>
    show 0 < cI f v lo n + _ ↔ _
    constructor
    · intro h
      by_cases hh : f (lo + n) = v
      · exact ⟨lo + n, by omega, by omega, hh⟩
      · rw [if_neg hh] at h
        obtain ⟨i, h1, h2, h3⟩ := ih.mp h
        exact ⟨i, h1, by omega, h3⟩
    · rintro ⟨i, h1, h2, h3⟩
      by_cases hh : i = lo + n
      · rw [← hh, if_pos h3]; omega
      · have := ih.mpr ⟨i, h1, by omega, h3⟩
        omega
end CI1
def SoI (f : Nat → Int) (lo hi : Nat) : Prop := ∀ i j, lo ≤ i → i ≤ j → j < hi → f i ≤ f j
/-- pieces of one width are sorted -/
def Blk (f : Nat → Int) (n w : Nat) : Prop := ∀ b i j : Nat, b * w ≤ i → i ≤ j → j < b * w + w → j < n → f i ≤ f j
section SORT
variable {k s : Nat} {m0 : Mem}
def FrS (k s : Nat) (m0 m : Mem) : Prop := ∀ c i, c ≠ k → c ≠ s → m c i = m0 c i
theorem merge_ok {low mid hi : Nat} {m0 : Mem} (hks : k ≠ s) (h1 : low ≤ mid) (h2 : mid ≤ hi) (hk : (hi : Int) ≤ alen SHC k) (hs : (hi : Int) ≤ alen SHC s) (hb : hi ≤ 100000) (s1 : SoI (m0 k) low mid) (s2 : SoI (m0 k) mid hi) : Ok (C_merge k s low mid hi m0) (fun m => (∀ c i, c ≠ s → m c i = m0 c i) ∧ (∀ i, i < low → m s i = m0 s i) ∧ SoI (m s) low hi ∧ ∀ v, cI (m s) v low (hi - low) = cI (m0 k) v low (hi - low)) := by
  unfold C_merge
  refine ok_ltv (ok_ltv (ok_ltv (ok_bq4 (Q := fun (x : Int × Int × Int × Mem) => (∀ c i, c ≠ s → x.2.2.2 c i = m0 c i) ∧ (∀ i, i < low → x.2.2.2 s i = m0 s i) ∧ SoI (x.2.2.2 s) low hi ∧ ∀ v, cI (x.2.2.2 s) v low (hi - low) = cI (m0 k) v low (hi - low)) ?_ (fun _ _ _ _ h => ok_some h))))
  refine ok_loop (fun x => ∃ l r t : Nat, x.1 = l ∧ x.2.1 = r ∧ x.2.2.1 = t ∧ low ≤ l ∧ l ≤ mid ∧ mid ≤ r ∧ r ≤ hi ∧ t + mid = l + r ∧ (∀ c i, c ≠ s → x.2.2.2 c i = m0 c i) ∧ (∀ i, i < low → x.2.2.2 s i = m0 s i) ∧ SoI (x.2.2.2 s) low t ∧ (∀ i, low ≤ i → i < t → (l < mid → x.2.2.2 s i ≤ m0 k l) ∧ (r < hi → x.2.2.2 s i ≤ m0 k r)) ∧ ∀ v, cI (x.2.2.2 s) v low (t - low) = cI (m0 k) v low (l - low) + cI (m0 k) v mid (r - mid)) (fun x => hi - x.2.2.1.toNat) ⟨low, mid, low, rfl, rfl, rfl, Nat.le_refl _, h1, Nat.le_refl _, h2, by omega, fun _ _ _ => rfl, fun _ _ => rfl, fun i j a b c => by omega, fun i a b => by omega, fun v => ?_⟩ ?_
  · rw [Nat.sub_self, Nat.sub_self]
    rfl
  · rintro ⟨x1, x2, x3, m⟩ ⟨l, r, t, e1, e2, e3, a1, a2, a3, a4, a5, f1, f2, f3, f4, f5⟩
    dsimp only at e1 e2 e3 f1 f2 f3 f4 f5 ⊢
    subst e1
    subst e2
    subst e3
    have rk : ∀ i, m k i = m0 k i := fun i => f1 k i hks
    unfold C_merge_b1
    simp only [Int.toNat_natCast, rk]
    -- one element is taken
    have one : ∀ (z : Int), (∀ i, low ≤ i → i < t → m s i ≤ z) → (∀ c i, c ≠ s → setM m s t z c i = m0 c i) ∧ (∀ i, i < low → setM m s t z s i = m0 s i) ∧ SoI (setM m s t z s) low (t + 1) ∧ ∀ v, cI (setM m s t z s) v low (t + 1 - low) = cI (m s) v low (t - low) + (if z = v then 1 else 0) := by
      intro z hz
      refine ⟨fun c i hc => ?_, fun i hi => ?_, fun i j b1 b2 b3 => ?_, fun v => ?_⟩
      · rw [setM_ne (fun q => hc q.1)]
        exact f1 c i hc
      · rw [setM_ne (by omega)]
        exact f2 i hi
      · by_cases hj : j = t
        · by_cases hit : i = t
          · rw [hit, hj]; omega
          · rw [setM_ne (by omega), setM_hit ⟨rfl, hj⟩]
            exact hz i b1 (by omega)
        · rw [setM_ne (by omega), setM_ne (by omega)]
          exact f3 i j b1 b2 (by omega)
      · have e : t + 1 - low = (t - low) + 1 := by omega
        rw [e]
        show cI (setM m s t z s) v low (t - low) + (if setM m s t z s (low + (t - low)) = v then 1 else 0) = _
        rw [setM_hit (by omega), cI_congr (g := m s) (fun i b1 b2 => setM_ne (by omega))]
    refine ok_ite (fun hlt => ok_grd ⟨fun _ _ => by omega, fun _ _ => by omega, fun _ _ => by omega, fun _ _ => by omega⟩ (ok_ite (fun h => ok_grd (by omega) (ok_ltv (ok_grd (by unfold InR; omega) (ok_ltv (ok_grd (by unfold InR; omega) (ok_ltv (ok_some ?_))))))) (fun h => ok_grd (by omega) (ok_ltv (ok_grd (by unfold InR; omega) (ok_ltv (ok_grd (by unfold InR; omega) (ok_ltv (ok_some ?_))))))))) (fun hlt => ok_some ?_)
    · have hl : l < mid := by omega
      obtain ⟨o1, o2, o3, o4⟩ := one (m0 k l) (fun i b1 b2 => (f4 i b1 b2).1 hl)
      refine ⟨⟨l + 1, r, t + 1, by dsimp only; omega, rfl, by dsimp only; omega, by omega, by omega, a3, a4, by omega, o1, o2, o3, fun i b1 b2 => ?_, fun v => ?_⟩, by dsimp only; omega⟩
      · dsimp only
        have hv : setM m s t (m0 k l) s i ≤ m0 k l := by
          by_cases hh : i = t
          · rw [setM_hit ⟨rfl, hh⟩]; omega
          · rw [setM_ne (by omega)]; exact (f4 i b1 (by omega)).1 hl
        refine ⟨fun q => ?_, fun q => ?_⟩
        · have := s1 l (l + 1) a1 (by omega) q
          omega
        · have : m0 k l ≤ m0 k r := by omega
          omega
      · dsimp only
        rw [o4, f5]
        have e : l + 1 - low = (l - low) + 1 := by omega
        rw [e]
        show _ = cI (m0 k) v low (l - low) + (if m0 k (low + (l - low)) = v then 1 else 0) + _
        rw [show low + (l - low) = l by omega]
        omega
    · have hr : r < hi := by omega
      obtain ⟨o1, o2, o3, o4⟩ := one (m0 k r) (fun i b1 b2 => (f4 i b1 b2).2 hr)
      refine ⟨⟨l, r + 1, t + 1, rfl, by dsimp only; omega, by dsimp only; omega, a1, a2, by omega, by omega, by omega, o1, o2, o3, fun i b1 b2 => ?_, fun v => ?_⟩, by dsimp only; omega⟩
      · dsimp only
        have hv : setM m s t (m0 k r) s i ≤ m0 k r := by
          by_cases hh : i = t
          · rw [setM_hit ⟨rfl, hh⟩]; omega
          · rw [setM_ne (by omega)]; exact (f4 i b1 (by omega)).2 hr
        refine ⟨fun q => ?_, fun q => ?_⟩
        · have : m0 k r ≤ m0 k l := by omega
          omega
        · have := s2 r (r + 1) a3 (by omega) q
          omega
      · dsimp only
        rw [o4, f5]
        have e : r + 1 - mid = (r - mid) + 1 := by omega
        rw [e]
        show _ = _ + (cI (m0 k) v mid (r - mid) + (if m0 k (mid + (r - mid)) = v then 1 else 0))
        rw [show mid + (r - mid) = r by omega]
        omega
    · have e1 : l = mid := by omega
      have e2 : r = hi := by omega
      have e3 : t = hi := by omega
      refine ⟨f1, f2, by rw [← e3]; exact f3, fun v => ?_⟩
      have q := f5 v
      rw [e1, e2, e3] at q
      rw [q]
      have e4 : hi - low = (mid - low) + (hi - mid) := by omega
      rw [e4, cI_add, show low + (mid - low) = mid by omega]
theorem sortUp_ok {n : Nat} {m0 : Mem} (hks : k ≠ s) (hk : (n : Int) ≤ alen SHC k) (hs : (n : Int) ≤ alen SHC s) (hb : n ≤ 10000) : Ok (C_sortUp k s n m0) (fun m => FrS k s m0 m ∧ SoI (m k) 0 n ∧ ∀ v, cI (m k) v 0 n = cI (m0 k) v 0 n) := by
  unfold C_sortUp
  refine ok_ltv (ok_bq2 (Q := fun x => FrS k s m0 x.2 ∧ SoI (x.2 k) 0 n ∧ ∀ v, cI (x.2 k) v 0 n = cI (m0 k) v 0 n) ?_ (fun _ _ h => ok_some h))
  refine ok_loop (fun x => ∃ w : Nat, x.1 = w ∧ 1 ≤ w ∧ w ≤ 20000 ∧ FrS k s m0 x.2 ∧ Blk (x.2 k) n w ∧ ∀ v, cI (x.2 k) v 0 n = cI (m0 k) v 0 n) (fun x => n - x.1.toNat) ⟨1, rfl, Nat.le_refl _, by omega, fun _ _ _ _ => rfl, fun b i j h1 h2 h3 h4 => ?_, fun _ => rfl⟩ ?_
  · have : i = j := by omega
    dsimp only
    rw [this]
    omega
  · rintro ⟨x1, m⟩ ⟨w, e1, b1, b2, f1, f2, f3⟩
    dsimp only at e1 f1 f2 f3 ⊢
    subst e1
    unfold C_sortUp_b1
    refine ok_ite (fun hw => ok_ltv (ok_bq2 (Q := fun (x : Int × Mem) => (∀ c i, c ≠ s → x.2 c i = m c i) ∧ Blk (x.2 s) n (2 * w) ∧ ∀ v, cI (x.2 s) v 0 n = cI (m k) v 0 n) ?_ (fun _ m4 h4 => ok_grd (by omega) (ok_ltv (ok_grd (by unfold InR; omega) (ok_ltv (ok_some ?_))))))) (fun hw => ok_some ⟨f1, fun i j h1 h2 h3 => f2 0 i j (by omega) h2 (by omega) h3, f3⟩)
    · refine ok_loop (fun x => ∃ b lo : Nat, x.1 = (b * (2 * w) : Nat) ∧ lo = min (b * (2 * w)) n ∧ b * (2 * w) < n + 2 * w ∧ (∀ c i, c ≠ s → x.2 c i = m c i) ∧ (∀ b' i j : Nat, b' < b → b' * (2 * w) ≤ i → i ≤ j → j < b' * (2 * w) + 2 * w → j < n → x.2 s i ≤ x.2 s j) ∧ ∀ v, cI (x.2 s) v 0 lo = cI (m k) v 0 lo) (fun x => n - x.1.toNat) ⟨0, 0, by simp, by simp, by omega, fun _ _ _ => rfl, fun b' i j h => by omega, fun _ => rfl⟩ ?_
      rintro ⟨x1, m2⟩ ⟨b, lo, e1, e2, e3, g1, g2, g3⟩
      dsimp only at e1 g1 g2 g3 ⊢
      subst e1
      obtain ⟨L, hL⟩ : ∃ L, L = b * (2 * w) := ⟨_, rfl⟩
      rw [← hL] at e2 e3 ⊢
      have q1 : (2 * b) * w = L := by rw [hL, Nat.mul_comm 2 b, Nat.mul_assoc]
      have q2 : (2 * b + 1) * w = L + w := by rw [Nat.add_mul, q1, Nat.one_mul]
      have q3 : (b + 1) * (2 * w) = L + 2 * w := by rw [Nat.add_mul, ← hL, Nat.one_mul]
      have rk : ∀ i, m2 k i = m k i := fun i => g1 k i hks
      unfold C_sortUp_b2
      refine ok_ite (fun hl => ok_grd (by unfold InR; omega) (ok_ltv ?_)) (fun hl => ok_some ?_)
      · have hlo : lo = L := by omega
        obtain ⟨md, hmd⟩ : ∃ md : Nat, md = min (L + w) n := ⟨_, rfl⟩
        obtain ⟨hh, hhh⟩ : ∃ hh : Nat, hh = min (L + 2 * w) n := ⟨_, rfl⟩
        have c1 : (if (n : Int) < (L : Int) + (w : Int) then (n : Int) else (L : Int) + (w : Int)) = (md : Int) := by split <;> omega
        rw [c1]
        have c2 : (if (n : Int) < (md : Int) + (w : Int) then (n : Int) else (md : Int) + (w : Int)) = (hh : Int) := by split <;> omega
        rw [c2]
        refine ok_grd (by unfold InR; omega) (ok_bind (merge_ok (low := L) hks (by omega) (by omega) (by omega) (by omega) (by omega) (fun i j h1 h2 h3 => ?_) (fun i j h1 h2 h3 => ?_)) (fun m3 h3 => ok_grd (by unfold InR; omega) (ok_ltv (ok_some ⟨⟨b + 1, hh, ?_, ?_, ?_, ?_, ?_, ?_⟩, ?_⟩))))
        · rw [rk, rk]
          exact f2 (2 * b) i j (by omega) h2 (by omega) (by omega)
        · rw [rk, rk]
          exact f2 (2 * b + 1) i j (by omega) h2 (by omega) (by omega)
        · dsimp only
          rw [q3]
          omega
        · rw [q3]
          exact hhh
        · rw [q3]
          omega
        · intro c i hc
          dsimp only
          rw [h3.1 c i hc]
          exact g1 c i hc
        · intro b' i j y1 y2 y3 y4 y5
          dsimp only
          by_cases hb' : b' = b
          · rw [hb', ← hL] at y2 y4
            exact h3.2.2.1 i j y2 y3 (by omega)
          · have y6 : b' * (2 * w) + 2 * w ≤ L := by
              rw [hL]
              have : (b' + 1) * (2 * w) ≤ b * (2 * w) := Nat.mul_le_mul_right _ (by omega)
              rw [Nat.add_mul, Nat.one_mul] at this
              exact this
            rw [h3.2.1 i (by omega), h3.2.1 j (by omega)]
            exact g2 b' i j (by omega) y2 y3 y4 y5
        · intro v
          dsimp only
          have e5 : hh = L + (hh - L) := by omega
          rw [e5, cI_add, cI_add, Nat.zero_add, h3.2.2.2 v, cI_congr (g := m2 s) (fun i y1 y2 => h3.2.1 i (by omega)), ← hlo, g3 v, hlo]
          rw [cI_congr (f := m2 k) (g := m k) (fun i _ _ => rk i)]
        · dsimp only
          omega
      · refine ⟨g1, fun b' i j y1 y2 y3 y4 => ?_, fun v => ?_⟩
        · dsimp only
          have : b' < b := by
            apply Nat.lt_of_not_le
            intro hbb
            have : b * (2 * w) ≤ b' * (2 * w) := Nat.mul_le_mul_right _ hbb
            omega
          exact g2 b' i j this y1 y2 y3 y4
        · dsimp only
          have e5 : lo = n := by omega
          have := g3 v
          rw [e5] at this
          exact this
    · dsimp only at h4
      have cp : ∀ i, i < n → cpyM m4 s k ((n : Int).toNat) k i = m4 s i := fun i hi => by
        unfold cpyM
        rw [if_pos ⟨rfl, by omega⟩]
      refine ⟨⟨2 * w, by dsimp only; omega, by omega, by omega, fun c i y1 y2 => ?_, fun b i j y1 y2 y3 y4 => ?_, fun v => ?_⟩, by dsimp only; omega⟩
      · dsimp only
        unfold cpyM
        rw [if_neg (fun q => y1 q.1), h4.1 c i y2]
        exact f1 c i y1 y2
      · dsimp only
        rw [cp i (by omega), cp j y4]
        exact h4.2.1 b i j y1 y2 y3 y4
      · dsimp only
        rw [cI_congr (g := m4 s) (fun i _ y => cp i (by omega)), h4.2.2 v]
        exact f3 v
end SORT
