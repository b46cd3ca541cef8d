/-! ===== the reference settles at the best labels ===== -/
def labM (m : Mem) : Lb := (m 16, m 15)
def Rg (N : Nat) (L : Lb) : Prop := ∀ s, s < N → 0 ≤ L.1 s ∧ L.1 s ≤ 1000000 ∧ 0 ≤ L.2 s ∧ L.2 s ≤ 1000000
def eqL (N : Nat) (A B : Lb) : Prop := ∀ s, s < N → A.1 s = B.1 s ∧ A.2 s = B.2 s
def muN (f : Nat → Int) : Nat → Nat
  | 0 => 0
  | k + 1 => muN f k + (f k).toNat
section MU
variable {f g : Nat → Int}
theorem muN_le : ∀ {n : Nat}, (∀ k, k < n → f k ≤ g k) → muN f n ≤ muN g n := by
  intro n
  induction n with
  | zero => intro _; exact Nat.le_refl _
  | succ n ih =>
    intro h
    have a := ih (fun k hk => h k (by omega))
    have b := h n (by omega)
    simp only [muN]
    omega
theorem muN_lt {s : Nat} : ∀ {n : Nat}, (∀ k, k < n → f k ≤ g k) → s < n → 0 ≤ f s → f s < g s → muN f n < muN g n := by
  intro n
  induction n with
  | zero => intro _ h; omega
  | succ n ih =>
    intro h hs h0 h1
    simp only [muN]
    by_cases hh : s = n
    · have a := muN_le (n := n) (fun k hk => h k (by omega))
      rw [hh] at h0 h1
      omega
    · have a := ih (fun k hk => h k (by omega)) (by omega) h0 h1
      have b := h n (by omega)
      omega
end MU
section GOF
variable {N : Nat} {w : Nat → Nat → Int} {L : Lb} {s : Nat} {t : Int}
theorem gof_rg (h : Rg N L) (hw : ∀ v, v < N → 0 ≤ w s v) (hs : s < N) (ht : 0 ≤ t) : Rg N (gof N w L s t) := by
  intro v hv
  have a := h v hv
  have b := gof_le1 (N := N) (w := w) (L := L) (s := s) (t := t) v
  have c := gof_le2 (N := N) (w := w) (L := L) (s := s) (t := t) v
  have d := hw v hv
  refine ⟨?_, by omega, ?_, by omega⟩
  · rw [gof_1]; split <;> omega
  · rw [gof_2]; split <;> omega
theorem und_ini {g : Nat → Int} {Rd : RdT} {a : Nat} {m : Int} (hw : ∀ x y, x < N → y < N → 0 ≤ w x y) (hm : m ≤ 1000000) (h : eqL N L (ini w a m)) : Und N g w Rd (ini w a m) L := by
  refine ⟨fun v hv => ?_, fun s v hs hv _ => ?_, fun L' _ h2 v hv => ?_⟩
  · have := h v hv; omega
  · have p := h s hs
    have q := h v hv
    have := hw s v hs hv
    rw [q.2, p.1]
    simp only [ini]
    split
    · omega
    · split <;> omega
  · have := h v hv
    have := h2 v hv
    omega
theorem ini_rg {a : Nat} {m : Int} (hw : ∀ x y, x < N → y < N → 0 ≤ w x y) (ha : a < N) (h0 : 0 ≤ m) (hm : m ≤ 1000000) : Rg N (ini w a m) := by
  intro v hv
  have := hw a v ha hv
  simp only [ini]
  split
  · omega
  · split <;> omega
end GOF
section SETTLE
variable {mc mm : Mem} {day sh mi cut : Int}
theorem CI_w0 (I : CI mc) : ∀ x y, x < nC mc → y < nC mc → 0 ≤ wC mc cut x y := fun x y hx hy => by
  have := CI_w (cut := cut) I hx hy
  omega
def FrB (m0 m : Mem) : Prop := ∀ c i, ¬ (c = 15 ∨ c = 16) → m c i = m0 c i
def FrG (m0 m : Mem) : Prop := ∀ c i, ¬ (c = 15 ∨ c = 16) → ¬ (c = 0 ∧ i = 25) → m c i = m0 c i
theorem FrG_rel {m : Mem} (r : RelM mc day sh mi cut mm) (h : FrG mm m) : RelM mc day sh mi cut m := RelM_fr r (fun c i q => h c i (by unfold rM at q; omega) (by unfold rM at q; omega))
theorem nowhere_ok : Ok (M_nowhere mm) (fun m => FrB mm m ∧ ∀ v : Nat, v < 12 → m 15 v = 1000000 ∧ m 16 v = 1000000) := by
  unfold M_nowhere
  refine ok_ltv (ok_bq2 (ok_for0 (n := 12) (fun k m => FrB mm m ∧ ∀ v : Nat, v < k → m 15 v = 1000000 ∧ m 16 v = 1000000) ⟨fun _ _ _ => rfl, fun v hv => by omega⟩ ?_ ?_) (fun _ m h => ok_some h))
  · rintro k m hk ⟨f1, f2⟩
    unfold M_nowhere_b1
    refine ok_ite (fun _ => ok_grd (by omega) (ok_ltv (ok_ltv (ok_grd (by unfold InR; omega) (ok_ltv (ok_some ⟨_, rfl, fun c i hc => ?_, fun v hv => ?_⟩)))))) (fun h => by omega)
    · rw [setM_ne (by omega), setM_ne (by omega)]
      exact f1 c i hc
    · by_cases hh : v = k
      · simp (disch := omega) only [setM_ne, setM_hit, true_and, and_true]
      · simp (disch := omega) only [setM_ne, setM_hit, true_and, and_true]
        exact f2 v (by omega)
  · rintro m _
    unfold M_nowhere_b1
    rw [if_neg (by omega)]
theorem begin_ok {a : Nat} {t : Int} (I : CI mc) (r : RelM mc day sh mi cut mm) (ha : a < nC mc) (ht : 0 ≤ t ∧ t < 100000) : Ok (M_begin a t mm) (fun m => FrB mm m ∧ eqL (nC mc) (labM m) (ini (wC mc cut) a t)) := by
  have n := CI_n I
  unfold M_begin
  refine ok_bind nowhere_ok (fun m1 h1 => ok_ltv (ok_bq2 (ok_for0 (n := nC mc) (fun k m => FrB mm m ∧ ∀ v : Nat, v < nC mc → m 16 v = 1000000 ∧ m 15 v = if v < k then (ini (wC mc cut) a t).2 v else 1000000) ⟨h1.1, fun v hv => ?_⟩ ?_ ?_) (fun _ m h => ok_some ?_)))
  · have := h1.2 v (by omega)
    rw [if_neg (by omega)]
    omega
  · rintro k m hk ⟨f1, f2⟩
    have e0 : m 0 1 = nC mc := by rw [f1 0 1 (by omega), r.1.1]; omega
    have w := r.2.2.1 a k ha hk
    have e1 : m 3 (12 * a + k) = dg (wC mc cut) a k := by rw [f1 3 _ (by omega)]; exact w
    have wb := CI_w (cut := cut) I ha hk
    have db : 0 ≤ dg (wC mc cut) a k ∧ dg (wC mc cut) a k ≤ 1000000 := by unfold dg; split <;> omega
    unfold M_begin_b1
    rw [e0, i12, e1]
    refine ok_ite (fun _ => ok_grd (by unfold InR; omega) (ok_ltv (ok_grd (by omega) (ok_ltv (ok_grd (by unfold InR; omega) (ok_ltv (ok_some ⟨_, rfl, fun c i hc => ?_, fun v hv => ?_⟩))))))) (fun h => by omega)
    · rw [setM_ne (by omega)]
      exact f1 c i hc
    · have q := f2 v hv
      by_cases hh : v = k
      · simp (disch := omega) only [setM_ne, setM_hit, true_and, and_true]
        refine ⟨q.1, ?_⟩
        rw [if_pos (by omega : v < k + 1), hh]
        unfold dg
        simp only [ini]
        by_cases z : a = k
        · rw [if_pos z, if_pos z.symm, if_pos (by omega)]
          omega
        · rw [if_neg z, if_neg (show ¬ k = a from fun y => z y.symm)]
      · simp (disch := omega) only [setM_ne, setM_hit, true_and, and_true]
        refine ⟨q.1, ?_⟩
        rw [q.2]
        by_cases z : v < k
        · rw [if_pos z, if_pos (by omega)]
        · rw [if_neg z, if_neg (by omega)]
  · rintro m ⟨f1, f2⟩
    have e0 : m 0 1 = nC mc := by rw [f1 0 1 (by omega), r.1.1]; omega
    unfold M_begin_b1
    rw [e0, if_neg (by omega)]
  · dsimp only at h
    refine ⟨h.1, fun v hv => ?_⟩
    have q := h.2 v hv
    rw [if_pos hv] at q
    exact q
theorem getsOn_ok {s : Nat} {t : Int} (I : CI mc) (r : RelM mc day sh mi cut mm) (hs : s < nC mc) (rg : Rg (nC mc) (labM mm)) : Ok (M_getsOn s t mm) (fun z => (z = 1 ∧ ¬ (s : Int) = cut ∧ can (mc 2) (labM mm) s t) ∨ (z = 0 ∧ ¬ (¬ (s : Int) = cut ∧ can (mc 2) (labM mm) s t))) := by
  have n := CI_n I
  have e1 := r.2.1 s hs
  have gb := CI_g I hs
  have b := rg s hs
  unfold labM at b
  dsimp only at b
  unfold M_getsOn
  rw [r.1.2.1, Int.toNat_natCast, e1]
  refine ok_grd (by unfold InR; omega) (ok_some ?_)
  unfold can labM
  dsimp only
  by_cases h : ((0 ≤ t) ∧ (¬ (s : Int) = cut)) ∧ ((mm 15 s ≤ t) ∨ (mm 16 s + mc 2 s ≤ t))
  · rw [if_pos h]
    exact Or.inl ⟨rfl, h.1.2, h.1.1, h.2⟩
  · rw [if_neg h]
    exact Or.inr ⟨rfl, fun y => h ⟨⟨y.2.1, y.1⟩, y.2.2⟩⟩
theorem getsOff_cut {s : Nat} {t : Int} (r : RelM mc day sh mi cut mm) (h : (s : Int) = cut) : Ok (M_getsOff s t mm) (fun m => m = mm) := by
  unfold M_getsOff
  rw [r.1.2.1]
  exact ok_grd (by omega) (ok_ite (fun _ => ok_some rfl) (fun q => absurd (Or.inl h) q))
theorem getsOff_ok {s : Nat} {t : Int} (I : CI mc) (r : RelM mc day sh mi cut mm) (hs : s < nC mc) (hc : ¬ (s : Int) = cut) (ht : 0 ≤ t) (rg : Rg (nC mc) (labM mm)) : Ok (M_getsOff s t mm) (fun m => FrG mm m ∧ labM m = gof (nC mc) (wC mc cut) (labM mm) s t ∧ m 0 25 = if t < mm 16 s then 1 else mm 0 25) := by
  have n := CI_n I
  have b := rg s hs
  unfold labM at b
  dsimp only at b
  unfold M_getsOff
  rw [r.1.2.1, Int.toNat_natCast]
  refine ok_grd (by omega) (ok_ite (fun h => ok_some ⟨fun _ _ _ _ => rfl, ?_, ?_⟩) (fun h => ok_grd (by omega) (ok_ltv (ok_ltv (ok_ltv (ok_bq2 (ok_for0 (n := nC mc) (fun k m => FrG mm m ∧ m 0 25 = 1 ∧ (∀ v, m 16 v = if v = s then t else mm 16 v) ∧ ∀ v : Nat, m 15 v = if v < k ∧ v ≠ s ∧ t + wC mc cut s v < mm 15 v then t + wC mc cut s v else mm 15 v) ⟨fun c i hc hc2 => ?_, ?_, fun v => ?_, fun v => ?_⟩ ?_ ?_) (fun _ m h2 => ok_some ?_)))))))
  · rw [gof_no]
    show ¬ t < mm 16 s
    omega
  · rw [if_neg (by omega)]
  · simp (disch := omega) only [setM_ne, setM_hit, true_and, and_true]
  · simp (disch := omega) only [setM_ne, setM_hit, true_and, and_true]
  · by_cases hv : v = s
    · rw [if_pos hv]; simp (disch := omega) only [setM_ne, setM_hit, true_and, and_true]
    · rw [if_neg hv]; simp (disch := omega) only [setM_ne, setM_hit, true_and, and_true]
  · rw [if_neg (by omega)]; simp (disch := omega) only [setM_ne, setM_hit, true_and, and_true]
  · rintro k m hk ⟨f1, f2, f3, f4⟩
    have e0 : m 0 1 = nC mc := by rw [f1 0 1 (by omega) (by omega), r.1.1]; omega
    have w := r.2.2.1 s k hs hk
    have e1 : m 3 (12 * s + k) = dg (wC mc cut) s k := by rw [f1 3 _ (by omega) (by omega)]; exact w
    have e2 : m 15 k = mm 15 k := by rw [f4 k, if_neg (by omega)]
    have wb := CI_w (cut := cut) I hs hk
    have db : 0 ≤ dg (wC mc cut) s k ∧ dg (wC mc cut) s k ≤ 1000000 := by unfold dg; split <;> omega
    unfold M_getsOff_b1
    rw [e0, i12, e1]
    rw [Int.toNat_natCast, e2]
    refine ok_ite (fun _ => ok_grd (by unfold InR; omega) (ok_ltv (ok_grd (by omega) (ok_ite (fun h3 => ok_grd (by omega) (ok_ltv (ok_grd (by unfold InR; omega) (ok_ltv (ok_some ⟨_, rfl, fun c i hc hc2 => ?_, ?_, fun v => ?_, fun v => ?_⟩))))) (fun h3 => ok_grd (by unfold InR; omega) (ok_ltv (ok_some ⟨_, rfl, f1, f2, f3, fun v => ?_⟩))))))) (fun h => by omega)
    · rw [setM_ne (by omega)]
      exact f1 c i hc hc2
    · rw [setM_ne (by omega)]
      exact f2
    · rw [setM_ne (by omega)]
      exact f3 v
    · have hks : k ≠ s := by omega
      have e3 : dg (wC mc cut) s k = wC mc cut s k := if_neg (fun q => hks q.symm)
      by_cases hv : v = k
      · rw [setM_hit (by omega), hv, if_pos ⟨by omega, hks, by omega⟩, e3]
      · rw [setM_ne (by omega), f4 v]
        by_cases z : v < k ∧ v ≠ s ∧ t + wC mc cut s v < mm 15 v
        · rw [if_pos z, if_pos ⟨by omega, z.2⟩]
        · rw [if_neg z, if_neg (fun y => z ⟨by omega, y.2⟩)]
    · rw [f4 v]
      by_cases z : v < k ∧ v ≠ s ∧ t + wC mc cut s v < mm 15 v
      · rw [if_pos z, if_pos ⟨by omega, z.2⟩]
      · rw [if_neg z, if_neg]
        intro y
        by_cases hv : v = k
        · have e3 : dg (wC mc cut) s k = wC mc cut s k := if_neg (fun q => y.2.1 (by omega))
          apply h3
          rw [e3, ← hv]
          exact ⟨by omega, y.2.2⟩
        · exact z ⟨by omega, y.2⟩
  · rintro m ⟨f1, f2, f3, f4⟩
    have e0 : m 0 1 = nC mc := by rw [f1 0 1 (by omega) (by omega), r.1.1]; omega
    unfold M_getsOff_b1
    rw [e0, if_neg (by omega)]
  · dsimp only at h2
    obtain ⟨f1, f2, f3, f4⟩ := h2
    have hlt : t < mm 16 s := by omega
    refine ⟨f1, ?_, ?_⟩
    · unfold labM gof
      dsimp only
      rw [if_pos hlt]
      refine Prod.ext ?_ ?_
      · exact funext f3
      · exact funext f4
    · rw [if_pos hlt]
      exact f2
end SETTLE
