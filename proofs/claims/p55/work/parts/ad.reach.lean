/-! ===== P55: going through all rides again and again finds the best labels ===== -/
def labW (m : Mem) : Lb := (m 460, fun v => min (m 459 v) 1000000)
def FrV9 (m0 m : Mem) : Prop := ∀ c i, ¬ (c = 459 ∨ c = 460) → m c i = m0 c i
def ArA (A m : Mem) : Prop := ∀ c i, c = 456 ∨ c = 457 ∨ c = 458 → m c i = A c i
def RgW (A m : Mem) : Prop := ∀ v, v < nA A → 0 ≤ m 460 v ∧ m 460 v ≤ 1000000 ∧ 0 ≤ m 459 v ∧ m 459 v ≤ 2000000
def UndA (A : Mem) (I L : Lb) : Prop := Und (nA A) (A 456) (wA A) (RdA A) I L
def ClA (A : Mem) (k d : Nat) (L : Lb) : Prop := ∀ c c' : Nat, c < c' → c' < lnA A k → can (A 456) L (stA A k c) (lvA A k c + byA d) → L.1 (stA A k c') ≤ arA A k c' + byA d
theorem ok_kjs {α : Type} {e : Int → Mem → Option α} {f : (Int → Mem → Option α) → Option α} {P : α → Prop} (S : Int → Mem → Prop) (hk : ∀ g m, S g m → Ok (e g m) P) (h : ∀ kj : Int → Mem → Option α, (∀ g m, S g m → Ok (kj g m) P) → Ok (f kj) P) : Ok (ltv e f) P := h e hk
theorem ok_kj {α γ : Type} {e : Int → Mem → Option γ} {f : (Int → Mem → Option γ) → Option α} {P : α → Prop} (S : Int → Mem → Prop) (Pk : γ → Prop) (hk : ∀ g m, S g m → Ok (e g m) Pk) (h : ∀ kj : Int → Mem → Option γ, (∀ g m, S g m → Ok (kj g m) Pk) → Ok (f kj) P) : Ok (ltv e f) P := h e hk
section RCH
variable {m m0 mm A : Mem}
theorem FrV9_tr {m1 : Mem} (h : FrV9 m0 m) (h2 : FrV9 m m1) : FrV9 m0 m1 := fun c i q => by rw [h2 c i q]; exact h c i q
theorem ArA_fr (h : ArA A m0) (f : FrV9 m0 m) : ArA A m := fun c i q => by rw [f c i (by omega)]; exact h c i q
theorem wA_bd (w : AW A) {a b : Nat} (ha : a < nA A) (hb : b < nA A) : 0 ≤ wA A a b ∧ wA A a b ≤ 1000000 ∧ (wA A a b = 1000000 ∨ wA A a b ≤ 1280) := by
  unfold wA
  by_cases e : a = b
  · rw [if_pos e]; omega
  · rw [if_neg e]
    have := (w a b ha hb).2 e
    omega
theorem way_bd (w : AW A) {a b : Nat} (ha : a < nA A) (hb : b < nA A) : 0 ≤ A 457 (6 * a + b) ∧ A 457 (6 * a + b) ≤ 1000000 := by
  by_cases e : a = b
  · rw [(w a b ha hb).1 e]; omega
  · have := (w a b ha hb).2 e
    omega
theorem i6 (a b : Nat) : (6 * (a : Int) + (b : Int)).toNat = 6 * a + b := by omega
theorem r1_ok {a : Nat} {z : Int} (t : AT A) (w : AW A) (hA : ArA A m0) (ha : a < nA A) (hz : 0 ≤ z ∧ z ≤ 100000) : Ok (loop (fun s => W_reach_b1 a z (nA A) s.1 s.2) ((0 : Int), m0)) (fun x => FrV9 m0 x.2 ∧ ∀ v, v < nA A → x.2 459 v = z + A 457 (6 * a + v) ∧ x.2 460 v = 1000000) := by
  have n6 := t.1
  refine (ok_for0 (b := W_reach_b1 a z (nA A)) (n := nA A) (fun k m => FrV9 m0 m ∧ ∀ v, v < k → m 459 v = z + A 457 (6 * a + v) ∧ m 460 v = 1000000) ⟨fun _ _ _ => rfl, fun v h => by omega⟩ ?_ ?_).mono (fun r h => h)
  · rintro k m hk ⟨h1, h2⟩
    have wb := way_bd w ha hk
    have e1 : m 457 (6 * a + k) = A 457 (6 * a + k) := ArA_fr hA h1 _ _ (by omega)
    unfold W_reach_b1
    rw [i6, e1, Int.toNat_natCast]
    refine ok_ite (fun _ => ok_grd (by unfold InR; omega) (ok_ltv (ok_ltv (ok_grd (by unfold InR; omega) (ok_ltv (ok_some ⟨_, rfl, fun c i q => ?_, fun v hv => ?_⟩)))))) (fun q => absurd (by omega) q)
    · rw [setM_ne (by omega), setM_ne (by omega)]
      exact h1 c i q
    · by_cases e : v = k
      · subst e
        rw [setM_ne (by omega), setM_same, setM_same]
        exact ⟨rfl, rfl⟩
      · rw [setM_ne (by omega), setM_ne (by omega), setM_ne (by omega), setM_ne (by omega)]
        exact h2 v (by omega)
  · intro m _
    unfold W_reach_b1
    rw [if_neg (by omega)]
theorem r5_ok {s : Nat} {x : Int} (t : AT A) (w : AW A) (hA : ArA A m0) (hs : s < nA A) (hx : 0 ≤ x ∧ x ≤ 100000) : Ok (loop (fun z => W_reach_b5 (nA A) s x z.1 z.2) ((0 : Int), m0)) (fun r => (∀ c i, ¬ c = 459 → r.2 c i = m0 c i) ∧ ∀ v, r.2 459 v = if v < nA A ∧ v ≠ s ∧ x + wA A s v < m0 459 v then x + wA A s v else m0 459 v) := by
  have n6 := t.1
  refine (ok_for0 (b := W_reach_b5 (nA A) s x) (n := nA A) (fun k m => (∀ c i, ¬ c = 459 → m c i = m0 c i) ∧ ∀ v, m 459 v = if v < k ∧ v ≠ s ∧ x + wA A s v < m0 459 v then x + wA A s v else m0 459 v) ⟨fun _ _ _ => rfl, fun v => by rw [if_neg (by omega)]⟩ ?_ ?_).mono (fun r h => h)
  · rintro k m hk ⟨h1, h2⟩
    have wb := way_bd w hs hk
    have e1 : m 457 (6 * s + k) = A 457 (6 * s + k) := by rw [h1 _ _ (by omega)]; exact hA _ _ (by omega)
    have e2 : m 459 k = m0 459 k := by rw [h2 k, if_neg (by omega)]
    unfold W_reach_b5
    rw [i6, e1, Int.toNat_natCast, e2]
    refine ok_ite (fun _ => ok_grd (by unfold InR; omega) (ok_ltv (ok_grd (by omega) (ok_ltv (ok_grd (by unfold InR; omega) (ok_ltv (ok_some ⟨_, rfl, fun c i q => ?_, fun v => ?_⟩))))))) (fun q => absurd (by omega) q)
    · rw [setM_ne (by omega)]
      exact h1 c i q
    · by_cases e : v = k
      · subst e
        rw [setM_same]
        by_cases h : v = s
        · rw [if_neg (by omega), if_neg (by omega)]
        · have ew : wA A s v = A 457 (6 * s + v) := by unfold wA; rw [if_neg (fun q => h q.symm)]
          rw [ew]
          by_cases h9 : x + A 457 (6 * s + v) < m0 459 v
          · rw [if_pos ⟨by omega, h9⟩, if_pos ⟨by omega, h, h9⟩]
          · rw [if_neg (fun q => h9 q.2), if_neg (fun q => h9 q.2.2)]
      · rw [setM_ne (by omega), h2 v]
        by_cases h9 : v < k ∧ v ≠ s ∧ x + wA A s v < m0 459 v
        · rw [if_pos h9, if_pos ⟨by omega, h9.2⟩]
        · rw [if_neg h9, if_neg (fun q => h9 ⟨by omega, q.2⟩)]
  · intro m _
    unfold W_reach_b5
    rw [if_neg (by omega)]
theorem lab_gof {s : Nat} {x : Int} {m1 : Mem} (hx : x < m 460 s) (h1 : ∀ i, m1 460 i = setM m 460 s x 460 i) (h2 : ∀ v, m1 459 v = if v < nA A ∧ v ≠ s ∧ x + wA A s v < m 459 v then x + wA A s v else m 459 v) : labW m1 = gof (nA A) (wA A) (labW m) s x := by
  refine Prod.ext (funext fun v => ?_) (funext fun v => ?_)
  · rw [gof_1]
    show m1 460 v = if v = s ∧ x < m 460 s then x else m 460 v
    rw [h1]
    by_cases e : v = s
    · rw [if_pos ⟨e, hx⟩, e, setM_same]
    · rw [if_neg (fun q => e q.1), setM_ne (by omega)]
  · rw [gof_2]
    show min (m1 459 v) 1000000 = if x < m 460 s ∧ v < nA A ∧ v ≠ s ∧ x + wA A s v < min (m 459 v) 1000000 then x + wA A s v else min (m 459 v) 1000000
    rw [h2]
    by_cases h : v < nA A ∧ v ≠ s ∧ x + wA A s v < m 459 v
    · rw [if_pos h]
      by_cases h9 : x + wA A s v < min (m 459 v) 1000000
      · rw [if_pos ⟨hx, h.1, h.2.1, h9⟩]
        omega
      · rw [if_neg (fun q => h9 q.2.2.2)]
        omega
    · rw [if_neg h, if_neg (fun q => h ⟨q.2.1, q.2.2.1, by omega⟩)]
set_option maxHeartbeats 1000000 in
theorem r4_ok {k d : Nat} {I0 Lp : Lb} {go0 : Int} (t : AT A) (w : AW A) (o : onA A k d) (hA : ArA A m0) (u : UndA A I0 (labW m0)) (rg : RgW A m0) (fl : go0 = 0 ∨ go0 = 1) (f0 : go0 = 0 → labW m0 = Lp) (f1 : go0 = 1 → muN (labW m0).1 (nA A) < muN Lp.1 (nA A)) : Ok (loop (fun s => W_reach_b4 (-1) (nA A) (1 + 14 * (k : Int)) (1440 * ((d : Int) - 1)) s.1 s.2.1 s.2.2.1 s.2.2.2) (go0, (0 : Int), (0 : Int), m0)) (fun x => FrV9 m0 x.2.2.2 ∧ UndA A I0 (labW x.2.2.2) ∧ RgW A x.2.2.2 ∧ (x.1 = 0 ∨ x.1 = 1) ∧ (x.1 = 0 → go0 = 0 ∧ labW x.2.2.2 = Lp ∧ ClA A k d Lp) ∧ (x.1 = 1 → muN (labW x.2.2.2).1 (nA A) < muN Lp.1 (nA A))) := by
  have n6 := t.1
  have tk := t.2.2.1
  obtain ⟨t1, t2, t3, t4, t5⟩ := t.2.2.2 k o.1
  have o1 := o.1
  have o2 := o.2.1
  have hby : (1440 : Int) * ((d : Int) - 1) = byA d := rfl
  rw [hby]
  have byb : -1440 ≤ byA d ∧ byA d ≤ 1440 := by unfold byA; omega
  refine ok_loop (fun x => ∃ c : Nat, x.2.2.1 = c ∧ c ≤ lnA A k ∧ (x.2.1 = 0 ∨ x.2.1 = 1) ∧ FrV9 m0 x.2.2.2 ∧ UndA A I0 (labW x.2.2.2) ∧ RgW A x.2.2.2 ∧ (x.1 = 0 ∨ x.1 = 1) ∧ (x.2.1 = 1 → ∃ c0 : Nat, c0 < c ∧ 0 ≤ lvA A k c0 + byA d ∧ Jus (nA A) (A 456) (wA A) (RdA A) I0 (stA A k c0) (lvA A k c0 + byA d)) ∧ (x.1 = 0 → go0 = 0 ∧ labW x.2.2.2 = Lp ∧ (x.2.1 = 0 → ∀ c0 : Nat, c0 < c → ¬ can (A 456) Lp (stA A k c0) (lvA A k c0 + byA d)) ∧ ∀ c0 c1 : Nat, c0 < c1 → c1 < c → can (A 456) Lp (stA A k c0) (lvA A k c0 + byA d) → Lp.1 (stA A k c1) ≤ arA A k c1 + byA d) ∧ (x.1 = 1 → muN (labW x.2.2.2).1 (nA A) < muN Lp.1 (nA A))) (fun x => lnA A k - x.2.2.1.toNat) ⟨0, rfl, Nat.zero_le _, Or.inl rfl, fun _ _ _ => rfl, u, rg, fl, fun h => absurd (show (0:Int) = 1 from h) (by omega), fun h => ⟨h, f0 h, fun _ c0 h => by omega, fun c0 c1 h1 h2 => by omega⟩, f1⟩ ?_
  rintro ⟨go, z, cc, m⟩ ⟨c, h1, h2, h3, h4, h5, h6, h7, h8, h9, h10⟩
  dsimp only at h1 h3 h4 h5 h6 h7 h8 h9 h10 ⊢
  subst h1
  have hAm := ArA_fr hA h4
  have a1 : m 458 (1 + 14 * (k : Int)).toNat = svA A k := by
    rw [hAm _ _ (by omega), show (1 + 14 * (k : Int)).toNat = 1 + 14 * k by omega]
    rfl
  have a2 : m 458 (1 + 14 * (k : Int) + 1).toNat = lnA A k := by
    rw [hAm _ _ (by omega), show (1 + 14 * (k : Int) + 1).toNat = 2 + 14 * k by omega, t2]
  have onc : m 458 (1 + 14 * (k : Int)).toNat = 0 ∨ byA d = 0 := by
    rw [a1]
    rcases o.2.2 with q | q
    · exact Or.inl q
    · right; unfold byA; omega
  unfold W_reach_b4
  refine ok_grd (by unfold InR; omega) (ok_ite (fun hk => ?_) (fun hk => ok_some ?_))
  · rw [a2] at hk
    have hc : c < lnA A k := by omega
    obtain ⟨c1, c2, c3, c4, c5, c6⟩ := t5 c hc
    have b1 : m 458 (1 + 14 * (k : Int) + 2 + 3 * (c : Int)).toNat = stA A k c := by
      rw [hAm _ _ (by omega), show (1 + 14 * (k : Int) + 2 + 3 * (c : Int)).toNat = 3 + 14 * k + 3 * c by omega, c1]
    have b2 : m 458 (1 + 14 * (k : Int) + 3 + 3 * (c : Int)).toNat = arA A k c := by
      rw [hAm _ _ (by omega), show (1 + 14 * (k : Int) + 3 + 3 * (c : Int)).toNat = 4 + 14 * k + 3 * c by omega]
      rfl
    have b3 : m 458 (1 + 14 * (k : Int) + 4 + 3 * (c : Int)).toNat = lvA A k c := by
      rw [hAm _ _ (by omega), show (1 + 14 * (k : Int) + 4 + 3 * (c : Int)).toNat = 5 + 14 * k + 3 * c by omega]
      rfl
    rw [b1, b2, b3]
    refine ok_grd (by unfold InR; omega) (ok_ltv (ok_grd (by unfold InR; omega) (ok_ltv (ok_grd (by unfold InR; omega) (ok_ltv ?_)))))
    rw [Int.toNat_natCast]
    refine ok_kjs (fun g' m' => FrV9 m0 m' ∧ UndA A I0 (labW m') ∧ RgW A m' ∧ (g' = 0 ∨ g' = 1) ∧ (g' = 0 → go0 = 0 ∧ labW m' = Lp ∧ (z = 0 → ∀ c0 : Nat, c0 < c → ¬ can (A 456) Lp (stA A k c0) (lvA A k c0 + byA d)) ∧ ∀ c0 c1 : Nat, c0 < c1 → c1 < c + 1 → can (A 456) Lp (stA A k c0) (lvA A k c0 + byA d) → Lp.1 (stA A k c1) ≤ arA A k c1 + byA d) ∧ (g' = 1 → muN (labW m').1 (nA A) < muN Lp.1 (nA A))) ?_ ?_
    · rintro g' m' ⟨p1, p2, p3, p4, p5, p6⟩
      have hA' := ArA_fr hA p1
      have r' := p3 _ c2
      have gb := t.2.1 _ c2
      have e6 : m' 456 (stA A k c) = A 456 (stA A k c) := hA' _ _ (by omega)
      have cd : ((0 ≤ lvA A k c + byA d ∧ ¬ ((stA A k c : Nat) : Int) = -1) ∧ (m' 459 (stA A k c) ≤ lvA A k c + byA d ∨ m' 460 (stA A k c) + A 456 (stA A k c) ≤ lvA A k c + byA d)) ↔ can (A 456) (labW m') (stA A k c) (lvA A k c + byA d) := by
        unfold can labW
        dsimp only
        constructor
        · rintro ⟨⟨q1, -⟩, q2⟩
          exact ⟨q1, by omega⟩
        · rintro ⟨q1, q2⟩
          exact ⟨⟨q1, by omega⟩, by omega⟩
      rw [e6]
      refine ok_grd ⟨fun _ _ => by omega, fun _ _ => by omega, fun _ _ _ => by omega, fun _ _ _ => by omega, fun _ _ _ => by omega, fun _ _ _ => by unfold InR; omega⟩ (ok_ltv (ok_grd (by unfold InR; omega) (ok_ltv (ok_some ⟨⟨c + 1, by dsimp only; omega, by omega, ?_, p1, p2, p3, p4, fun h => ?_, fun h => ?_, p6⟩, by dsimp only; omega⟩))))
      · dsimp only
        split
        · exact Or.inr rfl
        · exact Or.inl rfl
      · dsimp only at h
        by_cases hz : z = 0
        · by_cases hq : can (A 456) (labW m') (stA A k c) (lvA A k c + byA d)
          · exact ⟨c, by omega, hq.1, und_jus p2 c2 hq⟩
          · rw [if_neg (fun q => q.elim (fun q => q hz) (fun q => hq (cd.mp q)))] at h
            omega
        · obtain ⟨c0, j1, j2, j3⟩ := h8 (h3.resolve_left hz)
          exact ⟨c0, by omega, j2, j3⟩
      · obtain ⟨y1, y2, y3, y4⟩ := p5 h
        refine ⟨y1, y2, fun hz c0 hc0 => ?_, y4⟩
        dsimp only at hz
        by_cases hq : (¬ z = 0) ∨ ((0 ≤ lvA A k c + byA d ∧ ¬ ((stA A k c : Nat) : Int) = -1) ∧ (m' 459 (stA A k c) ≤ lvA A k c + byA d ∨ m' 460 (stA A k c) + A 456 (stA A k c) ≤ lvA A k c + byA d))
        · rw [if_pos hq] at hz
          omega
        · by_cases e : c0 = c
          · rw [e, ← y2]
            exact fun q => hq (Or.inr (cd.mpr q))
          · exact y3 (Classical.byContradiction fun q => hq (Or.inl q)) c0 (by omega)
    · intro kj hkj
      have r' := h6 _ c2
      refine ok_grd ⟨fun _ => by omega, fun _ => by omega⟩ (ok_ite (fun hq => ?_) (fun hq => hkj _ _ ⟨h4, h5, h6, h7, fun h => ?_, h10⟩))
      · have hz1 : z = 1 := h3.resolve_left hq.1.1
        obtain ⟨c0, j1, j2, j3⟩ := h8 hz1
        have rd : RdA A (stA A k c0) (lvA A k c0 + byA d) (stA A k c) (arA A k c + byA d) := ⟨k, d, c0, c, o, j1, hc, rfl, rfl, rfl, rfl⟩
        have st := rdA_st t rd
        refine ok_grd (by omega) (ok_ltv (ok_ltv (ok_ltv (ok_bq2 (r5_ok (m0 := setM m 460 (stA A k c) (arA A k c + byA d)) t w (fun c i q => by rw [setM_ne (by omega)]; exact hAm c i q) c2 ⟨by omega, by omega⟩) (fun w4 m1 hm => hkj _ _ ?_)))))
        obtain ⟨q1, q2⟩ := hm
        dsimp only at q1 q2
        have e9 : ∀ v, setM m 460 (stA A k c) (arA A k c + byA d) 459 v = m 459 v := fun v => setM_ne (by omega)
        have lg : labW m1 = gof (nA A) (wA A) (labW m) (stA A k c) (arA A k c + byA d) := lab_gof hq.2 (fun i => q1 460 i (by omega)) (fun v => by rw [q2 v, e9])
        have lt : muN (labW m1).1 (nA A) < muN (labW m).1 (nA A) := by
          rw [lg]
          refine muN_lt (s := stA A k c) (fun v _ => gof_le1 v) c2 ?_ ?_
          · rw [gof_1, if_pos ⟨rfl, hq.2⟩]; omega
          · rw [gof_1, if_pos ⟨rfl, hq.2⟩]; exact hq.2
        refine ⟨fun c i q => ?_, ?_, fun v hv => ?_, Or.inr rfl, fun h => absurd h (by decide), fun _ => ?_⟩
        · rw [q1 c i (by omega), setM_ne (by omega)]
          exact h4 c i q
        · rw [lg]
          exact und_gof h5 j3 rd c2
        · have rv := h6 v hv
          have wv := wA_bd w c2 hv
          rw [q2 v, e9, q1 460 v (by omega)]
          refine ⟨?_, ?_, ?_, ?_⟩
          · by_cases e : v = stA A k c
            · rw [e, setM_same]; omega
            · rw [setM_ne (by omega)]; omega
          · by_cases e : v = stA A k c
            · rw [e, setM_same]; omega
            · rw [setM_ne (by omega)]; omega
          · split <;> omega
          · split <;> omega
        · rcases h7 with h7 | h7
          · rw [← (h9 h7).2.1]
            exact lt
          · exact Nat.lt_trans lt (h10 h7)
      · obtain ⟨y1, y2, y3, y4⟩ := h9 h
        refine ⟨y1, y2, y3, fun c0 d1 k1 k2 k3 => ?_⟩
        by_cases e : d1 = c
        · subst e
          have hz : ¬ z = 0 := fun q => y3 q c0 (by omega) k3
          rw [← y2]
          show m 460 (stA A k d1) ≤ _
          by_cases h9 : arA A k d1 + byA d < m 460 (stA A k d1)
          · exact absurd ⟨⟨hz, by omega⟩, h9⟩ hq
          · omega
        · exact y4 c0 d1 k1 (by omega) k3
  · have hcl : c = lnA A k := by
      rw [a2] at hk
      omega
    refine ⟨h4, h5, h6, h7, fun h => ?_, h10⟩
    obtain ⟨y1, y2, y3, y4⟩ := h9 h
    exact ⟨y1, y2, fun a b ha hb k3 => y4 a b ha (by omega) k3⟩
theorem r4_off {k d : Nat} {go0 : Int} (t : AT A) (hk : k < tkA A) (hd : d < 3) (o : ¬ onA A k d) (hA : ArA A m0) : Ok (loop (fun s => W_reach_b4 (-1) (nA A) (1 + 14 * (k : Int)) (1440 * ((d : Int) - 1)) s.1 s.2.1 s.2.2.1 s.2.2.2) (go0, (0 : Int), (0 : Int), m0)) (fun x => x.1 = go0 ∧ x.2.2.2 = m0) := by
  have tk := t.2.2.1
  obtain ⟨t1, t2, t3, t4, t5⟩ := t.2.2.2 k hk
  have a1 : m0 458 (1 + 14 * (k : Int)).toNat = svA A k := by
    rw [hA _ _ (by omega), show (1 + 14 * (k : Int)).toNat = 1 + 14 * k by omega]
    rfl
  have no : ¬ (m0 458 (1 + 14 * (k : Int)).toNat = 0 ∨ (1440 : Int) * ((d : Int) - 1) = 0) := by
    rw [a1]
    rintro (q | q)
    · exact o ⟨hk, hd, Or.inl q⟩
    · exact o ⟨hk, hd, Or.inr (by omega)⟩
  refine ok_loop (fun x => x = (go0, (0 : Int), (0 : Int), m0)) (fun _ => 0) rfl ?_
  rintro x rfl
  dsimp only
  unfold W_reach_b4
  refine ok_grd ⟨by omega, by omega, fun q => absurd q no, fun q => absurd q no, fun q => absurd q no⟩ ?_
  rw [if_neg (fun q => no q.1)]
  exact ok_some ⟨rfl, rfl⟩
theorem td3 (q : Nat) : (q : Int).tdiv 3 = ((q / 3 : Nat) : Int) := by
  rw [Int.tdiv_eq_ediv_of_nonneg (by omega)]; omega
theorem tm3 (q : Nat) : (q : Int).tmod 3 = ((q % 3 : Nat) : Int) := by
  rw [Int.tmod_eq_emod_of_nonneg (by omega)]; omega
theorem ini_eqW {a : Nat} {z : Int} (w : AW A) (ha : a < nA A) (hz : 0 ≤ z ∧ z ≤ 100000) (h : ∀ v, v < nA A → m 459 v = z + A 457 (6 * a + v) ∧ m 460 v = 1000000) : eqL (nA A) (labW m) (ini (wA A) a z) := fun v hv => by
  obtain ⟨h1, h2⟩ := h v hv
  refine ⟨h2, ?_⟩
  show min (m 459 v) 1000000 = if v = a then z else if z + wA A a v < 1000000 then z + wA A a v else 1000000
  rw [h1]
  by_cases e : v = a
  · rw [if_pos e, (w a v ha hv).1 e.symm]
    omega
  · have ew : wA A a v = A 457 (6 * a + v) := by unfold wA; rw [if_neg (fun q => e q.symm)]
    rw [if_neg e, ew]
    split <;> omega
theorem bestA_of {I0 L : Lb} (u : UndA A I0 L) (h : ∀ k d : Nat, onA A k d → ClA A k d L) : BestA A I0 L := ⟨u, by
  rintro s x s' x' ⟨k, d, c, c', o, h2, h3, rfl, rfl, rfl, rfl⟩ cn
  exact h k d o c c' h2 h3 cn⟩
set_option maxHeartbeats 1000000 in
theorem reach_ok {a : Nat} {z : Int} (t : AT A) (w : AW A) (hA : ArA A m0) (ha : a < nA A) (hz : 0 ≤ z ∧ z ≤ 100000) : Ok (W_reach a z (-1) m0) (fun m => FrV9 m0 m ∧ BestA A (ini (wA A) a z) (labW m) ∧ RgW A m) := by
  have n6 := t.1
  have tk := t.2.2.1
  unfold W_reach
  rw [hA 456 6 (by omega), n6.1]
  refine ok_ltv (ok_ltv (ok_bq2 (r1_ok t w hA ha hz) (fun v4 m4 h4 => ok_ltv ?_)))
  dsimp only at h4
  obtain ⟨f4, l4⟩ := h4
  have u4 : UndA A (ini (wA A) a z) (labW m4) := und_ini (fun x y hx hy => (wA_bd w hx hy).1) (by omega) (ini_eqW w ha hz l4)
  have g4 : RgW A m4 := fun v hv => by
    have := l4 v hv
    have := way_bd w ha hv
    omega
  refine ok_bq2 (Q := fun x => FrV9 m0 x.2 ∧ BestA A (ini (wA A) a z) (labW x.2) ∧ RgW A x.2) ?_ (fun _ m h => ok_some h)
  refine ok_loop (fun x => FrV9 m0 x.2 ∧ UndA A (ini (wA A) a z) (labW x.2) ∧ RgW A x.2 ∧ (x.1 = 0 ∨ x.1 = 1) ∧ (x.1 = 0 → BestA A (ini (wA A) a z) (labW x.2))) (fun x => 2 * muN (labW x.2).1 (nA A) + x.1.toNat) ⟨f4, u4, g4, Or.inr rfl, fun h => absurd (show (1:Int) = 0 from h) (by omega)⟩ ?_
  rintro ⟨go, m⟩ ⟨h1, h2, h3, h5, h6⟩
  dsimp only at h1 h2 h3 h5 h6 ⊢
  unfold W_reach_b2
  refine ok_ite (fun hgo => ok_ltv (ok_ltv (ok_bq3 (Q := fun x => FrV9 m0 x.2.2 ∧ UndA A (ini (wA A) a z) (labW x.2.2) ∧ RgW A x.2.2 ∧ (x.1 = 0 ∨ x.1 = 1) ∧ (x.1 = 0 → labW x.2.2 = labW m ∧ ∀ k d : Nat, onA A k d → ClA A k d (labW m)) ∧ (x.1 = 1 → muN (labW x.2.2).1 (nA A) < muN (labW m).1 (nA A))) ?_ (fun g9 k4 m14 hh => ok_some ?_)))) (fun hgo => ok_some ⟨h1, h6 (Classical.byContradiction hgo), h3⟩)
  · refine ok_loop (fun x => ∃ j : Nat, x.2.1 = j ∧ j ≤ 3 * tkA A ∧ FrV9 m0 x.2.2 ∧ UndA A (ini (wA A) a z) (labW x.2.2) ∧ RgW A x.2.2 ∧ (x.1 = 0 ∨ x.1 = 1) ∧ (x.1 = 0 → labW x.2.2 = labW m ∧ ∀ j' : Nat, j' < j → onA A (j' / 3) (j' % 3) → ClA A (j' / 3) (j' % 3) (labW m)) ∧ (x.1 = 1 → muN (labW x.2.2).1 (nA A) < muN (labW m).1 (nA A))) (fun x => 3 * tkA A - x.2.1.toNat) ⟨0, rfl, Nat.zero_le _, h1, h2, h3, Or.inl rfl, fun _ => ⟨rfl, fun j' h => by omega⟩, fun h => absurd (show (0:Int) = 1 from h) (by omega)⟩ ?_
    rintro ⟨g, jj, m6⟩ ⟨j, e1, e2, e3, e4, e5, e7, e8, e9⟩
    dsimp only at e1 e3 e4 e5 e7 e8 e9 ⊢
    subst e1
    have hA6 := ArA_fr hA e3
    unfold W_reach_b3
    rw [hA6 458 0 (by omega), tk.1, td3, tm3]
    refine ok_grd (by unfold InR; omega) (ok_ite (fun hj => ok_grd (by unfold InR; omega) (ok_ltv (ok_grd (by unfold InR; omega) (ok_ltv (ok_ltv (ok_ltv ?_)))))) (fun hj => ok_some ?_))
    · have hk : j / 3 < tkA A := by omega
      by_cases o : onA A (j / 3) (j % 3)
      · refine ok_bq4 (r4_ok (Lp := labW m) t w o hA6 e4 e5 e7 (fun h => (e8 h).1) e9) (fun g8 z8 c8 m13 hh => ok_grd (by unfold InR; omega) (ok_ltv (ok_some ⟨⟨j + 1, by dsimp only; omega, by omega, ?_⟩, by dsimp only; omega⟩)))
        dsimp only at hh ⊢
        obtain ⟨p1, p2, p3, p4, p5, p6⟩ := hh
        refine ⟨FrV9_tr e3 p1, p2, p3, p4, fun h => ?_, p6⟩
        obtain ⟨y1, y2, y3⟩ := p5 h
        refine ⟨y2, fun j' hj' oj => ?_⟩
        by_cases e : j' = j
        · rw [e]; exact y3
        · exact (e8 y1).2 j' (by omega) oj
      · refine ok_bq4 (r4_off t hk (by omega) o hA6) (fun g8 z8 c8 m13 hh => ok_grd (by unfold InR; omega) (ok_ltv (ok_some ⟨⟨j + 1, by dsimp only; omega, by omega, ?_⟩, by dsimp only; omega⟩)))
        dsimp only at hh ⊢
        obtain ⟨rfl, rfl⟩ := hh
        refine ⟨e3, e4, e5, e7, fun h => ⟨(e8 h).1, fun j' hj' oj => ?_⟩, e9⟩
        by_cases e : j' = j
        · rw [e] at oj
          exact absurd oj o
        · exact (e8 h).2 j' (by omega) oj
    · refine ⟨e3, e4, e5, e7, fun h => ⟨(e8 h).1, fun k d o => ?_⟩, e9⟩
      have o1 := o.1
      have o2 := o.2.1
      have := (e8 h).2 (3 * k + d) (by omega)
      rw [show (3 * k + d) / 3 = k by omega, show (3 * k + d) % 3 = d by omega] at this
      exact this o
  · dsimp only at hh ⊢
    obtain ⟨p1, p2, p3, p4, p5, p6⟩ := hh
    have hgo1 : go = 1 := by omega
    refine ⟨⟨p1, p2, p3, p4, fun h => ?_⟩, ?_⟩
    · have y := p5 h
      exact bestA_of p2 (fun k d o => by rw [y.1]; exact y.2 k d o)
    · rcases p4 with p4 | p4
      · have y := p5 p4
        rw [y.1, p4, hgo1]
        omega
      · have y := p6 p4
        rw [p4, hgo1]
        omega
end RCH
