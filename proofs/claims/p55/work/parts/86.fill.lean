/-! ===== the class's rounds ===== -/
def RndQ (mc : Mem) (day sh mi : Int) (A L : Lb) : Prop := Rnd (nC mc) (mc 2) (wC mc (-1)) (RdQ mc day sh mi (-1)) A L
def RUQ (mc : Mem) (day sh mi : Int) (A L : Lb) : Prop := RU (nC mc) (mc 2) (wC mc (-1)) (RdQ mc day sh mi (-1)) A L
def RwQ (mc : Mem) (day sh mi : Int) (I : Lb) (k : Nat) (L : Lb) : Prop := Rw (nC mc) (mc 2) (wC mc (-1)) (RdQ mc day sh mi (-1)) I k L
def Got (mc : Mem) (day sh mi : Int) (A : Lb) (q k : Nat) : Prop := ∃ c0 : Nat, c0 < k ∧ can (mc 2) A (stQ mc q c0) (lvQ mc day sh mi q c0)
def Imp (N : Nat) (L A : Lb) : Prop := ∃ s, s < N ∧ L.1 s < A.1 s
section RC
variable {mc m m0 : Mem} {day sh mi : Int}
theorem copy_ok {x y : Nat} (I : CI mc) (hx : 345 ≤ x) (hy : 345 ≤ y) (hxy : x + 3 ≤ y ∨ y + 3 ≤ x) (C : CtL mc (-1) m0) : Ok (C_Labels_copy x y m0) (fun m => FrLb x m0 m ∧ eqL (nC mc) (labC x m) (labC y m0)) := by
  have n := CI_n I
  unfold C_Labels_copy
  refine ok_ltv (ok_bq2 (ok_for0 (n := nC mc) (fun k m => FrLb x m0 m ∧ ∀ v : Nat, v < k → m (x + 1) v = m0 (y + 1) v ∧ m (x + 2) v = m0 (y + 2) v) ⟨fun _ _ _ => rfl, fun v hv => by omega⟩ ?_ ?_) (fun _ m h => ok_some ⟨h.1, fun s hs => h.2 s hs⟩))
  · rintro k m hk ⟨f1, f2⟩
    unfold C_Labels_copy_b1
    rw [f1 1 0 (by omega), C.1]
    simp only [Int.toNat_natCast]
    refine ok_ite (fun _ => ok_grd (by omega) (ok_ltv (ok_ltv (ok_grd (by unfold InR; omega) (ok_ltv (ok_some ⟨_, rfl, fun c i hc => ?_, fun v hv => ?_⟩)))))) (fun h => by omega)
    · rw [setM_ne (by omega), setM_ne (by omega)]
      exact f1 c i hc
    · by_cases hh : v = k
      · rw [hh]
        simp (disch := omega) only [setM_ne, setM_hit, true_and, and_true]
        exact ⟨f1 _ _ (by omega), f1 _ _ (by omega)⟩
      · simp (disch := omega) only [setM_ne, setM_hit, true_and, and_true]
        exact f2 v (by omega)
  · rintro m ⟨f1, -⟩
    unfold C_Labels_copy_b1
    rw [f1 1 0 (by omega), C.1, if_neg (by omega)]
theorem RdQ_N (I : CI mc) : ∀ s t s' t', RdQ mc day sh mi (-1) s t s' t' → s < nC mc ∧ s' < nC mc := fun s t s' t' r => ⟨(RdQ_st I r).1, (RdQ_st I r).2.1⟩
theorem rideOnce_ok {x y : Nat} {A : Lb} (I : CI mc) (hm : -60 ≤ mi ∧ mi ≤ 60) (hx : 361 ≤ x) (hy : 361 ≤ y ∧ y ≤ 397) (hxy : x + 3 ≤ y ∨ y + 3 ≤ x) (C : Ctx mc day sh mi (-1) m0) (hA : labC x m0 = A) (e0 : eqL (nC mc) (labC y m0) A) (wcA : WCl (nC mc) (wC mc (-1)) A) (rgA : Rg (nC mc) A) : Ok (C_Rounds_rideOnce x y m0) (fun r => FrLb y m0 r.2 ∧ RndQ mc day sh mi A (labC y r.2) ∧ Rg (nC mc) (labC y r.2) ∧ (r.1 = 0 ∨ r.1 = 1) ∧ (r.1 = 0 → eqL (nC mc) (labC y r.2) A) ∧ (r.1 = 1 → Imp (nC mc) (labC y r.2) A)) := by
  have n := CI_n I
  obtain ⟨p, nw, R, H, r1, r2, r3, r4, r5, rk⟩ := id C
  have ru0 : RUQ mc day sh mi A (labC y m0) := by
    refine ⟨eqL_le e0, fun s v hs hv hn => ?_, fun L' h _ _ => leL_tr h (eqL_le (eqL_sym e0))⟩
    have := wcA s v hs hv hn; have := e0 s hs; have := e0 v hv; omega
  have rg0 : Rg (nC mc) (labC y m0) := fun v hv => by have := rgA v hv; have := e0 v hv; omega
  unfold C_Rounds_rideOnce
  refine ok_ltv (ok_ltv (ok_bq3 (Q := fun (r : Int × Int × Mem) => FrLb y m0 r.2.2 ∧ RndQ mc day sh mi A (labC y r.2.2) ∧ Rg (nC mc) (labC y r.2.2) ∧ (r.1 = 0 ∨ r.1 = 1) ∧ (r.1 = 0 → eqL (nC mc) (labC y r.2.2) A) ∧ (r.1 = 1 → Imp (nC mc) (labC y r.2.2) A)) ?_ (fun b _ m h => ok_grd h.2.2.2.1 (ok_some h))))
  refine ok_loop (fun r => ∃ k : Nat, r.2.1 = k ∧ k ≤ R ∧ FrLb y m0 r.2.2 ∧ RUQ mc day sh mi A (labC y r.2.2) ∧ Rg (nC mc) (labC y r.2.2) ∧ (r.1 = 0 ∨ r.1 = 1) ∧ (r.1 = 0 → eqL (nC mc) (labC y r.2.2) A) ∧ (r.1 = 1 → Imp (nC mc) (labC y r.2.2) A) ∧ ∀ r' c0 c1 : Nat, r' < k → c0 < c1 → c1 < lenQ mc (phi m0 r') → can (mc 2) A (stQ mc (phi m0 r') c0) (lvQ mc day sh mi (phi m0 r') c0) → (labC y r.2.2).1 (stQ mc (phi m0 r') c1) ≤ arQ mc day sh mi (phi m0 r') c1) (fun r => R - r.2.1.toNat) ⟨0, rfl, Nat.zero_le _, fun _ _ _ => rfl, ru0, rg0, Or.inl rfl, fun _ => e0, fun h => absurd (show (0 : Int) = 1 from h) (by decide), fun r' c0 c1 h => by omega⟩ ?_
  rintro ⟨bt, rr, m⟩ ⟨r, e1, e2, f1, f2, f3, f4, f5, f6, f7⟩
  dsimp only at e1 f1 f2 f3 f4 f5 f6 f7 ⊢
  subst e1
  unfold C_Rounds_rideOnce_b1
  rw [f1 119 4 (by omega), r1]
  refine ok_ite (fun hr => ok_ltv (ok_ltv ?_)) (fun hr => ok_some ⟨f1, ⟨f2, fun s t s' t' rd c => ?_⟩, f3, f4, f5, f6⟩)
  · have hrR : r < R := by omega
    obtain ⟨t1, t2, t3, t4, t5, t6⟩ := NetT_run I r5 hrR
    refine ok_bq4 (Q := fun (q : Int × Int × Int × Mem) => FrLb y m0 q.2.2.2 ∧ RUQ mc day sh mi A (labC y q.2.2.2) ∧ Rg (nC mc) (labC y q.2.2.2) ∧ (q.1 = 0 ∨ q.1 = 1) ∧ (q.1 = 0 → eqL (nC mc) (labC y q.2.2.2) A) ∧ (q.1 = 1 → Imp (nC mc) (labC y q.2.2.2) A) ∧ leL (nC mc) (labC y q.2.2.2) (labC y m) ∧ ∀ c0 c1 : Nat, c0 < c1 → c1 < lenQ mc (phi m0 r) → can (mc 2) A (stQ mc (phi m0 r) c0) (lvQ mc day sh mi (phi m0 r) c0) → (labC y q.2.2.2).1 (stQ mc (phi m0 r) c1) ≤ arQ mc day sh mi (phi m0 r) c1) ?_ (fun b _ _ m' h => ok_grd (by unfold InR; omega) (ok_ltv (ok_some ⟨⟨r + 1, by dsimp only; omega, by omega, h.1, h.2.1, h.2.2.1, h.2.2.2.1, h.2.2.2.2.1, h.2.2.2.2.2.1, fun r' c0 c1 h1 h2 h3 h4 => ?_⟩, by dsimp only; omega⟩)))
    · refine ok_loop (fun q => ∃ k : Nat, q.2.2.1 = k ∧ k ≤ lenQ mc (phi m0 r) ∧ (q.2.1 = 0 ∨ q.2.1 = 1) ∧ FrLb y m0 q.2.2.2 ∧ RUQ mc day sh mi A (labC y q.2.2.2) ∧ Rg (nC mc) (labC y q.2.2.2) ∧ (q.1 = 0 ∨ q.1 = 1) ∧ (q.1 = 0 → eqL (nC mc) (labC y q.2.2.2) A) ∧ (q.1 = 1 → Imp (nC mc) (labC y q.2.2.2) A) ∧ leL (nC mc) (labC y q.2.2.2) (labC y m) ∧ (q.2.1 = 1 → Got mc day sh mi A (phi m0 r) k) ∧ (q.2.1 = 0 → ∀ c0 : Nat, c0 < k → ¬ can (mc 2) A (stQ mc (phi m0 r) c0) (lvQ mc day sh mi (phi m0 r) c0)) ∧ ∀ c0 c1 : Nat, c0 < c1 → c1 < k → can (mc 2) A (stQ mc (phi m0 r) c0) (lvQ mc day sh mi (phi m0 r) c0) → (labC y q.2.2.2).1 (stQ mc (phi m0 r) c1) ≤ arQ mc day sh mi (phi m0 r) c1) (fun q => lenQ mc (phi m0 r) - q.2.2.1.toNat) ⟨0, rfl, Nat.zero_le _, Or.inl rfl, f1, f2, f3, f4, f5, f6, leL_rfl, fun h => absurd (show (0 : Int) = 1 from h) (by decide), fun _ c0 h => by omega, fun c0 c1 _ h => by omega⟩ ?_
      rintro ⟨b, z, kk, m'⟩ ⟨k, e1, e2, h3, g1, g2, g3, g4, g5, g6, g7, g8, g9, g10⟩
      dsimp only at e1 h3 g1 g2 g3 g4 g5 g6 g7 g8 g9 g10 ⊢
      subst e1
      have Cm' : Ctx mc day sh mi (-1) m' := Ctx_fr I C (fun c i h => g1 c i (by unfold cX pC at h; omega))
      have Lm' : CtL mc (-1) m' := CtL_of I Cm'.1 Cm'.2.1
      have hA' : labC x m' = A := by
        rw [← hA]
        unfold labC
        rw [show m' (x + 1) = m0 (x + 1) from funext fun i => g1 _ i (by omega), show m' (x + 2) = m0 (x + 2) from funext fun i => g1 _ i (by omega)]
      have e122 : m' 122 r = lenQ mc (phi m0 r) := by rw [g1 122 r (by omega)]; exact t3
      unfold C_Rounds_rideOnce_b2
      simp only [Int.toNat_natCast]
      rw [e122]
      refine ok_grd (by omega) (ok_ite (fun hk => ok_ltv ?_) (fun hk => ok_some ?_))
      · have hk2 : k < lenQ mc (phi m0 r) := by omega
        have tk := t6 k hk2
        have est : m' (124 + r) k = stQ mc (phi m0 r) k := by rw [g1 _ _ (by omega)]; exact tk.1
        have ear : m' (197 + r) k = arQ mc day sh mi (phi m0 r) k := by rw [g1 _ _ (by omega)]; exact tk.2.2.1
        have elv : m' (270 + r) k = lvQ mc day sh mi (phi m0 r) k := by rw [g1 _ _ (by omega)]; exact tk.2.2.2
        simp only [est, ear, elv]
        refine ok_ite (fun hz => ok_grd (by omega) ?_) (fun hz => ok_ltv (ok_ite (fun hz2 => absurd hz2 hz) (fun _ => ok_grd (by omega) ?_)))
        · have hz1 : z = 1 := by
            rcases h3 with h3 | h3
            · exact absurd h3 hz
            · exact h3
          obtain ⟨c0, j1, j2⟩ := g8 hz1
          have pos := qv_lt I t2.1 (day := day) (sh := sh) (mi := mi) j1 hk2
          have ge0 := j2.1
          have rd : RdQ mc day sh mi (-1) (stQ mc (phi m0 r) c0) (lvQ mc day sh mi (phi m0 r) c0) (stQ mc (phi m0 r) k) (arQ mc day sh mi (phi m0 r) k) := ⟨phi m0 r, c0, k, t1, t2, j1, hk2, rfl, rfl, rfl, rfl, by omega, by omega⟩
          have lA := (g2.1 _ tk.2.1).1
          have stp : ∀ (b' : Int) (m'' : Mem), FrLb y m' m'' → labC y m'' = gof (nC mc) (wC mc (-1)) (labC y m') (stQ mc (phi m0 r) k) (arQ mc day sh mi (phi m0 r) k) → (b' = 0 ∨ b' = 1) → (b' = 0 → eqL (nC mc) (labC y m'') A) → (b' = 1 → Imp (nC mc) (labC y m'') A) → (∃ k' : Nat, ((k : Int) + 1) = k' ∧ k' ≤ lenQ mc (phi m0 r) ∧ ((1 : Int) = 0 ∨ (1 : Int) = 1) ∧ FrLb y m0 m'' ∧ RUQ mc day sh mi A (labC y m'') ∧ Rg (nC mc) (labC y m'') ∧ (b' = 0 ∨ b' = 1) ∧ (b' = 0 → eqL (nC mc) (labC y m'') A) ∧ (b' = 1 → Imp (nC mc) (labC y m'') A) ∧ leL (nC mc) (labC y m'') (labC y m) ∧ ((1 : Int) = 1 → Got mc day sh mi A (phi m0 r) k') ∧ ((1 : Int) = 0 → ∀ c0 : Nat, c0 < k' → ¬ can (mc 2) A (stQ mc (phi m0 r) c0) (lvQ mc day sh mi (phi m0 r) c0)) ∧ ∀ c0 c1 : Nat, c0 < c1 → c1 < k' → can (mc 2) A (stQ mc (phi m0 r) c0) (lvQ mc day sh mi (phi m0 r) c0) → (labC y m'').1 (stQ mc (phi m0 r) c1) ≤ arQ mc day sh mi (phi m0 r) c1) := by
            intro b' m'' y1 y2 y3 y4 y5
            refine ⟨k + 1, by omega, by omega, Or.inr rfl, fun c i h => by rw [y1 c i h]; exact g1 c i h, ?_, ?_, y3, y4, y5, ?_, fun _ => ⟨c0, by omega, j2⟩, fun q => absurd q (by decide), fun a c1 ha hb k1 => ?_⟩
            · rw [y2]
              exact ru_gof g2 j2 rd tk.2.1
            · rw [y2]
              exact gof_rg g3 (fun v hv => CI_w0 I _ _ tk.2.1 hv) tk.2.1 (by omega)
            · rw [y2]
              exact leL_tr gof_le g7
            · have le := gof_le1 (N := nC mc) (w := wC mc (-1)) (L := labC y m') (s := stQ mc (phi m0 r) k) (t := arQ mc day sh mi (phi m0 r) k) (stQ mc (phi m0 r) c1)
              rw [y2]
              by_cases hbk : c1 = k
              · rw [hbk]; exact gof_at
              · have := g10 a c1 ha (by omega) k1
                omega
          refine ok_bq2 (getOff_ok (x := y) (t := arQ mc day sh mi (phi m0 r) k) I (by omega) Lm' tk.2.1 (by omega) (by omega) g3) (fun v m'' hv => ?_)
          dsimp only at hv
          obtain ⟨v1, v2, v3⟩ := hv
          refine ok_ite (fun hv0 => ok_ltv (ok_ltv (ok_ite (fun _ => ok_ltv (ok_grd (by unfold InR; omega) (ok_ltv (ok_some ⟨stp 1 m'' v1 v2 (Or.inr rfl) (fun q => absurd q (by decide)) (fun _ => ⟨stQ mc (phi m0 r) k, tk.2.1, ?_⟩), by dsimp only; omega⟩)))) (fun q => absurd hz q)))) (fun hv0 => ok_ltv (ok_ite (fun _ => ok_ltv (ok_grd (by unfold InR; omega) (ok_ltv (ok_some ⟨stp b m'' v1 v2 g4 (fun q => ?_) (fun q => ?_), by dsimp only; omega⟩)))) (fun q => absurd hz q)))
          · have lt : arQ mc day sh mi (phi m0 r) k < (labC y m').1 (stQ mc (phi m0 r) k) := by
              apply Classical.byContradiction
              intro q
              have q' : ¬ arQ mc day sh mi (phi m0 r) k < m' (y + 1) (stQ mc (phi m0 r) k) := q
              rw [if_neg q'] at v3
              exact hv0 v3
            rw [v2, gof_1, if_pos ⟨rfl, lt⟩]
            omega
          · have nlt : ¬ arQ mc day sh mi (phi m0 r) k < (labC y m').1 (stQ mc (phi m0 r) k) := by
              intro q
              have q' : arQ mc day sh mi (phi m0 r) k < m' (y + 1) (stQ mc (phi m0 r) k) := q
              rw [if_pos q'] at v3
              omega
            rw [v2, gof_no nlt]
            exact g5 q
          · obtain ⟨s, s1, s2⟩ := g6 q
            have le := gof_le1 (N := nC mc) (w := wC mc (-1)) (L := labC y m') (s := stQ mc (phi m0 r) k) (t := arQ mc day sh mi (phi m0 r) k) s
            exact ⟨s, s1, by rw [v2]; omega⟩
        · have hz0 : z = 0 := by omega
          refine ok_bind (canGetOn_ok (x := x) I Lm' tk.2.1 (by rw [hA']; exact rgA)) (fun v hv => ?_)
          rw [hA'] at hv
          refine ok_ite (fun hv0 => ok_ltv (ok_grd (by unfold InR; omega) (ok_ltv (ok_some ⟨⟨k + 1, by dsimp only; omega, by omega, Or.inr rfl, g1, g2, g3, g4, g5, g6, g7, fun _ => ?_, fun q => absurd (show (1 : Int) = 0 from q) (by decide), fun a c1 ha hb k1 => ?_⟩, by dsimp only; omega⟩)))) (fun hv0 => ok_ltv (ok_grd (by unfold InR; omega) (ok_ltv (ok_some ⟨⟨k + 1, by dsimp only; omega, by omega, Or.inl rfl, g1, g2, g3, g4, g5, g6, g7, fun q => absurd (show (0 : Int) = 1 from q) (by decide), fun _ c0 hc0 => ?_, fun a c1 ha hb k1 => ?_⟩, by dsimp only; omega⟩))))
          · rcases hv with hv | hv
            · exact ⟨k, by omega, hv.2⟩
            · exact absurd hv.1 hv0
          · by_cases hbk : c1 = k
            · exact absurd k1 (g9 hz0 a (by omega))
            · exact g10 a c1 ha (by omega) k1
          · by_cases hh : c0 = k
            · rcases hv with hv | hv
              · omega
              · rw [hh]; exact hv.2
            · exact g9 hz0 c0 (by omega)
          · by_cases hbk : c1 = k
            · exact absurd k1 (g9 hz0 a (by omega))
            · exact g10 a c1 ha (by omega) k1
      · have hkl : k = lenQ mc (phi m0 r) := by omega
        exact ⟨g1, g2, g3, g4, g5, g6, g7, fun a c1 ha hb k1 => g10 a c1 ha (by omega) k1⟩
    · dsimp only at h ⊢
      by_cases hh : r' = r
      · rw [hh] at h3 h4 ⊢
        exact h.2.2.2.2.2.2.2 c0 c1 h2 h3 h4
      · have a := f7 r' c0 c1 (by omega) h2 h3 h4
        have tt := NetT_run I r5 (r := r') (by omega)
        have b := (h.2.2.2.2.2.2.1 _ (tt.2.2.2.2.2 c1 h3).2.1).1
        omega
  · have hrR : r = R := by omega
    obtain ⟨q, c0, c1, q1, q2, q3, q4, q5, q6, q7, q8, -, -⟩ := rd
    obtain ⟨r', r1', er⟩ := r5.2.2 q q1 q2
    rw [q5, q6, ← er] at c
    rw [q7, q8, ← er]
    exact f7 r' c0 c1 (by omega) q3 (by rw [er]; exact q4) c
/-- what the rounds leave -/
def RoC (mc : Mem) (day sh mi : Int) (I0 : Lb) (m : Mem) (last : Nat) : Prop := m 355 3 = last ∧ last ≤ 12 ∧ (∀ k : Nat, k ≤ last → RwQ mc day sh mi I0 k (labC (361 + 3 * k) m) ∧ Rg (nC mc) (labC (361 + 3 * k) m)) ∧ RndQ mc day sh mi (labC (361 + 3 * last) m) (labC (361 + 3 * last) m) ∧ ∀ k : Nat, k < last → Imp (nC mc) (labC (361 + 3 * (k + 1)) m) (labC (361 + 3 * k) m)
def FrF (m0 m : Mem) : Prop := ∀ c i, ¬ (c = 355 ∧ i = 3) → ¬ (361 ≤ c ∧ c ≤ 399) → m c i = m0 c i
theorem fill_ok {a : Nat} {t : Int} (I : CI mc) (hm : -60 ≤ mi ∧ mi ≤ 60) (C : Ctx mc day sh mi (-1) m0) (ha : a < nC mc) (ht : 0 ≤ t ∧ t ≤ 10000) : Ok (C_Rounds_fill a t m0) (fun m => FrF m0 m ∧ ∃ last : Nat, RoC mc day sh mi (ini (wC mc (-1)) a t) m last) := by
  have n := CI_n I
  have hR := RdQ_N (day := day) (sh := sh) (mi := mi) I
  have ui : WCl (nC mc) (wC mc (-1)) (ini (wC mc (-1)) a t) := (und_ini (g := mc 2) (Rd := RdQ mc day sh mi (-1)) (CI_w0 I) (by omega) eqL_rfl).2.1
  unfold C_Rounds_fill
  refine ok_bind (beginC_ok (x := 361) I (by omega) (CtL_of I C.1 C.2.1) ha (by omega)) (fun m1 h1 => ok_ltv (ok_ltv ?_))
  obtain ⟨m2, hm2⟩ : ∃ m2, m2 = setM m1 355 3 0 := ⟨_, rfl⟩
  rw [← hm2]
  have y1 : ∀ c i, ¬ (c = 355 ∧ i = 3) → m2 c i = m1 c i := fun c i h => by rw [hm2]; exact setM_ne h
  have lab2 : ∀ x, 361 ≤ x → labC x m2 = labC x m1 := fun x hx => by
    unfold labC
    rw [show m2 (x + 1) = m1 (x + 1) from funext fun i => y1 _ i (by omega), show m2 (x + 2) = m1 (x + 2) from funext fun i => y1 _ i (by omega)]
  have ri := ini_rg (N := nC mc) (w := wC mc (-1)) (CI_w0 I) ha ht.1 (by omega)
  refine ok_br2 (Q := fun r => match r with
    | .inl x => FrF m0 x.2 ∧ ∃ last : Nat, RoC mc day sh mi (ini (wC mc (-1)) a t) x.2 last
    | .inr m => FrF m0 m ∧ ∃ last : Nat, RoC mc day sh mi (ini (wC mc (-1)) a t) m last) ?_ (fun _ m h => ok_some h) (fun m h => ok_some h)
  refine ok_loop (fun x => ∃ k : Nat, x.1 = (k : Int) + 1 ∧ k ≤ 12 ∧ FrF m0 x.2 ∧ x.2 355 3 = k ∧ (∀ j : Nat, j ≤ k → RwQ mc day sh mi (ini (wC mc (-1)) a t) j (labC (361 + 3 * j) x.2) ∧ Rg (nC mc) (labC (361 + 3 * j) x.2)) ∧ ∀ j : Nat, j < k → Imp (nC mc) (labC (361 + 3 * (j + 1)) x.2) (labC (361 + 3 * j) x.2)) (fun x => 13 - x.1.toNat) ⟨0, rfl, by omega, fun c i h h2 => by dsimp only; rw [y1 c i h]; exact h1.1 c i (by omega), by dsimp only; rw [hm2, setM_same]; rfl, fun j hj => ?_, fun j hj => by omega⟩ ?_
  · have : j = 0 := by omega
    subst this
    dsimp only
    rw [lab2 _ (by omega)]
    refine ⟨h1.2, fun v hv => ?_⟩
    have p := h1.2 v hv
    have q := ri v hv
    have e3 : labC (361 + 3 * 0) m1 = labC 361 m1 := rfl
    rw [e3]
    omega
  · rintro ⟨x, m⟩ ⟨k, e1, e2, f1, f2, f3, f4⟩
    dsimp only at e1 f1 f2 f3 f4 ⊢
    subst e1
    have Cm : Ctx mc day sh mi (-1) m := Ctx_fr I C (fun c i h => f1 c i (by unfold cX pC at h; omega) (by unfold cX pC at h; omega))
    have wcA : WCl (nC mc) (wC mc (-1)) (labC (361 + 3 * k) m) := rw_wc ui (f3 k (by omega)).1
    unfold C_Rounds_fill_b1
    have c1 : ((k : Int) + 1).toNat = k + 1 := by omega
    have c2 : ((k : Int) + 1 - 1).toNat = k := by omega
    rw [c1, c2]
    refine ok_ite (fun hk => ok_grd (by unfold InR; omega) (ok_bind (copy_ok (x := 361 + 3 * (k + 1)) (y := 361 + 3 * k) I (by omega) (by omega) (by omega) (CtL_of I Cm.1 Cm.2.1)) (fun m3 h3 => ?_))) (fun hk => ok_some ⟨f1, k, f2, e2, f3, rnd_self wcA (fun s t' s' t'' r c => ?_), f4⟩)
    · have C3 : Ctx mc day sh mi (-1) m3 := Ctx_fr I Cm (fun c i h => h3.1 c i (by unfold cX pC at h; omega))
      have lab3 : ∀ j, j ≤ k → labC (361 + 3 * j) m3 = labC (361 + 3 * j) m := fun j hj => by
        unfold labC
        rw [show m3 (361 + 3 * j + 1) = m (361 + 3 * j + 1) from funext fun i => h3.1 _ i (by omega), show m3 (361 + 3 * j + 2) = m (361 + 3 * j + 2) from funext fun i => h3.1 _ i (by omega)]
      refine ok_bq2 (rideOnce_ok (x := 361 + 3 * k) (y := 361 + 3 * (k + 1)) I hm (by omega) (by omega) (by omega) C3 (lab3 k (by omega)) h3.2 wcA (f3 k (by omega)).2) (fun b m4 h4 => ?_)
      dsimp only at h4
      obtain ⟨g1, g2, g3, g4, g5, g6⟩ := h4
      have lab4 : ∀ j, j ≤ k → labC (361 + 3 * j) m4 = labC (361 + 3 * j) m := fun j hj => by
        rw [← lab3 j hj]
        unfold labC
        rw [show m4 (361 + 3 * j + 1) = m3 (361 + 3 * j + 1) from funext fun i => g1 _ i (by omega), show m4 (361 + 3 * j + 2) = m3 (361 + 3 * j + 2) from funext fun i => g1 _ i (by omega)]
      refine ok_ite (fun hb => ok_ltv (ok_grd (by unfold InR; omega) (ok_ltv (ok_some ⟨⟨k + 1, by dsimp only; omega, by omega, fun c i h h2 => ?_, ?_, fun j hj => ?_, fun j hj => ?_⟩, by dsimp only; omega⟩)))) (fun hb => ok_some ⟨fun c i h h2 => ?_, k, ?_, e2, fun j hj => ?_, ?_, fun j hj => ?_⟩)
      · dsimp only
        rw [setM_ne (by omega), g1 c i (by omega), h3.1 c i (by omega)]
        exact f1 c i h h2
      · dsimp only
        rw [setM_same]
        omega
      · have lab5 : ∀ x, 361 ≤ x → labC x (setM m4 355 3 ((k : Int) + 1)) = labC x m4 := fun x hx => by
          unfold labC
          rw [show setM m4 355 3 ((k : Int) + 1) (x + 1) = m4 (x + 1) from funext fun i => setM_ne (by omega), show setM m4 355 3 ((k : Int) + 1) (x + 2) = m4 (x + 2) from funext fun i => setM_ne (by omega)]
        dsimp only
        rw [lab5 _ (by omega)]
        by_cases hj2 : j = k + 1
        · rw [hj2]
          exact ⟨⟨labC (361 + 3 * k) m, (f3 k (by omega)).1, g2⟩, g3⟩
        · rw [lab4 j (by omega)]
          exact f3 j (by omega)
      · have lab5 : ∀ x, 361 ≤ x → labC x (setM m4 355 3 ((k : Int) + 1)) = labC x m4 := fun x hx => by
          unfold labC
          rw [show setM m4 355 3 ((k : Int) + 1) (x + 1) = m4 (x + 1) from funext fun i => setM_ne (by omega), show setM m4 355 3 ((k : Int) + 1) (x + 2) = m4 (x + 2) from funext fun i => setM_ne (by omega)]
        dsimp only
        rw [lab5 _ (by omega), lab5 _ (by omega)]
        by_cases hj2 : j = k
        · rw [hj2, lab4 k (by omega)]
          rcases g4 with g4 | g4
          · exact absurd g4 hb
          · exact g6 g4
        · rw [lab4 j (by omega), lab4 (j + 1) (by omega)]
          exact f4 j (by omega)
      · rw [g1 c i (by omega), h3.1 c i (by omega)]
        exact f1 c i h h2
      · rw [g1 355 3 (by omega), h3.1 355 3 (by omega)]
        exact f2
      · rw [lab4 j (by omega)]
        exact f3 j hj
      · rw [lab4 k (by omega)]
        exact rnd_congr hR g2 eqL_rfl (g5 (by omega))
      · rw [lab4 j (by omega), lab4 (j + 1) (by omega)]
        exact f4 j hj
    · apply Classical.byContradiction
      intro q
      have q' : ¬ (labC (361 + 3 * k) m).1 s' ≤ t'' := q
      have := chain_N ui (CI_w0 I) (fun x hx => (CI_g I hx).1) (fun s t s' t' r => RdQ_st I r) (f3 k (by omega)).1 r c (by omega)
      omega
end RC
