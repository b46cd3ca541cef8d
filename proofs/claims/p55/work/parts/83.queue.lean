/-! ===== the queue finds the best labels ===== -/
def keyP (m : Mem) (x : Nat) : Int := if x < 12 then m 354 x else m 353 (x - 12)
theorem tm12 (q : Nat) : (q : Int).tmod 12 = ((q % 12 : Nat) : Int) := by
  rw [Int.tmod_eq_emod_of_nonneg (by omega)]
  omega
theorem muN_set {f g : Nat → Int} {p : Nat} : ∀ {n : Nat}, p < n → (∀ k, k < n → k ≠ p → g k = f k) → f p = 0 → g p = 1 → muN g n = muN f n + 1 := by
  intro n
  induction n with
  | zero => intro h; omega
  | succ n ih =>
    intro hp h h0 h1
    simp only [muN]
    by_cases hh : p = n
    · have : muN g n = muN f n := by
        have a := muN_le (f := g) (g := f) (n := n) (fun k hk => by have := h k (by omega) (by omega); omega)
        have b := muN_le (f := f) (g := g) (n := n) (fun k hk => by have := h k (by omega) (by omega); omega)
        omega
      rw [this, ← hh, h0, h1]
      rfl
    · rw [ih (by omega) (fun k hk hn => h k (by omega) hn) h0 h1, h n (by omega) (fun q => hh q.symm)]
      omega
theorem muN_full {f : Nat → Int} : ∀ {n : Nat}, (∀ k, k < n → f k = 0 ∨ f k = 1) → muN f n ≤ n ∧ (muN f n = n → ∀ k, k < n → f k = 1) := by
  intro n
  induction n with
  | zero => intro _; exact ⟨Nat.le_refl _, fun _ k hk => by omega⟩
  | succ n ih =>
    intro h
    have a := ih (fun k hk => h k (by omega))
    have b := h n (by omega)
    simp only [muN]
    refine ⟨by omega, fun e k hk => ?_⟩
    by_cases hh : k = n
    · rw [hh]; omega
    · exact a.2 (by omega) k (by omega)
theorem muN_zero {f : Nat → Int} : ∀ {n : Nat}, (∀ k, k < n → f k = 0) → muN f n = 0 := by
  intro n
  induction n with
  | zero => intro _; rfl
  | succ n ih =>
    intro h
    simp only [muN]
    rw [ih (fun k hk => h k (by omega)), h n (by omega)]
    rfl
section QUEUE
variable {mc m m0 : Mem} {day sh mi : Int}
theorem minuteAt_ok {x : Nat} (hx : x < 24) : Ok (C_Search_minuteAt x m) (fun v => v = keyP m x) := by
  unfold C_Search_minuteAt
  refine ok_grd (by unfold InR; omega) (ok_some ?_)
  unfold keyP
  by_cases h : x < 12
  · rw [if_pos h, if_pos (by omega), Int.toNat_natCast]
  · rw [if_neg h, if_neg (by omega)]
    congr 1
    omega
theorem nearest_ok {n : Nat} (hn : m 1 0 = n) (hn2 : n ≤ 12) : Ok (C_Search_nearest m) (fun p => (p = -1 ∧ ∀ x : Nat, x < 24 → x % 12 < n → m 349 x = 0 → 1000000 ≤ keyP m x) ∨ ∃ x : Nat, p = x ∧ x < 24 ∧ x % 12 < n ∧ m 349 x = 0 ∧ keyP m x < 1000000 ∧ ∀ y : Nat, y < 24 → y % 12 < n → m 349 y = 0 → keyP m x ≤ keyP m y) := by
  unfold C_Search_nearest
  refine ok_ltv (ok_ltv (ok_ltv (ok_bq3 (Q := fun (s : Int × Int × Int) => (s.1 = -1 ∧ ∀ x : Nat, x < 24 → x % 12 < n → m 349 x = 0 → 1000000 ≤ keyP m x) ∨ ∃ x : Nat, s.1 = x ∧ x < 24 ∧ x % 12 < n ∧ m 349 x = 0 ∧ keyP m x < 1000000 ∧ ∀ y : Nat, y < 24 → y % 12 < n → m 349 y = 0 → keyP m x ≤ keyP m y) ?_ (fun _ _ _ h => ok_some h))))
  refine ok_loop (fun s => ∃ k : Nat, s.2.2 = k ∧ k ≤ 24 ∧ ((s.1 = -1 ∧ s.2.1 = 1000000 ∧ ∀ x : Nat, x < k → x % 12 < n → m 349 x = 0 → 1000000 ≤ keyP m x) ∨ ∃ x : Nat, s.1 = x ∧ s.2.1 = keyP m x ∧ x < k ∧ x % 12 < n ∧ m 349 x = 0 ∧ keyP m x < 1000000 ∧ ∀ y : Nat, y < k → y % 12 < n → m 349 y = 0 → keyP m x ≤ keyP m y)) (fun s => 24 - s.2.2.toNat) ⟨0, rfl, by omega, Or.inl ⟨rfl, rfl, fun x hx => by omega⟩⟩ ?_
  rintro ⟨b, l, pp⟩ ⟨k, e1, e2, h⟩
  dsimp only at e1 h ⊢
  subst e1
  unfold C_Search_nearest_b1
  rw [hn, tm12, Int.toNat_natCast]
  refine ok_ite (fun hk => ok_grd (by omega) (ok_ltv (ok_ite (fun ho => ok_bind (minuteAt_ok (by omega)) (fun v hv => ok_ite (fun hl => ok_bind (minuteAt_ok (by omega)) (fun v2 hv2 => ok_ltv (ok_ltv (ok_grd (by unfold InR; omega) (ok_ltv (ok_some ⟨⟨k + 1, by dsimp only; omega, by omega, ?_⟩, by dsimp only; omega⟩)))))) (fun hl => ok_grd (by unfold InR; omega) (ok_ltv (ok_some ⟨⟨k + 1, by dsimp only; omega, by omega, ?_⟩, by dsimp only; omega⟩))))) (fun ho => ok_grd (by unfold InR; omega) (ok_ltv (ok_some ⟨⟨k + 1, by dsimp only; omega, by omega, ?_⟩, by dsimp only; omega⟩)))))) (fun hk => ok_some ?_)
  · rw [i01] at ho
    have ho2 : k % 12 < n ∧ m 349 k = 0 := by omega
    subst hv
    subst hv2
    refine Or.inr ⟨k, rfl, rfl, by omega, ho2.1, ho2.2, ?_, fun y y1 y2 y3 => ?_⟩
    · rcases h with ⟨a, b, c⟩ | ⟨x, a, b, c, d, e, f, g⟩ <;> omega
    · by_cases hy : y = k
      · rw [hy]; omega
      · rcases h with ⟨a, b, c⟩ | ⟨x, a, b, c, d, e, f, g⟩
        · have := c y (by omega) y2 y3
          omega
        · have := g y (by omega) y2 y3
          omega
  · rw [i01] at ho
    subst hv
    dsimp only
    rcases h with ⟨a, b, c⟩ | ⟨x, a, b, c, d, e, f, g⟩
    · refine Or.inl ⟨a, b, fun y y1 y2 y3 => ?_⟩
      by_cases hy : y = k
      · rw [hy]; omega
      · exact c y (by omega) y2 y3
    · refine Or.inr ⟨x, a, b, by omega, d, e, f, fun y y1 y2 y3 => ?_⟩
      by_cases hy : y = k
      · rw [hy]; omega
      · exact g y (by omega) y2 y3
  · rw [i01] at ho
    have ho2 : ¬ (k % 12 < n ∧ m 349 k = 0) := by omega
    dsimp only
    rcases h with ⟨a, b, c⟩ | ⟨x, a, b, c, d, e, f, g⟩
    · refine Or.inl ⟨a, b, fun y y1 y2 y3 => ?_⟩
      by_cases hy : y = k
      · rw [hy] at y2 y3
        exact absurd ⟨y2, y3⟩ ho2
      · exact c y (by omega) y2 y3
    · refine Or.inr ⟨x, a, b, by omega, d, e, f, fun y y1 y2 y3 => ?_⟩
      by_cases hy : y = k
      · rw [hy] at y2 y3
        exact absurd ⟨y2, y3⟩ ho2
      · exact g y (by omega) y2 y3
  · have hk24 : k = 24 := by omega
    dsimp only
    rw [hk24] at h
    rcases h with ⟨a, b, c⟩ | ⟨x, a, b, c, d, e, f, g⟩
    · exact Or.inl ⟨a, c⟩
    · exact Or.inr ⟨x, a, c, d, e, f, g⟩
def FrQ (m0 m : Mem) : Prop := ∀ c i, ¬ (c = 353 ∨ c = 354) → m c i = m0 c i
/-- what getting on at a stop, ready at a minute, leaves -/
def Rlx (mc : Mem) (day sh mi : Int) (s : Nat) (ready : Int) (L : Lb) (q : Nat) : Prop := ∀ c c' : Nat, c < c' → c' < lenQ mc q → stQ mc q c = s → ready ≤ lvQ mc day sh mi q c → L.1 (stQ mc q c') ≤ arQ mc day sh mi q c'
theorem getOnAll_ok {I0 : Lb} {s : Nat} {ready : Int} (I : CI mc) (hm : -60 ≤ mi ∧ mi ≤ 60) (C : Ctx mc day sh mi (-1) m0) (u : UndQ mc day sh mi (-1) I0 (labC 352 m0)) (rg : Rg (nC mc) (labC 352 m0)) (hr : 0 ≤ ready) (hJ : ∀ t, ready ≤ t → Jus (nC mc) (mc 2) (wC mc (-1)) (RdQ mc day sh mi (-1)) I0 s t) : Ok (C_Search_getOnAll s ready m0) (fun m => FrQ m0 m ∧ UndQ mc day sh mi (-1) I0 (labC 352 m) ∧ Rg (nC mc) (labC 352 m) ∧ leL (nC mc) (labC 352 m) (labC 352 m0) ∧ (∀ v, v < nC mc → ((labC 352 m).1 v = (labC 352 m0).1 v ∨ ready < (labC 352 m).1 v) ∧ ((labC 352 m).2 v = (labC 352 m0).2 v ∨ ready < (labC 352 m).2 v)) ∧ ∀ q : Nat, q < 72 → isQ mc day q → Rlx mc day sh mi s ready (labC 352 m) q) := by
  have n := CI_n I
  obtain ⟨p, nw, R, H, r1, r2, r3, r4, r5, rk⟩ := id C
  unfold C_Search_getOnAll
  refine ok_ltv (ok_bq2 (Q := fun x => FrQ m0 x.2 ∧ UndQ mc day sh mi (-1) I0 (labC 352 x.2) ∧ Rg (nC mc) (labC 352 x.2) ∧ leL (nC mc) (labC 352 x.2) (labC 352 m0) ∧ (∀ v, v < nC mc → ((labC 352 x.2).1 v = (labC 352 m0).1 v ∨ ready < (labC 352 x.2).1 v) ∧ ((labC 352 x.2).2 v = (labC 352 m0).2 v ∨ ready < (labC 352 x.2).2 v)) ∧ ∀ r : Nat, r < R → Rlx mc day sh mi s ready (labC 352 x.2) (phi m0 r)) (ok_for0 (n := R) (fun k m => FrQ m0 m ∧ UndQ mc day sh mi (-1) I0 (labC 352 m) ∧ Rg (nC mc) (labC 352 m) ∧ leL (nC mc) (labC 352 m) (labC 352 m0) ∧ (∀ v, v < nC mc → ((labC 352 m).1 v = (labC 352 m0).1 v ∨ ready < (labC 352 m).1 v) ∧ ((labC 352 m).2 v = (labC 352 m0).2 v ∨ ready < (labC 352 m).2 v)) ∧ ∀ r : Nat, r < k → Rlx mc day sh mi s ready (labC 352 m) (phi m0 r)) ⟨fun _ _ _ => rfl, u, rg, leL_rfl, fun v _ => ⟨Or.inl rfl, Or.inl rfl⟩, fun r hr => by omega⟩ ?_ ?_) (fun _ m h => ok_some ?_))
  · rintro r m hrR ⟨f1, f2, f3, f4, f5, f6⟩
    obtain ⟨t1, t2, t3, t4, t5, t6⟩ := NetT_run I r5 hrR
    have Cm : Ctx mc day sh mi (-1) m := Ctx_fr I C (fun c i h => f1 c i (by unfold cX pC at h; omega))
    unfold C_Search_getOnAll_b1
    rw [f1 119 4 (by omega), r1]
    refine ok_ite (fun _ => ok_ltv (ok_ltv (ok_bq3 (Q := fun x => FrQ m x.2.2 ∧ UndQ mc day sh mi (-1) I0 (labC 352 x.2.2) ∧ Rg (nC mc) (labC 352 x.2.2) ∧ leL (nC mc) (labC 352 x.2.2) (labC 352 m) ∧ (∀ v, v < nC mc → ((labC 352 x.2.2).1 v = (labC 352 m).1 v ∨ ready < (labC 352 x.2.2).1 v) ∧ ((labC 352 x.2.2).2 v = (labC 352 m).2 v ∨ ready < (labC 352 x.2.2).2 v)) ∧ Rlx mc day sh mi s ready (labC 352 x.2.2) (phi m0 r)) ?_ (fun _ _ m' h => ok_grd (by unfold InR; omega) (ok_ltv (ok_some ⟨_, rfl, ?_⟩)))))) (fun h => by omega)
    · refine ok_loop (fun x => ∃ k : Nat, x.2.1 = k ∧ k ≤ lenQ mc (phi m0 r) ∧ (x.1 = 0 ∨ x.1 = 1) ∧ FrQ m x.2.2 ∧ UndQ mc day sh mi (-1) I0 (labC 352 x.2.2) ∧ Rg (nC mc) (labC 352 x.2.2) ∧ leL (nC mc) (labC 352 x.2.2) (labC 352 m) ∧ (∀ v, v < nC mc → ((labC 352 x.2.2).1 v = (labC 352 m).1 v ∨ ready < (labC 352 x.2.2).1 v) ∧ ((labC 352 x.2.2).2 v = (labC 352 m).2 v ∨ ready < (labC 352 x.2.2).2 v)) ∧ (x.1 = 1 → ∃ c0 : Nat, c0 < k ∧ stQ mc (phi m0 r) c0 = s ∧ ready ≤ lvQ mc day sh mi (phi m0 r) c0) ∧ (x.1 = 0 → ∀ c0 : Nat, c0 < k → ¬ (stQ mc (phi m0 r) c0 = s ∧ ready ≤ lvQ mc day sh mi (phi m0 r) c0)) ∧ ∀ c0 c1 : Nat, c0 < c1 → c1 < k → stQ mc (phi m0 r) c0 = s → ready ≤ lvQ mc day sh mi (phi m0 r) c0 → (labC 352 x.2.2).1 (stQ mc (phi m0 r) c1) ≤ arQ mc day sh mi (phi m0 r) c1) (fun x => lenQ mc (phi m0 r) - x.2.1.toNat) ⟨0, rfl, Nat.zero_le _, Or.inl rfl, fun _ _ _ => rfl, f2, f3, leL_rfl, fun v _ => ⟨Or.inl rfl, Or.inl rfl⟩, fun h => absurd (show (0 : Int) = 1 from h) (by decide), fun _ c0 h => by omega, fun c0 c1 _ h => by omega⟩ ?_
      rintro ⟨z, kk, m'⟩ ⟨k, e1, e2, h3, h4, h5, h6, h7, h8, h9, h10, h11⟩
      dsimp only at e1 h3 h4 h5 h6 h7 h8 h9 h10 h11 ⊢
      subst e1
      have Cm' : Ctx mc day sh mi (-1) m' := Ctx_fr I Cm (fun c i h => h4 c i (by unfold cX pC at h; omega))
      have Lm' : CtL mc (-1) m' := CtL_of I Cm'.1 Cm'.2.1
      have e122 : m' 122 r = lenQ mc (phi m0 r) := by rw [h4 122 r (by omega), f1 122 r (by omega)]; exact t3
      unfold C_Search_getOnAll_b2
      simp only [Int.toNat_natCast]
      rw [e122]
      refine ok_grd (by omega) (ok_ite (fun hk => ?_) (fun hk => ok_some ?_))
      · have hk2 : k < lenQ mc (phi m0 r) := by omega
        have tk := t6 k hk2
        have est : m' (124 + r) k = stQ mc (phi m0 r) k := by rw [h4 _ _ (by omega), f1 _ _ (by omega)]; exact tk.1
        have ear : m' (197 + r) k = arQ mc day sh mi (phi m0 r) k := by rw [h4 _ _ (by omega), f1 _ _ (by omega)]; exact tk.2.2.1
        have elv : m' (270 + r) k = lvQ mc day sh mi (phi m0 r) k := by rw [h4 _ _ (by omega), f1 _ _ (by omega)]; exact tk.2.2.2
        simp only [est, ear, elv]
        refine ok_ite (fun hz => ok_grd (by omega) ?_) (fun hz => ok_grd (by omega) (ok_ltv (ok_grd (by unfold InR; omega) (ok_ltv (ok_some ⟨⟨k + 1, by dsimp only; omega, by omega, b01.elim (fun q => Or.inl q) (fun q => Or.inr q), h4, h5, h6, h7, h8, fun q => ?_, fun q c0 hc0 => ?_, fun c0 c1 a b d e => ?_⟩, by dsimp only; omega⟩)))))
        · have hz1 : z = 1 := by
            rcases h3 with h3 | h3
            · exact absurd h3 hz
            · exact h3
          obtain ⟨c0, j1, j2, j3⟩ := h9 hz1
          have pos := qv_lt I t2.1 (day := day) (sh := sh) (mi := mi) j1 hk2
          refine ok_bq2 (getOff_ok (x := 352) (t := arQ mc day sh mi (phi m0 r) k) I (by omega) Lm' tk.2.1 (by omega) (by omega) h6) (fun v m'' hv => ok_grd (by unfold InR; omega) (ok_ltv (ok_some ⟨⟨k + 1, by dsimp only; omega, by omega, h3, fun c i h => ?_, ?_, ?_, ?_, fun v hv => ?_, fun _ => ⟨c0, by omega, j2, j3⟩, fun q => absurd q hz, fun a b ha hb k1 k2 => ?_⟩, by dsimp only; omega⟩)))
          · dsimp only at hv ⊢
            rw [hv.1 c i (by omega)]
            exact h4 c i h
          · dsimp only at hv ⊢
            rw [hv.2.1]
            exact und_gof h5 (by rw [j2]; exact hJ _ j3) (show RdQ mc day sh mi (-1) (stQ mc (phi m0 r) c0) (lvQ mc day sh mi (phi m0 r) c0) (stQ mc (phi m0 r) k) (arQ mc day sh mi (phi m0 r) k) from ⟨phi m0 r, c0, k, t1, t2, j1, hk2, rfl, rfl, rfl, rfl, by omega, by omega⟩) tk.2.1
          · dsimp only at hv ⊢
            rw [hv.2.1]
            exact gof_rg h6 (fun v hv => CI_w0 I _ _ tk.2.1 hv) tk.2.1 (by omega)
          · dsimp only at hv ⊢
            rw [hv.2.1]
            exact leL_tr gof_le h7
          · rename_i hv2
            dsimp only at hv2 ⊢
            have w := CI_w0 (cut := -1) I _ _ tk.2.1 hv
            have o := h8 v hv
            rw [hv2.2.1, gof_1, gof_2]
            constructor
            · split
              · exact Or.inr (by omega)
              · exact o.1
            · split
              · exact Or.inr (by omega)
              · exact o.2
          · dsimp only at hv ⊢
            have le := gof_le1 (N := nC mc) (w := wC mc (-1)) (L := labC 352 m') (s := stQ mc (phi m0 r) k) (t := arQ mc day sh mi (phi m0 r) k) (stQ mc (phi m0 r) b)
            rw [hv.2.1]
            by_cases hbk : b = k
            · rw [hbk]; exact gof_at
            · have := h11 a b ha (by omega) k1 k2
              omega
        · dsimp only at q
          have hq : (stQ mc (phi m0 r) k : Int) = s ∧ ready ≤ lvQ mc day sh mi (phi m0 r) k := by
            by_cases y : (stQ mc (phi m0 r) k : Int) = s ∧ ready ≤ lvQ mc day sh mi (phi m0 r) k
            · exact y
            · rw [if_neg y] at q
              omega
          exact ⟨k, by omega, by omega, hq.2⟩
        · dsimp only at q
          have hq : ¬ ((stQ mc (phi m0 r) k : Int) = s ∧ ready ≤ lvQ mc day sh mi (phi m0 r) k) := i01.mp q
          by_cases hc : c0 = k
          · rw [hc]; omega
          · exact h10 (by omega) c0 (by omega)
        · by_cases hbk : c1 = k
          · exact absurd ⟨d, e⟩ (h10 (by omega) c0 (by omega))
          · exact h11 c0 c1 a (by omega) d e
      · have hkl : k = lenQ mc (phi m0 r) := by omega
        exact ⟨h4, h5, h6, h7, h8, fun a b ha hb k1 k2 => h11 a b ha (by omega) k1 k2⟩
    · dsimp only at h ⊢
      obtain ⟨g1, g2, g3, g4, g5, g6⟩ := h
      refine ⟨fun c i h => by rw [g1 c i h]; exact f1 c i h, g2, g3, leL_tr g4 f4, fun v hv => ?_, fun r' hr' => ?_⟩
      · have a := g5 v hv
        have b := f5 v hv
        constructor
        · rcases a.1 with a | a
          · rw [a]; exact b.1
          · exact Or.inr a
        · rcases a.2 with a | a
          · rw [a]; exact b.2
          · exact Or.inr a
      · by_cases hh : r' = r
        · rw [hh]; exact g6
        · intro c c' h1 h2 h3 h4
          have a := f6 r' (by omega) c c' h1 h2 h3 h4
          have tt := NetT_run I r5 (r := r') (by omega)
          have b := (g4 _ (tt.2.2.2.2.2 c' h2).2.1).1
          omega
  · rintro m ⟨f1, -⟩
    unfold C_Search_getOnAll_b1
    rw [f1 119 4 (by omega), r1, if_neg (by omega)]
  · dsimp only at h
    refine ⟨h.1, h.2.1, h.2.2.1, h.2.2.2.1, h.2.2.2.2.1, fun q hq hiq => ?_⟩
    obtain ⟨r, hr, er⟩ := r5.2.2 q hq hiq
    rw [← er]
    exact h.2.2.2.2.2 r hr
end QUEUE
