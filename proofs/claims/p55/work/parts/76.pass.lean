/-! ===== the reference's passes ===== -/
section PASS
variable {mc mm : Mem} {day sh mi cut : Int}
/-- a run's rides are looked after -/
def ClQ (mc : Mem) (day sh mi cut : Int) (q : Nat) (L : Lb) : Prop := ∀ c c' : Nat, c < c' → c' < lenQ mc q → ¬ (stQ mc q c : Int) = cut → ¬ (stQ mc q c' : Int) = cut → can (mc 2) L (stQ mc q c) (lvQ mc day sh mi q c) → L.1 (stQ mc q c') ≤ arQ mc day sh mi q c'
def UndQ (mc : Mem) (day sh mi cut : Int) (I L : Lb) : Prop := Und (nC mc) (mc 2) (wC mc cut) (RdQ mc day sh mi cut) I L
def BestQ (mc : Mem) (day sh mi cut : Int) (I L : Lb) : Prop := Best (nC mc) (mc 2) (wC mc cut) (RdQ mc day sh mi cut) I L
theorem best_of {I L : Lb} (u : UndQ mc day sh mi cut I L) (h : ∀ q : Nat, q < 72 → isQ mc day q → ClQ mc day sh mi cut q L) : BestQ mc day sh mi cut I L := by
  refine ⟨u, fun s t s' t' r c => ?_⟩
  obtain ⟨q, c1, c2, h1, h2, h3, h4, h5, h6, h7, h8, h9, h10⟩ := r
  rw [h5, h6] at c
  rw [h5] at h9
  rw [h7] at h10
  rw [h7, h8]
  exact h q h1 h2 c1 c2 h3 h4 h9 h10 c
/-- one run, from its first call on -/
theorem rideOn_ok {q : Nat} {I0 Lp : Lb} (I : CI mc) (hq7 : q < 72) (hd : 0 ≤ day ∧ day ≤ 27) (hm : -60 ≤ mi ∧ mi ≤ 60) (hq : isQ mc day q) (r : RelM mc day sh mi cut mm) (u : UndQ mc day sh mi cut I0 (labM mm)) (rg : Rg (nC mc) (labM mm)) (fl : mm 0 25 = 0 ∨ mm 0 25 = 1) (f0 : mm 0 25 = 0 → labM mm = Lp) (f1 : mm 0 25 = 1 → muN (labM mm).1 (nC mc) < muN Lp.1 (nC mc)) : Ok (M_rideOn q mm) (fun m => FrG mm m ∧ UndQ mc day sh mi cut I0 (labM m) ∧ Rg (nC mc) (labM m) ∧ (m 0 25 = 0 ∨ m 0 25 = 1) ∧ (m 0 25 = 0 → mm 0 25 = 0 ∧ labM m = Lp ∧ ClQ mc day sh mi cut q Lp) ∧ (m 0 25 = 1 → muN (labM m).1 (nC mc) < muN Lp.1 (nC mc))) := by
  have n := CI_n I
  have len := CI_len I hq.1
  have tt := CI_t I
  have s6 := (r.2.2.2.2.1 (q % 24) hq.1).2.1
  unfold M_rideOn
  refine ok_ltv (ok_ltv (ok_bq3 (Q := fun x => (FrG mm x.2.2 ∧ UndQ mc day sh mi cut I0 (labM x.2.2) ∧ Rg (nC mc) (labM x.2.2) ∧ (x.2.2 0 25 = 0 ∨ x.2.2 0 25 = 1) ∧ (x.2.2 0 25 = 0 → mm 0 25 = 0 ∧ labM x.2.2 = Lp ∧ ClQ mc day sh mi cut q Lp) ∧ (x.2.2 0 25 = 1 → muN (labM x.2.2).1 (nC mc) < muN Lp.1 (nC mc)))) ?_ (fun _ _ _ h => ok_some h)))
  refine ok_loop (fun x => ∃ k : Nat, x.2.1 = k ∧ k ≤ lenQ mc q ∧ (x.1 = 0 ∨ x.1 = 1) ∧ FrG mm x.2.2 ∧ UndQ mc day sh mi cut I0 (labM x.2.2) ∧ Rg (nC mc) (labM x.2.2) ∧ (x.2.2 0 25 = 0 ∨ x.2.2 0 25 = 1) ∧ (x.1 = 1 → ∃ c0 : Nat, c0 < k ∧ ¬ (stQ mc q c0 : Int) = cut ∧ 0 ≤ lvQ mc day sh mi q c0 ∧ Jus (nC mc) (mc 2) (wC mc cut) (RdQ mc day sh mi cut) I0 (stQ mc q c0) (lvQ mc day sh mi q c0)) ∧ (x.2.2 0 25 = 0 → mm 0 25 = 0 ∧ labM x.2.2 = Lp ∧ (x.1 = 0 → ∀ c0 : Nat, c0 < k → ¬ (¬ (stQ mc q c0 : Int) = cut ∧ can (mc 2) Lp (stQ mc q c0) (lvQ mc day sh mi q c0))) ∧ ∀ c0 c1 : Nat, c0 < c1 → c1 < k → ¬ (stQ mc q c0 : Int) = cut → ¬ (stQ mc q c1 : Int) = cut → can (mc 2) Lp (stQ mc q c0) (lvQ mc day sh mi q c0) → Lp.1 (stQ mc q c1) ≤ arQ mc day sh mi q c1) ∧ (x.2.2 0 25 = 1 → muN (labM x.2.2).1 (nC mc) < muN Lp.1 (nC mc))) (fun x => lenQ mc q - x.2.1.toNat) ⟨0, rfl, Nat.zero_le _, Or.inl rfl, fun _ _ _ _ => rfl, u, rg, fl, fun h => by omega, fun h => ⟨h, f0 h, fun _ c0 h => by omega, fun c0 c1 h1 h2 => by omega⟩, f1⟩ ?_
  rintro ⟨z, kk, m⟩ ⟨k, h1, h2, h3, h4, h5, h6, h7, h8, h9, h10⟩
  dsimp only at h1 h3 h4 h5 h6 h7 h8 h9 h10 ⊢
  subst h1
  have e6 : m 6 (q % 24) = lenQ mc q := by rw [h4 6 _ (by omega) (by omega), s6]; exact len.1
  have rm := FrG_rel r h4
  unfold M_rideOn_b1
  rw [tm24, Int.toNat_natCast, e6]
  refine ok_grd (by omega) (ok_ite (fun hk => ok_ltv ?_) (fun hk => ok_some ?_))
  · have hk2 : k < lenQ mc q := by omega
    have cl := CI_call I hq.1 hk2
    refine ok_ite (fun hz => ok_bind (stopIn_ok I rm hq hk2) (fun s hs => ok_bind (comesAt_ok I rm hq7 hd hm hq hk2) (fun t ht => ?_))) (fun hz => ok_ltv (ok_ite (fun hz2 => absurd hz2 hz) (fun _ => ok_bind (stopIn_ok I rm hq hk2) (fun s hs => ok_bind (leavesAt_ok I rm hq7 hd hm hq hk2) (fun t ht => ?_)))))
    · have hz1 : z = 1 := by
        rcases h3 with h3 | h3
        · exact absurd h3 hz
        · exact h3
      subst hs
      subst ht
      obtain ⟨c0, j1, j2, j3, j4⟩ := h8 hz1
      have pos := qv_lt I hq.1 (day := day) (sh := sh) (mi := mi) j1 hk2
      by_cases hcut : (stQ mc q k : Int) = cut
      · refine ok_bind (getsOff_cut rm hcut) (fun m' hm' => ?_)
        subst hm'
        refine ok_ltv (ok_ite (fun _ => ok_ltv (ok_grd (by unfold InR; omega) (ok_ltv (ok_some ⟨⟨k + 1, by dsimp only; omega, by omega, Or.inr rfl, h4, h5, h6, h7, fun _ => ⟨c0, by omega, j2, j3, j4⟩, fun h => ?_, h10⟩, by dsimp only; omega⟩)))) (fun q => absurd hz q))
        have y := h9 h
        refine ⟨y.1, y.2.1, fun q => absurd (show (1 : Int) = 0 from q) (by decide), fun a b ha hb k1 k2 k3 => ?_⟩
        by_cases hbk : b = k
        · rw [hbk] at k2
          exact absurd hcut k2
        · exact y.2.2.2 a b ha (by omega) k1 k2 k3
      · refine ok_bind (getsOff_ok I rm cl.2.1 hcut (by omega) h6) (fun m' hm' => ?_)
        obtain ⟨p1, p2, p3⟩ := hm'
        have rd : RdQ mc day sh mi cut (stQ mc q c0) (lvQ mc day sh mi q c0) (stQ mc q k) (arQ mc day sh mi q k) := ⟨q, c0, k, hq7, hq, j1, hk2, rfl, rfl, rfl, rfl, j2, hcut⟩
        have le := fun v => gof_le1 (N := nC mc) (w := wC mc cut) (L := labM m) (s := stQ mc q k) (t := arQ mc day sh mi q k) v
        refine ok_ltv (ok_ite (fun _ => ok_ltv (ok_grd (by unfold InR; omega) (ok_ltv (ok_some ⟨⟨k + 1, by dsimp only; omega, by omega, Or.inr rfl, fun c i a b => by dsimp only; rw [p1 c i a b]; exact h4 c i a b, ?_, ?_, ?_, fun _ => ⟨c0, by omega, j2, j3, j4⟩, fun h => ?_, fun h => ?_⟩, by dsimp only; omega⟩)))) (fun q => absurd hz q))
        · dsimp only
          rw [p2]
          exact und_gof h5 j4 rd cl.2.1
        · dsimp only
          rw [p2]
          exact gof_rg h6 (fun v hv => CI_w0 I _ _ cl.2.1 hv) cl.2.1 (by omega)
        · dsimp only
          rw [p3]
          split
          · exact Or.inr rfl
          · exact h7
        · dsimp only at h ⊢
          rw [h] at p3
          by_cases hlt : arQ mc day sh mi q k < m 16 (stQ mc q k)
          · rw [if_pos hlt] at p3
            omega
          · rw [if_neg hlt] at p3
            have y := h9 p3.symm
            have same : labM m' = labM m := by rw [p2]; exact gof_no hlt
            refine ⟨y.1, by rw [same]; exact y.2.1, fun q => absurd (show (1 : Int) = 0 from q) (by decide), fun a b ha hb k1 k2 k3 => ?_⟩
            by_cases hbk : b = k
            · rw [hbk, ← y.2.1]
              show m 16 (stQ mc q k) ≤ _
              omega
            · exact y.2.2.2 a b ha (by omega) k1 k2 k3
        · dsimp only at h ⊢
          by_cases hlt : arQ mc day sh mi q k < m 16 (stQ mc q k)
          · have lt : muN (labM m').1 (nC mc) < muN (labM m).1 (nC mc) := by
              rw [p2]
              refine muN_lt (s := stQ mc q k) (fun v _ => le v) cl.2.1 ?_ ?_
              · rw [gof_1, if_pos ⟨rfl, hlt⟩]; omega
              · rw [gof_1, if_pos ⟨rfl, hlt⟩]; exact hlt
            rcases h7 with h7 | h7
            · rw [← (h9 h7).2.1]
              exact lt
            · exact Nat.lt_trans lt (h10 h7)
          · rw [if_neg hlt, h] at p3
            have same : labM m' = labM m := by rw [p2]; exact gof_no hlt
            rw [same]
            exact h10 p3.symm
    · subst hs
      subst ht
      have hz0 : z = 0 := by omega
      refine ok_bind (getsOn_ok I rm cl.2.1 h6) (fun v hv => ok_ite (fun hv0 => ok_ltv (ok_grd (by unfold InR; omega) (ok_ltv (ok_some ⟨⟨k + 1, by dsimp only; omega, by omega, Or.inr rfl, h4, h5, h6, h7, fun _ => ?_, fun h => ?_, h10⟩, by dsimp only; omega⟩)))) (fun hv0 => ok_ltv (ok_grd (by unfold InR; omega) (ok_ltv (ok_some ⟨⟨k + 1, by dsimp only; omega, by omega, Or.inl rfl, h4, h5, h6, h7, fun q => absurd (show (0 : Int) = 1 from q) (by decide), fun h => ?_, h10⟩, by dsimp only; omega⟩)))))
      · rcases hv with hv | hv
        · exact ⟨k, by omega, hv.2.1, hv.2.2.1, und_jus h5 cl.2.1 hv.2.2⟩
        · exact absurd hv.1 hv0
      · have y := h9 h
        refine ⟨y.1, y.2.1, fun q => absurd (show (1 : Int) = 0 from q) (by decide), fun a b ha hb k1 k2 k3 => ?_⟩
        by_cases hbk : b = k
        · exact absurd ⟨k1, k3⟩ (y.2.2.1 hz0 a (by omega))
        · exact y.2.2.2 a b ha (by omega) k1 k2 k3
      · have y := h9 h
        refine ⟨y.1, y.2.1, fun _ c0 hc0 => ?_, fun a b ha hb k1 k2 k3 => ?_⟩
        · by_cases hh : c0 = k
          · rcases hv with hv | hv
            · omega
            · rw [hh, ← y.2.1]
              exact hv.2
          · exact y.2.2.1 hz0 c0 (by omega)
        · by_cases hbk : b = k
          · exact absurd ⟨k1, k3⟩ (y.2.2.1 hz0 a (by omega))
          · exact y.2.2.2 a b ha (by omega) k1 k2 k3
  · have hkl : k = lenQ mc q := by omega
    refine ⟨h4, h5, h6, h7, fun h => ?_, h10⟩
    have y := h9 h
    refine ⟨y.1, y.2.1, fun a b ha hb k1 k2 k3 => y.2.2.2 a b ha (by omega) k1 k2 k3⟩
theorem settle_ok {I0 : Lb} (I : CI mc) (hd : 0 ≤ day ∧ day ≤ 27) (hm : -60 ≤ mi ∧ mi ≤ 60) (r : RelM mc day sh mi cut mm) (u : UndQ mc day sh mi cut I0 (labM mm)) (rg : Rg (nC mc) (labM mm)) : Ok (M_settle mm) (fun m => FrG mm m ∧ BestQ mc day sh mi cut I0 (labM m) ∧ Rg (nC mc) (labM m)) := by
  unfold M_settle
  refine ok_ltv (ok_bq1 (Q := fun m => FrG mm m ∧ BestQ mc day sh mi cut I0 (labM m) ∧ Rg (nC mc) (labM m)) ?_ (fun _ h => ok_some h))
  refine ok_loop (fun m => FrG mm m ∧ UndQ mc day sh mi cut I0 (labM m) ∧ Rg (nC mc) (labM m) ∧ (m 0 25 = 0 ∨ m 0 25 = 1) ∧ (m 0 25 = 0 → BestQ mc day sh mi cut I0 (labM m))) (fun m => 2 * muN (labM m).1 (nC mc) + (m 0 25).toNat) ⟨fun c i a b => setM_ne b, ?_, ?_, Or.inr (setM_same _ _ _ _), fun h => ?_⟩ ?_
  · exact u
  · exact rg
  · rw [setM_same] at h
    omega
  · rintro m ⟨h1, h2, h3, h4, h5⟩
    unfold M_settle_b1
    refine ok_ite (fun h => ok_ltv (ok_ltv (ok_bq2 (Q := fun x => FrG mm x.2 ∧ UndQ mc day sh mi cut I0 (labM x.2) ∧ Rg (nC mc) (labM x.2) ∧ (x.2 0 25 = 0 ∨ x.2 0 25 = 1) ∧ (x.2 0 25 = 0 → labM x.2 = labM m ∧ ∀ q : Nat, q < 72 → isQ mc day q → ClQ mc day sh mi cut q (labM m)) ∧ (x.2 0 25 = 1 → muN (labM x.2).1 (nC mc) < muN (labM m).1 (nC mc))) (ok_for0 (n := 72) (fun k x => FrG mm x ∧ UndQ mc day sh mi cut I0 (labM x) ∧ Rg (nC mc) (labM x) ∧ (x 0 25 = 0 ∨ x 0 25 = 1) ∧ (x 0 25 = 0 → labM x = labM m ∧ ∀ q : Nat, q < k → isQ mc day q → ClQ mc day sh mi cut q (labM m)) ∧ (x 0 25 = 1 → muN (labM x).1 (nC mc) < muN (labM m).1 (nC mc))) ⟨fun c i a b => ?_, h2, h3, Or.inl (setM_same _ _ _ _), fun _ => ⟨rfl, fun q h => by omega⟩, fun h => ?_⟩ ?_ ?_) (fun _ m2 hh => ok_some ?_)))) (fun h => ok_some ⟨h1, h5 (by omega), h3⟩)
    · rw [setM_ne b]
      exact h1 c i a b
    · rw [setM_same] at h
      omega
    · rintro k x hk ⟨g1, g2, g3, g4, g5, g6⟩
      have rx := FrG_rel r g1
      unfold M_settle_b2
      refine ok_ite (fun _ => ok_bind (isRun_ok I rx hk hd) (fun z hz => ok_ite (fun hz0 => ?_) (fun hz0 => ok_grd (by unfold InR; omega) (ok_ltv (ok_some ⟨_, rfl, g1, g2, g3, g4, fun h => ?_, g6⟩))))) (fun h => by omega)
      · have hq : isQ mc day k := by
          rcases hz with hz | hz
          · exact hz.2
          · exact absurd hz.1 hz0
        refine ok_bind (rideOn_ok I hk hd hm hq rx g2 g3 g4 (fun h => (g5 h).1) g6) (fun x' hx => ok_grd (by unfold InR; omega) (ok_ltv (ok_some ⟨_, rfl, fun c i a b => ?_, hx.2.1, hx.2.2.1, hx.2.2.2.1, fun h => ?_, hx.2.2.2.2.2⟩)))
        · rw [hx.1 c i a b]
          exact g1 c i a b
        · have y := hx.2.2.2.2.1 h
          refine ⟨y.2.1, fun q hqk hqq => ?_⟩
          by_cases hh : q = k
          · rw [hh]; exact y.2.2
          · exact (g5 y.1).2 q (by omega) hqq
      · refine ⟨(g5 h).1, fun q hqk hqq => ?_⟩
        by_cases hh : q = k
        · rcases hz with hz | hz
          · omega
          · rw [hh] at hqq
            exact absurd hqq hz.2
        · exact (g5 h).2 q (by omega) hqq
    · rintro x _
      unfold M_settle_b2
      rw [if_neg (by omega)]
    · dsimp only at hh ⊢
      obtain ⟨g1, g2, g3, g4, g5, g6⟩ := hh
      have hm1 : m 0 25 = 1 := by
        rcases h4 with h4 | h4
        · exact absurd h4 h
        · exact h4
      refine ⟨⟨g1, g2, g3, g4, fun h => ?_⟩, ?_⟩
      · have y := g5 h
        exact best_of g2 (fun q h1 h2 => by rw [y.1]; exact y.2 q h1 h2)
      · rcases g4 with g4 | g4
        · have y := g5 g4
          rw [y.1, g4, hm1]
          omega
        · have y := g6 g4
          rw [g4, hm1]
          omega
/-- the reference's earliest arrival -/
theorem earliestOf_ok {a b : Nat} {t : Int} (I : CI mc) (hd : 0 ≤ day ∧ day ≤ 27) (hm : -60 ≤ mi ∧ mi ≤ 60) (r : RelM mc day sh mi cut (setM mm 0 22 day)) (ha : a < nC mc) (hb : b < nC mc) (ht : 0 ≤ t ∧ t < 100000) : Ok (M_earliestOf a b day t mm) (fun x => (∀ c i, ¬ (c = 15 ∨ c = 16) → ¬ (c = 0 ∧ (i = 22 ∨ i = 25)) → x.2 c i = mm c i) ∧ x.2 0 22 = day ∧ BestQ mc day sh mi cut (ini (wC mc cut) a t) (labM x.2) ∧ Rg (nC mc) (labM x.2) ∧ x.1 = min ((labM x.2).1 b) ((labM x.2).2 b)) := by
  have n := CI_n I
  unfold M_earliestOf
  refine ok_ltv (ok_bind (begin_ok I r ha ht) (fun m1 h1 => ?_))
  have r1 : RelM mc day sh mi cut m1 := FrG_rel r (fun c i x y => h1.1 c i x)
  have u1 : UndQ mc day sh mi cut (ini (wC mc cut) a t) (labM m1) := und_ini (CI_w0 I) (by omega) h1.2
  have g1 : Rg (nC mc) (labM m1) := fun v hv => by
    have p := h1.2 v hv
    have q := ini_rg (N := nC mc) (w := wC mc cut) (CI_w0 I) ha ht.1 (by omega) v hv
    omega
  refine ok_bind (settle_ok I hd hm r1 u1 g1) (fun m2 h2 => ?_)
  unfold M_at
  refine ok_bind (ok_grd (by omega) (ok_some rfl)) (fun v hv => ok_some ⟨fun c i x y => ?_, ?_, h2.2.1, h2.2.2, ?_⟩)
  · dsimp only
    rw [h2.1 c i x (by omega), h1.1 c i x, setM_ne (by omega)]
  · dsimp only
    rw [h2.1 0 22 (by omega) (by omega), h1.1 0 22 (by omega), setM_same]
  · rw [← hv]
    unfold labM
    dsimp only
    rw [Int.toNat_natCast]
    split <;> omega
end PASS
