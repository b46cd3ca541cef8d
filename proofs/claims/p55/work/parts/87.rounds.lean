/-! ===== the reference's rounds, earliestByRounds ===== -/
def rowM (m : Mem) (k : Nat) : Lb := (fun v => m 18 (12 * k + v), fun v => m 17 (12 * k + v))
section RM
variable {mc mm m m0 : Mem} {day sh mi : Int}
theorem st_earliestByRounds : ST_earliestByRounds Inv := by
  intro mc mm p0 p1 p2 p3 I _ _ _ _
  have e : M_earliestByRounds p0 p1 p2 p3 mm = M_earliest p0 p1 p2 p3 mm := by
    unfold M_earliestByRounds
    cases M_earliest p0 p1 p2 p3 mm <;> rfl
  rw [e]
  refine ag_ear (rc := fun m_ => (C_Net_lay p2 (-1) 0 m_).bind fun m_2 => (C_Rounds_fill p0 p3 m_2).bind fun m_3 => (C_Rounds_least p1 m_3).bind fun r_ => (C_needFound r_ m_3).bind fun q18 => tbd q18 fun _ m_4 => (C_Rounds_least p1 m_4).bind fun r_2 => some (.inl r_2, m_4)) I (fun a b ea eb ha hb h5 h6 h7 h8 => ?_)
  have CI0 : CI mc := ⟨_, I⟩
  have n := CI_n CI0
  subst ea
  subst eb
  refine ok_bind (lay_ok (sh := -1) (mi := 0) CI0 ⟨h5, h6⟩ (by omega) (Ctx_self I)) (fun m1 l => ?_)
  refine ok_bind (fill_ok (a := a) (t := p3) CI0 (by omega) ⟨l.2.1, l.2.2.1, l.2.2.2⟩ ha (by omega)) (fun m2 s => ?_)
  obtain ⟨s1, last, r1, r2, r3, r4, r5⟩ := s
  have C2 : Ctx mc p2 (-1) 0 (-1) m2 := Ctx_fr CI0 ⟨l.2.1, l.2.2.1, l.2.2.2⟩ (fun c i h => s1 c i (by unfold cX pC at h; omega) (by unfold cX pC at h; omega))
  have ui : WCl (nC mc) (wC mc (-1)) (ini (wC mc (-1)) a p3) := (und_ini (g := mc 2) (Rd := RdQ mc p2 (-1) 0 (-1)) (CI_w0 CI0) (by omega) eqL_rfl).2.1
  have best : BestQ mc p2 (-1) 0 (-1) (ini (wC mc (-1)) a p3) (labC (361 + 3 * last) m2) := rw_best ui (RdQ_N CI0) (r3 last (Nat.le_refl _)).1 r4
  have least : Ok (C_Rounds_least b m2) (fun v => v = min ((labC (361 + 3 * last) m2).1 b) ((labC (361 + 3 * last) m2).2 b)) := by
    unfold C_Rounds_least
    rw [r1, Int.toNat_natCast]
    exact ok_grd (by omega) (ok_bind (atC_ok (s := b) (by omega)) (fun v hv => ok_some hv))
  refine ok_bind least (fun v hv => ?_)
  refine wp_bind (wp_needFound (fun h1 => ok_tbd_inr ?_) (fun h1 => ok_tbd_inl (ok_bind least (fun r hr => ok_some ?_))))
  · rw [hv] at h1
    exact ⟨m2, _, C2.1, C2.2.1.1, best, fun q => by omega, fun _ => rfl⟩
  · rw [hv] at h1
    exact ⟨m2, _, C2.1, C2.2.1.1, best, fun _ => by rw [hr], fun q => by omega⟩
def RelR (mc : Mem) (day sh mi : Int) (mm : Mem) : Prop := RelM mc day sh mi (-1) mm
theorem getsOnBy_ok {k s : Nat} {t : Int} (I : CI mc) (r : RelM mc day sh mi (-1) mm) (hk : k < 74) (hs : s < nC mc) (rg : Rg (nC mc) (rowM mm k)) : Ok (M_getsOnBy k s t mm) (fun z => (z = 1 ∧ can (mc 2) (rowM mm k) s t) ∨ (z = 0 ∧ ¬ can (mc 2) (rowM mm k) s t)) := by
  have n := CI_n I
  have e1 := r.2.1 s hs
  have gb := CI_g I hs
  have b := rg s hs
  unfold rowM at b
  dsimp only at b
  have e2 : (12 * (k : Int) + (s : Int)).toNat = 12 * k + s := by omega
  unfold M_getsOnBy
  rw [e2, Int.toNat_natCast, e1]
  refine ok_grd (by unfold InR; omega) (ok_some ?_)
  unfold can rowM
  dsimp only
  by_cases h : (0 ≤ t) ∧ ((mm 17 (12 * k + s) ≤ t) ∨ (mm 18 (12 * k + s) + mc 2 s ≤ t))
  · rw [if_pos h]
    exact Or.inl ⟨rfl, h⟩
  · rw [if_neg h]
    exact Or.inr ⟨rfl, h⟩
theorem keepRound_ok {T : Nat} (hT : T < 74) (e : m0 0 28 = T) : Ok (M_keepRound m0) (fun m => (∀ c i, ¬ (c = 17 ∨ c = 18) → ¬ (c = 0 ∧ i = 28) → m c i = m0 c i) ∧ m 0 28 = ((T + 1 : Nat) : Int) ∧ (∀ v : Nat, v < 12 → m 17 (12 * T + v) = m0 15 v ∧ m 18 (12 * T + v) = m0 16 v) ∧ ∀ j : Nat, j < 12 * T → m 17 j = m0 17 j ∧ m 18 j = m0 18 j) := by
  unfold M_keepRound
  refine ok_ltv (ok_bq2 (ok_for0 (n := 12) (fun k m => (∀ c i, ¬ (c = 17 ∨ c = 18) → m c i = m0 c i) ∧ (∀ v : Nat, v < k → m 17 (12 * T + v) = m0 15 v ∧ m 18 (12 * T + v) = m0 16 v) ∧ ∀ j : Nat, j < 12 * T → m 17 j = m0 17 j ∧ m 18 j = m0 18 j) ⟨fun _ _ _ => rfl, fun v hv => by omega, fun _ _ => ⟨rfl, rfl⟩⟩ ?_ ?_) (fun _ m h => ?_))
  · rintro k m hk ⟨f1, f2, f3⟩
    have e28 : m 0 28 = T := by rw [f1 0 28 (by omega)]; exact e
    have e2 : (12 * (T : Int) + (k : Int)).toNat = 12 * T + k := by omega
    unfold M_keepRound_b1
    rw [e28, e2, Int.toNat_natCast]
    refine ok_ite (fun _ => ok_grd (by unfold InR; omega) (ok_ltv ?_)) (fun h => by omega)
    rw [setM_ne (c' := 0) (by omega), e28, e2]
    refine ok_grd (by unfold InR; omega) (ok_ltv (ok_grd (by unfold InR; omega) (ok_ltv (ok_some ⟨_, rfl, fun c i hc => ?_, fun v hv => ?_, fun j hj => ?_⟩))))
    · rw [setM_ne (by omega), setM_ne (by omega)]
      exact f1 c i hc
    · by_cases hh : v = k
      · rw [setM_ne (by omega), setM_hit (by omega), setM_hit (by omega), setM_ne (by omega), f1 15 k (by omega), f1 16 k (by omega), hh]
        exact ⟨rfl, rfl⟩
      · rw [setM_ne (by omega), setM_ne (by omega), setM_ne (by omega), setM_ne (by omega)]
        exact f2 v (by omega)
    · rw [setM_ne (by omega), setM_ne (by omega), setM_ne (by omega), setM_ne (by omega)]
      exact f3 j hj
  · rintro m _
    unfold M_keepRound_b1
    rw [if_neg (by omega)]
  · dsimp only at h
    obtain ⟨f1, f2, f3⟩ := h
    have e28 : m 0 28 = T := by rw [f1 0 28 (by omega)]; exact e
    rw [e28]
    refine ok_grd (by unfold InR; omega) (ok_ltv (ok_some ⟨fun c i h h2 => ?_, ?_, fun v hv => ?_, fun j hj => ?_⟩))
    · rw [setM_ne (by omega)]
      exact f1 c i h
    · rw [setM_same]
      omega
    · rw [setM_ne (by omega), setM_ne (by omega)]
      exact f2 v hv
    · rw [setM_ne (by omega), setM_ne (by omega)]
      exact f3 j hj
/-- one run of a pass -/
theorem tellRun_ok {q T : Nat} {A : Lb} (I : CI mc) (hq7 : q < 72) (hd : 0 ≤ day ∧ day ≤ 27) (hm : -60 ≤ mi ∧ mi ≤ 60) (r : RelM mc day sh mi (-1) mm) (hT : 1 ≤ T ∧ T < 74) (e28 : mm 0 28 = T) (hA : rowM mm (T - 1) = A) (rgA : Rg (nC mc) A) (u : RUQ mc day sh mi A (labM mm)) (rg : Rg (nC mc) (labM mm)) (fl : mm 0 25 = 0 ∨ mm 0 25 = 1) (f0 : mm 0 25 = 0 → eqL (nC mc) (labM mm) A) (f1 : mm 0 25 = 1 → Imp (nC mc) (labM mm) A) : Ok (loop (fun s => M_tellRounds_b3 q s.1 s.2.1 s.2.2) (0, 0, mm)) (fun x => FrG mm x.2.2 ∧ RUQ mc day sh mi A (labM x.2.2) ∧ Rg (nC mc) (labM x.2.2) ∧ (x.2.2 0 25 = 0 ∨ x.2.2 0 25 = 1) ∧ (x.2.2 0 25 = 0 → eqL (nC mc) (labM x.2.2) A) ∧ (x.2.2 0 25 = 1 → Imp (nC mc) (labM x.2.2) A) ∧ leL (nC mc) (labM x.2.2) (labM mm) ∧ (isQ mc day q → ∀ c0 c1 : Nat, c0 < c1 → c1 < lenQ mc q → can (mc 2) A (stQ mc q c0) (lvQ mc day sh mi q c0) → (labM x.2.2).1 (stQ mc q c1) ≤ arQ mc day sh mi q c1)) := by
  have n := CI_n I
  refine ok_loop (fun x => ∃ k : Nat, x.2.1 = k ∧ k ≤ 8 ∧ (isQ mc day q → k ≤ lenQ mc q) ∧ (x.1 = 0 ∨ x.1 = 1) ∧ FrG mm x.2.2 ∧ RUQ mc day sh mi A (labM x.2.2) ∧ Rg (nC mc) (labM x.2.2) ∧ (x.2.2 0 25 = 0 ∨ x.2.2 0 25 = 1) ∧ (x.2.2 0 25 = 0 → eqL (nC mc) (labM x.2.2) A) ∧ (x.2.2 0 25 = 1 → Imp (nC mc) (labM x.2.2) A) ∧ leL (nC mc) (labM x.2.2) (labM mm) ∧ (x.1 = 1 → Got mc day sh mi A q k) ∧ (x.1 = 0 → ∀ c0 : Nat, c0 < k → ¬ can (mc 2) A (stQ mc q c0) (lvQ mc day sh mi q c0)) ∧ ∀ c0 c1 : Nat, c0 < c1 → c1 < k → can (mc 2) A (stQ mc q c0) (lvQ mc day sh mi q c0) → (labM x.2.2).1 (stQ mc q c1) ≤ arQ mc day sh mi q c1) (fun x => 8 - x.2.1.toNat) ⟨0, rfl, Nat.zero_le _, fun _ => Nat.zero_le _, Or.inl rfl, fun _ _ _ _ => rfl, u, rg, fl, f0, f1, leL_rfl, fun h => absurd (show (0 : Int) = 1 from h) (by decide), fun _ c0 h => by omega, fun c0 c1 _ h => by omega⟩ ?_
  rintro ⟨z, kk, m⟩ ⟨k, e1, e2, e3, h3, g1, g2, g3, g4, g5, g6, g7, g8, g9, g10⟩
  dsimp only at e1 h3 g1 g2 g3 g4 g5 g6 g7 g8 g9 g10 ⊢
  subst e1
  have rm := FrG_rel r g1
  have hA' : rowM m (T - 1) = A := by
    rw [← hA]
    unfold rowM
    refine Prod.ext (funext fun v => ?_) (funext fun v => ?_)
    · exact g1 18 _ (by omega) (by omega)
    · exact g1 17 _ (by omega) (by omega)
  have e28' : m 0 28 = T := by rw [g1 0 28 (by omega) (by omega)]; exact e28
  have eT : (T : Int) - 1 = ((T - 1 : Nat) : Int) := by omega
  unfold M_tellRounds_b3
  refine ok_bind (isRun_ok I rm hq7 hd) (fun v hv => ok_ite (fun hv0 => ?_) (fun hv0 => ok_some ⟨g1, g2, g3, g4, g5, g6, g7, fun hq => ?_⟩))
  · have hq : isQ mc day q := by
      rcases hv with hv | hv
      · exact hv.2
      · exact absurd hv.1 hv0
    have len := CI_len I hq.1
    have e6 : m 6 (q % 24) = lenQ mc q := by rw [(rm.2.2.2.2.1 (q % 24) hq.1).2.1]; exact len.1
    rw [tm24, Int.toNat_natCast, e6]
    refine ok_grd (by omega) (ok_ite (fun hk => ok_ltv ?_) (fun hk => ok_some ⟨g1, g2, g3, g4, g5, g6, g7, fun _ c0 c1 h1 h2 h4 => g10 c0 c1 h1 (by omega) h4⟩))
    have hk2 : k < lenQ mc q := by omega
    have cl := CI_call I hq.1 hk2
    refine ok_ite (fun hz => ok_bind (stopIn_ok I rm hq hk2) (fun s hs => ok_bind (comesAt_ok I rm hq7 hd hm hq hk2) (fun t ht => ?_))) (fun hz => ok_ltv (ok_ite (fun hz2 => absurd hz2 hz) (fun _ => ?_)))
    · have hz1 : z = 1 := by
        rcases h3 with h3 | h3
        · exact absurd h3 hz
        · exact h3
      subst hs
      subst ht
      obtain ⟨c0, j1, j2⟩ := g8 hz1
      have pos := qv_lt I hq.1 (day := day) (sh := sh) (mi := mi) j1 hk2
      have ge0 := j2.1
      have rd : RdQ mc day sh mi (-1) (stQ mc q c0) (lvQ mc day sh mi q c0) (stQ mc q k) (arQ mc day sh mi q k) := ⟨q, c0, k, hq7, hq, j1, hk2, rfl, rfl, rfl, rfl, by omega, by omega⟩
      have lA := (g2.1 _ cl.2.1).1
      refine ok_bind (getsOff_ok I rm cl.2.1 (by omega) (by omega) g3) (fun m' hm' => ok_ltv (ok_ite (fun _ => ok_ltv (ok_grd (by unfold InR; omega) (ok_ltv (ok_some ⟨⟨k + 1, by dsimp only; omega, by omega, fun _ => by omega, Or.inr rfl, fun c i a b => ?_, ?_, ?_, ?_, fun h => ?_, fun h => ?_, ?_, fun _ => ⟨c0, by omega, j2⟩, fun h => absurd (show (1 : Int) = 0 from h) (by decide), fun a b ha hb k1 => ?_⟩, by dsimp only; omega⟩)))) (fun q => absurd hz q)))
      all_goals obtain ⟨p1, p2, p3⟩ := hm'
      · dsimp only
        rw [p1 c i a b]
        exact g1 c i a b
      · dsimp only
        rw [p2]
        exact ru_gof g2 j2 rd cl.2.1
      · dsimp only
        rw [p2]
        exact gof_rg g3 (fun v hv => CI_w0 I _ _ cl.2.1 hv) cl.2.1 (by omega)
      · dsimp only
        rw [p3]
        split
        · exact Or.inr rfl
        · exact g4
      · dsimp only at h ⊢
        rw [h] at p3
        by_cases hlt : arQ mc day sh mi q k < m 16 (stQ mc q k)
        · rw [if_pos hlt] at p3
          omega
        · rw [if_neg hlt] at p3
          rw [p2, gof_no hlt]
          exact g5 p3.symm
      · dsimp only at h ⊢
        by_cases hlt : arQ mc day sh mi q k < m 16 (stQ mc q k)
        · refine ⟨stQ mc q k, cl.2.1, ?_⟩
          have lt : arQ mc day sh mi q k < (labM m).1 (stQ mc q k) := hlt
          rw [p2, gof_1, if_pos ⟨rfl, lt⟩]
          omega
        · rw [if_neg hlt, h] at p3
          rw [p2, gof_no hlt]
          exact g6 p3.symm
      · dsimp only
        rw [p2]
        exact leL_tr gof_le g7
      · have le := gof_le1 (N := nC mc) (w := wC mc (-1)) (L := labM m) (s := stQ mc q k) (t := arQ mc day sh mi q k) (stQ mc q b)
        dsimp only
        rw [p2]
        by_cases hbk : b = k
        · rw [hbk]; exact gof_at
        · have := g10 a b ha (by omega) k1
          omega
    · have hz0 : z = 0 := by omega
      rw [e28', eT]
      refine ok_grd (by unfold InR; omega) (ok_bind (stopIn_ok I rm hq hk2) (fun s hs => ok_bind (leavesAt_ok I rm hq7 hd hm hq hk2) (fun t ht => ?_)))
      subst hs
      subst ht
      refine ok_bind (getsOnBy_ok I rm (by omega) cl.2.1 (by rw [hA']; exact rgA)) (fun v hv => ?_)
      rw [hA'] at hv
      refine ok_ite (fun hv0 => ok_ltv (ok_grd (by unfold InR; omega) (ok_ltv (ok_some ⟨⟨k + 1, by dsimp only; omega, by omega, fun _ => by omega, Or.inr rfl, g1, g2, g3, g4, g5, g6, g7, fun _ => ?_, fun q => absurd (show (1 : Int) = 0 from q) (by decide), fun a c1 ha hb k1 => ?_⟩, by dsimp only; omega⟩)))) (fun hv0 => ok_ltv (ok_grd (by unfold InR; omega) (ok_ltv (ok_some ⟨⟨k + 1, by dsimp only; omega, by omega, fun _ => by omega, Or.inl rfl, g1, g2, g3, g4, g5, g6, g7, fun q => absurd (show (0 : Int) = 1 from q) (by decide), fun _ c0 hc0 => ?_, fun a c1 ha hb k1 => ?_⟩, by dsimp only; omega⟩))))
      · rcases hv with hv | hv
        · exact ⟨k, by omega, hv.2⟩
        · exact absurd hv.1 hv0
      · by_cases hbk : c1 = k
        · exact absurd k1 (g9 hz0 a (by omega))
        · exact g10 a c1 ha (by omega) k1
      · by_cases hh : c0 = k
        · rcases hv with hv | hv
          · omega
          · rw [hh]; exact hv.2
        · exact g9 hz0 c0 (by omega)
      · by_cases hbk : c1 = k
        · exact absurd k1 (g9 hz0 a (by omega))
        · exact g10 a c1 ha (by omega) k1
  · rcases hv with hv | hv
    · omega
    · exact absurd hq hv.2
/-- what the reference's rounds leave -/
def RoM (mc : Mem) (day sh mi : Int) (I0 : Lb) (m : Mem) (T : Nat) : Prop := m 0 28 = T ∧ 1 ≤ T ∧ T ≤ 14 ∧ (∀ k : Nat, k < T → RwQ mc day sh mi I0 k (rowM m k) ∧ Rg (nC mc) (rowM m k)) ∧ RndQ mc day sh mi (rowM m (T - 1)) (rowM m (T - 1))
def FrT (m0 m : Mem) : Prop := ∀ c i, ¬ (15 ≤ c ∧ c ≤ 18) → ¬ (c = 0 ∧ (i = 22 ∨ i = 25 ∨ i = 28)) → m c i = m0 c i
theorem tellRounds_ok {a : Nat} {t : Int} (I : CI mc) (hd : 0 ≤ day ∧ day ≤ 27) (hm : -60 ≤ mi ∧ mi ≤ 60) (r : RelM mc day sh mi (-1) (setM mm 0 22 day)) (ha : a < nC mc) (ht : 0 ≤ t ∧ t ≤ 10000) : Ok (M_tellRounds a day t mm) (fun m => FrT mm m ∧ m 0 22 = day ∧ ∃ T : Nat, RoM mc day sh mi (ini (wC mc (-1)) a t) m T) := by
  have n := CI_n I
  have hR := RdQ_N (day := day) (sh := sh) (mi := mi) I
  have ui : WCl (nC mc) (wC mc (-1)) (ini (wC mc (-1)) a t) := (und_ini (g := mc 2) (Rd := RdQ mc day sh mi (-1)) (CI_w0 I) (by omega) eqL_rfl).2.1
  have ri := ini_rg (N := nC mc) (w := wC mc (-1)) (CI_w0 I) ha ht.1 (by omega)
  unfold M_tellRounds
  refine ok_ltv (ok_bind (begin_ok I r ha (by omega)) (fun m1 h1 => ok_ltv (ok_bind (keepRound_ok (T := 0) (by omega) (setM_same _ _ _ _)) (fun m2 h2 => ok_ltv (ok_bq1 (Q := fun m => FrT mm m ∧ m 0 22 = day ∧ ∃ T : Nat, RoM mc day sh mi (ini (wC mc (-1)) a t) m T) ?_ (fun _ h => ok_some h))))))
  have fr2 : ∀ c i, ¬ (15 ≤ c ∧ c ≤ 18) → ¬ (c = 0 ∧ (i = 22 ∨ i = 28)) → m2 c i = mm c i := fun c i h1' h2' => by
    rw [h2.1 c i (by omega) (by omega), setM_ne (by omega), h1.1 c i (by omega), setM_ne (by omega)]
  have d2 : m2 0 22 = day := by rw [h2.1 0 22 (by omega) (by omega), setM_ne (by omega), h1.1 0 22 (by omega), setM_same]
  refine ok_loop (fun m => ∃ T : Nat, m 0 28 = T ∧ 1 ≤ T ∧ T ≤ 14 ∧ FrT mm m ∧ m 0 22 = day ∧ (m 0 25 = 0 ∨ m 0 25 = 1) ∧ (∀ k : Nat, k < T → RwQ mc day sh mi (ini (wC mc (-1)) a t) k (rowM m k) ∧ Rg (nC mc) (rowM m k)) ∧ eqL (nC mc) (labM m) (rowM m (T - 1)) ∧ (m 0 25 = 0 → RndQ mc day sh mi (rowM m (T - 1)) (rowM m (T - 1))) ∧ (m 0 25 = 1 → T ≤ 13)) (fun m => 20 - (m 0 28).toNat) ⟨1, ?_, by omega, by omega, fun c i a1 a2 => ?_, ?_, Or.inr (setM_same _ _ _ _), fun k hk => ?_, ?_, fun h => ?_, fun _ => by omega⟩ ?_
  · rw [setM_ne (by omega)]
    exact h2.2.1
  · rw [setM_ne (by omega)]
    exact fr2 c i a1 (by omega)
  · rw [setM_ne (by omega)]
    exact d2
  · have hk0 : k = 0 := by omega
    subst hk0
    have e : ∀ v, v < nC mc → (rowM (setM m2 0 25 1) 0).1 v = (labM m1).1 v ∧ (rowM (setM m2 0 25 1) 0).2 v = (labM m1).2 v := fun v hv => by
      have := h2.2.2.1 v (by omega)
      unfold rowM labM
      dsimp only
      rw [setM_ne (by omega), setM_ne (by omega)]
      rw [this.1, this.2, setM_ne (by omega), setM_ne (by omega)]
      exact ⟨rfl, rfl⟩
    refine ⟨fun v hv => ?_, fun v hv => ?_⟩
    · have := e v hv; have := h1.2 v hv; omega
    · have := e v hv; have := h1.2 v hv; have := ri v hv; omega
  · intro v hv
    have := h2.2.2.1 v (by omega)
    unfold rowM labM
    dsimp only
    rw [setM_ne (by omega), setM_ne (by omega), setM_ne (by omega), setM_ne (by omega), this.1, this.2, h2.1 16 v (by omega) (by omega), h2.1 15 v (by omega) (by omega)]
    exact ⟨rfl, rfl⟩
  · rw [setM_same] at h
    omega
  · rintro m ⟨T, e1, e2, e3, f1, f2, f3, f4, f5, f6, f7⟩
    have rl : RelM mc day sh mi (-1) m := RelM_fr r (fun c i h => by
      by_cases hh : c = 0 ∧ i = 22
      · rw [hh.1, hh.2, f2, setM_same]
      · rw [f1 c i (by unfold rM at h; omega) (by unfold rM at h; omega), setM_ne (by omega)])
    unfold M_tellRounds_b1
    rw [e1]
    refine ok_ite (fun h => ok_ltv (ok_ltv ?_)) (fun h => ok_some ⟨f1, f2, T, e1, e2, e3, f4, f6 (by omega)⟩)
    have fl1 : m 0 25 = 1 := by omega
    have T13 := f7 fl1
    obtain ⟨m3, hm3⟩ : ∃ m3, m3 = setM m 0 25 0 := ⟨_, rfl⟩
    rw [← hm3]
    have y1 : ∀ c i, ¬ (c = 0 ∧ i = 25) → m3 c i = m c i := fun c i h => by rw [hm3]; exact setM_ne h
    have y2 : m3 0 25 = 0 := by rw [hm3]; exact setM_same _ _ _ _
    have r3 : RelM mc day sh mi (-1) m3 := RelM_fr rl (fun c i h => y1 c i (by unfold rM at h; omega))
    have row3 : ∀ k, rowM m3 k = rowM m k := fun k => by
      unfold rowM
      exact Prod.ext (funext fun v => y1 18 _ (by omega)) (funext fun v => y1 17 _ (by omega))
    have lab3 : labM m3 = labM m := by
      unfold labM
      exact Prod.ext (funext fun v => y1 16 v (by omega)) (funext fun v => y1 15 v (by omega))
    obtain ⟨A, hA⟩ : ∃ A, A = rowM m (T - 1) := ⟨_, rfl⟩
    have wA := f4 (T - 1) (by omega)
    rw [← hA] at wA f5
    have wcA : WCl (nC mc) (wC mc (-1)) A := rw_wc ui wA.1
    have ru3 : RUQ mc day sh mi A (labM m3) := by
      rw [lab3]
      refine ⟨eqL_le f5, fun s v hs hv hn => ?_, fun L' h _ _ => leL_tr h (eqL_le (eqL_sym f5))⟩
      have := wcA s v hs hv hn; have := f5 s hs; have := f5 v hv; omega
    have rg3 : Rg (nC mc) (labM m3) := fun v hv => by
      rw [lab3]
      have := wA.2 v hv; have := f5 v hv; omega
    refine ok_bq2 (Q := fun x => FrG m3 x.2 ∧ RUQ mc day sh mi A (labM x.2) ∧ Rg (nC mc) (labM x.2) ∧ (x.2 0 25 = 0 ∨ x.2 0 25 = 1) ∧ (x.2 0 25 = 0 → eqL (nC mc) (labM x.2) A) ∧ (x.2 0 25 = 1 → Imp (nC mc) (labM x.2) A) ∧ ∀ q : Nat, q < 72 → isQ mc day q → ∀ c0 c1 : Nat, c0 < c1 → c1 < lenQ mc q → can (mc 2) A (stQ mc q c0) (lvQ mc day sh mi q c0) → (labM x.2).1 (stQ mc q c1) ≤ arQ mc day sh mi q c1) (ok_for0 (n := 72) (fun k x => FrG m3 x ∧ RUQ mc day sh mi A (labM x) ∧ Rg (nC mc) (labM x) ∧ (x 0 25 = 0 ∨ x 0 25 = 1) ∧ (x 0 25 = 0 → eqL (nC mc) (labM x) A) ∧ (x 0 25 = 1 → Imp (nC mc) (labM x) A) ∧ ∀ q : Nat, q < k → isQ mc day q → ∀ c0 c1 : Nat, c0 < c1 → c1 < lenQ mc q → can (mc 2) A (stQ mc q c0) (lvQ mc day sh mi q c0) → (labM x).1 (stQ mc q c1) ≤ arQ mc day sh mi q c1) ⟨fun _ _ _ _ => rfl, ru3, rg3, Or.inl y2, fun _ => by rw [lab3]; exact f5, fun h => by omega, fun q h => by omega⟩ ?_ ?_) (fun _ m4 h4 => ?_)
    · rintro k x hk ⟨g1, g2, g3, g4, g5, g6, g7⟩
      unfold M_tellRounds_b2
      refine ok_ite (fun _ => ok_ltv (ok_ltv (ok_bq3 (tellRun_ok (q := k) (T := T) (A := A) I hk hd hm (FrG_rel r3 g1) (by omega) (by rw [g1 0 28 (by omega) (by omega), y1 0 28 (by omega)]; exact e1) ?_ wA.2 g2 g3 g4 g5 g6) (fun _ _ x' hx => ok_grd (by unfold InR; omega) (ok_ltv (ok_some ⟨_, rfl, fun c i a b => ?_, hx.2.1, hx.2.2.1, hx.2.2.2.1, hx.2.2.2.2.1, hx.2.2.2.2.2.1, fun q hqk hiq c0 c1 h1 h2 h3 => ?_⟩)))))) (fun h => by omega)
      · rw [hA, ← row3]
        unfold rowM
        exact Prod.ext (funext fun v => g1 18 _ (by omega) (by omega)) (funext fun v => g1 17 _ (by omega) (by omega))
      · dsimp only at hx ⊢
        rw [hx.1 c i a b]
        exact g1 c i a b
      · dsimp only at hx ⊢
        by_cases hh : q = k
        · rw [hh] at hiq h2 h3 ⊢
          exact hx.2.2.2.2.2.2.2 hiq c0 c1 h1 h2 h3
        · have a := g7 q (by omega) hiq c0 c1 h1 h2 h3
          have b := (hx.2.2.2.2.2.2.1 _ (CI_call I hiq.1 h2).2.1).1
          omega
    · rintro x _
      unfold M_tellRounds_b2
      rw [if_neg (by omega)]
    · dsimp only at h4
      obtain ⟨g1, g2, g3, g4, g5, g6, g7⟩ := h4
      have rnd : RndQ mc day sh mi A (labM m4) := by
        refine ⟨g2, fun s t' s' t'' rd c => ?_⟩
        obtain ⟨q, c0, c1, q1, q2, q3, q4, q5, q6, q7, q8, -, -⟩ := rd
        rw [q5, q6] at c
        rw [q7, q8]
        exact g7 q q1 q2 c0 c1 q3 q4 c
      have e4 : m4 0 28 = T := by rw [g1 0 28 (by omega) (by omega), y1 0 28 (by omega)]; exact e1
      refine ok_bind (keepRound_ok (T := T) (by omega) e4) (fun m5 h5 => ok_some ⟨⟨T + 1, h5.2.1, by omega, by omega, fun c i a b => ?_, ?_, ?_, fun k hk => ?_, fun v hv => ?_, fun hz => ?_, fun hz => ?_⟩, ?_⟩)
      · rw [h5.1 c i (by omega) (by omega), g1 c i (by omega) (by omega), y1 c i (by omega)]
        exact f1 c i a b
      · rw [h5.1 0 22 (by omega) (by omega), g1 0 22 (by omega) (by omega), y1 0 22 (by omega)]
        exact f2
      · rw [h5.1 0 25 (by omega) (by omega)]
        exact g4
      · by_cases hkT : k = T
        · rw [hkT]
          have e : eqL (nC mc) (labM m4) (rowM m5 T) := fun v hv => by
            have := h5.2.2.1 v (by omega)
            unfold rowM labM
            dsimp only
            rw [this.1, this.2]
            exact ⟨rfl, rfl⟩
          have hTT : T = (T - 1) + 1 := by omega
          refine ⟨?_, fun v hv => by have := e v hv; have := g3 v hv; omega⟩
          rw [hTT]
          exact ⟨A, wA.1, by rw [← hTT]; exact rnd_congr hR rnd eqL_rfl e⟩
        · have e : eqL (nC mc) (rowM m k) (rowM m5 k) := fun v hv => by
            have := h5.2.2.2 (12 * k + v) (by omega)
            unfold rowM
            dsimp only
            rw [this.1, this.2, g1 18 _ (by omega) (by omega), g1 17 _ (by omega) (by omega), y1 18 _ (by omega), y1 17 _ (by omega)]
            exact ⟨rfl, rfl⟩
          have := f4 k (by omega)
          exact ⟨rw_congr hR this.1 e, fun v hv => by have := e v hv; have := this.2; have := (f4 k (by omega)).2 v hv; omega⟩
      · have := h5.2.2.1 v (by omega)
        unfold rowM labM
        dsimp only
        rw [show T + 1 - 1 = T by omega, this.1, this.2, h5.1 16 v (by omega) (by omega), h5.1 15 v (by omega) (by omega)]
        exact ⟨rfl, rfl⟩
      · rw [h5.1 0 25 (by omega) (by omega)] at hz
        have e : eqL (nC mc) (labM m4) (rowM m5 T) := fun v hv => by
          have := h5.2.2.1 v (by omega)
          unfold rowM labM
          dsimp only
          rw [this.1, this.2]
          exact ⟨rfl, rfl⟩
        rw [show T + 1 - 1 = T by omega]
        have e2 := g5 hz
        exact rnd_congr hR rnd (fun v hv => by have := e v hv; have := e2 v hv; omega) e
      · rw [h5.1 0 25 (by omega) (by omega)] at hz
        obtain ⟨s, s1, s2⟩ := g6 hz
        obtain ⟨s0, t0, t1, r1, c1, e5⟩ := rode_why hR rnd s1 s2
        have := chain_N ui (CI_w0 I) (fun x hx => (CI_g I hx).1) (fun s t s' t' r => RdQ_st I r) wA.1 r1 c1 (by omega)
        omega
      · rw [h5.2.1]
        omega
end RM
