/-! ===== earliestByQueue ===== -/
section QUEUE2
variable {mc m m0 : Mem} {day sh mi : Int}
/-- the minutes of changing behind a place -/
def pauP (mc : Mem) (x : Nat) : Int := if x < 12 then 0 else mc 2 (x % 12)
theorem goOn_ok {a : Nat} {t : Int} (I : CI mc) (hm : -60 ≤ mi ∧ mi ≤ 60) (C : Ctx mc day sh mi (-1) m0) (ha : a < nC mc) (ht : 0 ≤ t ∧ t ≤ 10000) : Ok (C_Search_goOnFromNearest a t m0) (fun m => (∀ c i, ¬ (c = 349 ∨ c = 353 ∨ c = 354) → m c i = m0 c i) ∧ BestQ mc day sh mi (-1) (ini (wC mc (-1)) a t) (labC 352 m) ∧ Rg (nC mc) (labC 352 m)) := by
  have n := CI_n I
  unfold C_Search_goOnFromNearest
  refine ok_bind (beginC_ok (x := 352) I (by omega) (CtL_of I C.1 C.2.1) ha (by omega)) (fun m1 h1 => ok_ltv (ok_bq2 (Q := fun (x : Int × Mem) => (∀ c i, ¬ c = 349 → x.2 c i = m1 c i) ∧ ∀ p : Nat, p < 24 → x.2 349 p = 0) (ok_for0 (n := 24) (fun k m => (∀ c i, ¬ c = 349 → m c i = m1 c i) ∧ ∀ p : Nat, p < k → m 349 p = 0) ⟨fun _ _ _ => rfl, fun p hp => by omega⟩ ?_ ?_) (fun _ m2 h2 => ok_ltv ?_)))
  · rintro k m hk ⟨f1, f2⟩
    unfold C_Search_goOnFromNearest_b1
    refine ok_ite (fun _ => ok_grd (by omega) (ok_ltv (ok_grd (by unfold InR; omega) (ok_ltv (ok_some ⟨_, rfl, fun c i hc => ?_, fun p hp => ?_⟩))))) (fun h => by omega)
    · rw [setM_ne (by omega)]
      exact f1 c i hc
    · by_cases hh : p = k
      · simp (disch := omega) only [setM_ne, setM_hit, true_and, and_true]
      · simp (disch := omega) only [setM_ne, setM_hit, true_and, and_true]
        exact f2 p (by omega)
  · rintro m _
    unfold C_Search_goOnFromNearest_b1
    rw [if_neg (by omega)]
  · dsimp only at h2
    have lab2 : labC 352 m2 = labC 352 m1 := by
      unfold labC
      rw [show m2 (352 + 1) = m1 (352 + 1) from funext fun i => h2.1 _ i (by omega), show m2 (352 + 2) = m1 (352 + 2) from funext fun i => h2.1 _ i (by omega)]
    have f2 : ∀ c i, ¬ (c = 349 ∨ c = 353 ∨ c = 354) → m2 c i = m0 c i := fun c i h => by rw [h2.1 c i (by omega)]; exact h1.1 c i (by omega)
    have ri := ini_rg (N := nC mc) (w := wC mc (-1)) (CI_w0 I) ha ht.1 (by omega)
    have rg2 : Rg (nC mc) (labC 352 m2) := fun v hv => by
      have p := h1.2 v hv
      have q := ri v hv
      rw [lab2]
      omega
    have u2 : UndQ mc day sh mi (-1) (ini (wC mc (-1)) a t) (labC 352 m2) := by
      rw [lab2]
      exact und_ini (CI_w0 I) (by omega) h1.2
    -- what holds at each step
    refine ok_br2 (Q := fun r => match r with
      | .inl x => (∀ c i, ¬ (c = 349 ∨ c = 353 ∨ c = 354) → x.2 c i = m0 c i) ∧ BestQ mc day sh mi (-1) (ini (wC mc (-1)) a t) (labC 352 x.2) ∧ Rg (nC mc) (labC 352 x.2)
      | .inr m => (∀ c i, ¬ (c = 349 ∨ c = 353 ∨ c = 354) → m c i = m0 c i) ∧ BestQ mc day sh mi (-1) (ini (wC mc (-1)) a t) (labC 352 m) ∧ Rg (nC mc) (labC 352 m)) ?_ (fun _ m h => ok_some h) (fun m h => ok_some h)
    refine ok_loop (fun x => ∃ k : Nat, x.1 = k ∧ k ≤ 24 ∧ (∀ c i, ¬ (c = 349 ∨ c = 353 ∨ c = 354) → x.2 c i = m0 c i) ∧ UndQ mc day sh mi (-1) (ini (wC mc (-1)) a t) (labC 352 x.2) ∧ Rg (nC mc) (labC 352 x.2) ∧ (∀ p : Nat, p < 24 → x.2 349 p = 0 ∨ x.2 349 p = 1) ∧ muN (x.2 349) 24 = k ∧ (∀ p : Nat, p < 24 → x.2 349 p = 1 → p % 12 < nC mc ∧ (∀ p' : Nat, p' < 24 → p' % 12 < nC mc → x.2 349 p' = 0 → keyP x.2 p ≤ keyP x.2 p') ∧ ∀ q : Nat, q < 72 → isQ mc day q → Rlx mc day sh mi (p % 12) (keyP x.2 p + pauP mc p) (labC 352 x.2) q)) (fun x => 24 - x.1.toNat) ⟨0, rfl, Nat.zero_le _, f2, u2, rg2, fun p hp => Or.inl (h2.2 p hp), muN_zero h2.2, fun p hp h => by have := h2.2 p hp; dsimp only at h; omega⟩ ?_
    -- all places are left: closed
    have fin : ∀ m : Mem, UndQ mc day sh mi (-1) (ini (wC mc (-1)) a t) (labC 352 m) → (∀ p : Nat, p < 24 → p % 12 < nC mc → keyP m p < 1000000 → m 349 p = 1) → (∀ p : Nat, p < 24 → m 349 p = 1 → ∀ q : Nat, q < 72 → isQ mc day q → Rlx mc day sh mi (p % 12) (keyP m p + pauP mc p) (labC 352 m) q) → BestQ mc day sh mi (-1) (ini (wC mc (-1)) a t) (labC 352 m) := by
      intro m u hall hrel
      refine best_of u (fun q hq hiq c c' a1 a2 a3 a4 a5 => ?_)
      have cl := CI_call I hiq.1 (c := c) (by omega)
      have lb := qv_bd (day := day) (sh := sh) I hiq.1 hq hm (c := c) (by omega)
      have gb := CI_g I cl.2.1
      obtain ⟨z1, z2⟩ := a5
      rcases z2 with z2 | z2
      · have ek : keyP m (stQ mc q c) = (labC 352 m).2 (stQ mc q c) := by unfold keyP; rw [if_pos (by omega)]; rfl
        have hp := hall (stQ mc q c) (by omega) (by omega) (by omega)
        have := hrel (stQ mc q c) (by omega) hp q hq hiq c c' a1 a2 (by omega)
        refine this ?_
        unfold pauP
        rw [if_pos (by omega)]
        omega
      · have ek : keyP m (12 + stQ mc q c) = (labC 352 m).1 (stQ mc q c) := by
          unfold keyP
          rw [if_neg (by omega), show 12 + stQ mc q c - 12 = stQ mc q c by omega]
          rfl
        have em : (12 + stQ mc q c) % 12 = stQ mc q c := by omega
        have hp := hall (12 + stQ mc q c) (by omega) (by omega) (by omega)
        have := hrel (12 + stQ mc q c) (by omega) hp q hq hiq c c' a1 a2 (by omega)
        refine this ?_
        unfold pauP
        rw [if_neg (by omega), em]
        omega
    rintro ⟨s, m⟩ ⟨k, e1, e2, g1, g2, g3, g4, g5, g6⟩
    dsimp only at e1 g1 g2 g3 g4 g5 g6 ⊢
    subst e1
    have Cm : Ctx mc day sh mi (-1) m := Ctx_fr I C (fun c i h => g1 c i (by unfold cX pC at h; omega))
    have Lm : CtL mc (-1) m := CtL_of I Cm.1 Cm.2.1
    unfold C_Search_goOnFromNearest_b2
    refine ok_ite (fun hk => ok_bind (nearest_ok (n := nC mc) Lm.1 n.2) (fun r hr => ok_ltv (ok_ite (fun h0 => ok_some ?_) (fun h0 => ?_)))) (fun hk => ok_some ?_)
    · have hr2 : ∀ x : Nat, x < 24 → x % 12 < nC mc → m 349 x = 0 → 1000000 ≤ keyP m x := by
        rcases hr with hr | ⟨x, e, -⟩
        · exact hr.2
        · omega
      refine ⟨g1, fin m g2 (fun p p1 p2 p3 => ?_) (fun p p1 p2 => (g6 p p1 p2).2.2), g3⟩
      rcases g4 p p1 with y | y
      · have := hr2 p p1 p2 y
        omega
      · exact y
    · obtain ⟨x, ex, x1, x2, x3, x4, x5⟩ : ∃ x : Nat, r = x ∧ x < 24 ∧ x % 12 < nC mc ∧ m 349 x = 0 ∧ keyP m x < 1000000 ∧ ∀ y : Nat, y < 24 → y % 12 < nC mc → m 349 y = 0 → keyP m x ≤ keyP m y := by
        rcases hr with hr | hr
        · exact absurd hr.1 h0
        · exact hr
      subst ex
      refine ok_grd (by omega) (ok_ltv (ok_ltv ?_))
      rw [tm12]
      simp only [Int.toNat_natCast]
      refine ok_grd (by omega) (ok_ltv ?_)
      obtain ⟨m3, hm3⟩ : ∃ m3, m3 = setM m 349 x 1 := ⟨_, rfl⟩
      rw [← hm3]
      have y1 : ∀ c i, ¬ (c = 349 ∧ i = x) → m3 c i = m c i := fun c i h => by rw [hm3]; exact setM_ne h
      have y2 : m3 349 x = 1 := by rw [hm3]; exact setM_same _ _ _ _
      have lab3 : labC 352 m3 = labC 352 m := by
        unfold labC
        rw [show m3 (352 + 1) = m (352 + 1) from funext fun i => y1 _ i (by omega), show m3 (352 + 2) = m (352 + 2) from funext fun i => y1 _ i (by omega)]
      have key3 : ∀ p, keyP m3 p = keyP m p := fun p => by
        unfold keyP
        rw [y1 354 p (by omega), y1 353 _ (by omega)]
      have C3 : Ctx mc day sh mi (-1) m3 := Ctx_fr I Cm (fun c i h => y1 c i (by unfold cX pC at h; omega))
      have epau : (if (x : Int) < 12 then 0 else m3 2 (x % 12)) = pauP mc x := by
        unfold pauP
        by_cases hx : x < 12
        · rw [if_pos hx, if_pos (by omega)]
        · rw [if_neg hx, if_neg (by omega), y1 _ _ (by omega)]
          exact Lm.2.1 _ x2
      rw [epau]
      have pb : 0 ≤ pauP mc x ∧ pauP mc x ≤ 30 := by
        unfold pauP
        split
        · omega
        · exact CI_g I x2
      have kb : 0 ≤ keyP m x := by
        unfold keyP
        by_cases hx : x < 12
        · rw [if_pos hx]
          have := g3 x (by omega)
          exact this.2.2.1
        · rw [if_neg hx]
          have := g3 (x - 12) (by omega)
          exact this.1
      refine ok_bind (minuteAt_ok x1) (fun v hv => ?_)
      rw [key3] at hv
      subst hv
      have jus : ∀ t', keyP m x + pauP mc x ≤ t' → Jus (nC mc) (mc 2) (wC mc (-1)) (RdQ mc day sh mi (-1)) (ini (wC mc (-1)) a t) (x % 12) t' := by
        intro t' ht'
        refine und_jus g2 x2 ⟨by omega, ?_⟩
        unfold keyP pauP at ht'
        by_cases hx : x < 12
        · rw [if_pos hx, if_pos hx] at ht'
          refine Or.inl ?_
          rw [show x % 12 = x by omega]
          show m 354 x ≤ t'
          omega
        · rw [if_neg hx, if_neg hx] at ht'
          refine Or.inr ?_
          rw [show x % 12 = x - 12 by omega] at ht' ⊢
          exact ht'
      refine ok_grd (by unfold InR; omega) (ok_bind (getOnAll_ok I hm C3 (by rw [lab3]; exact g2) (by rw [lab3]; exact g3) (by omega) jus) (fun m4 h4 => ok_grd (by unfold InR; omega) (ok_ltv (ok_some ⟨⟨k + 1, by dsimp only; omega, by omega, fun c i h => ?_, h4.2.1, h4.2.2.1, fun p hp => ?_, ?_, fun p hp h => ?_⟩, by dsimp only; omega⟩))))
      · dsimp only
        rw [h4.1 c i (by omega), y1 c i (by omega)]
        exact g1 c i h
      · dsimp only
        rw [h4.1 349 p (by omega)]
        by_cases hpx : p = x
        · rw [hpx]; exact Or.inr y2
        · rw [y1 349 p (by omega)]
          exact g4 p hp
      · dsimp only
        rw [show m4 349 = m3 349 from funext fun i => h4.1 349 i (by omega), muN_set x1 (fun k _ hk => y1 349 k (by omega)) x3 y2, g5]
      · dsimp only at h ⊢
        rw [h4.1 349 p (by omega)] at h
        have h4fl : ∀ p', m4 349 p' = m3 349 p' := fun p' => h4.1 349 p' (by omega)
        have h4eq : m4 349 x = 1 := by rw [h4fl]; exact y2
        obtain ⟨-, -, -, w4, w5, w6⟩ := h4
        rw [lab3] at w4 w5
        -- keys of places that are left stand
        have mono : ∀ p' : Nat, p' < 24 → p' % 12 < nC mc → keyP m4 p' ≤ keyP m p' ∧ (keyP m4 p' = keyP m p' ∨ keyP m x + pauP mc x < keyP m4 p') := by
          intro p' h1 h2
          unfold keyP
          by_cases hp' : p' < 12
          · rw [if_pos hp', if_pos hp']
            have a := w4 p' (by omega)
            have b := w5 p' (by omega)
            unfold keyP at b
            exact ⟨a.2, b.2⟩
          · rw [if_neg hp', if_neg hp']
            have a := w4 (p' - 12) (by omega)
            have b := w5 (p' - 12) (by omega)
            unfold keyP at b
            exact ⟨a.1, b.1⟩
        by_cases hpx : p = x
        · subst hpx
          have mp := mono p hp x2
          have kp : keyP m4 p = keyP m p := by omega
          refine ⟨x2, fun p' h1 h2 h3 => ?_, ?_⟩
          · have hne : p' ≠ p := fun q => by
              rw [q, h4eq] at h3
              omega
            rw [h4fl p', y1 349 p' (by omega)] at h3
            have := x5 p' h1 h2 h3
            have mp' := mono p' h1 h2
            omega
          · rw [kp]
            exact w6
        · rw [y1 349 p (by omega)] at h
          have gp := g6 p hp h
          have mp := mono p hp gp.1
          have old := gp.2.1 x x1 x2 x3
          have kp : keyP m4 p = keyP m p := by omega
          refine ⟨gp.1, fun p' h1 h2 h3 => ?_, fun q hq hiq c c' c1 c2 c3 c4 => ?_⟩
          · have mp' := mono p' h1 h2
            by_cases hp' : p' = x
            · rw [hp'] at mp' ⊢
              omega
            · rw [h4fl p', y1 349 p' (by omega)] at h3
              have := gp.2.1 p' h1 h2 h3
              omega
          · rw [kp] at c4
            have a := gp.2.2 q hq hiq c c' c1 c2 c3 c4
            have b := (w4 _ (CI_call I hiq.1 c2).2.1).1
            omega
    · have hk24 : k = 24 := by omega
      rw [hk24] at g5
      have all := (muN_full g4).2 g5
      exact ⟨g1, fin m g2 (fun p p1 _ _ => all p p1) (fun p p1 p2 => (g6 p p1 p2).2.2), g3⟩
theorem st_earliestByQueue : ST_earliestByQueue Inv := by
  intro mc mm p0 p1 p2 p3 I _ _ _ _
  have e : M_earliestByQueue p0 p1 p2 p3 mm = M_earliest p0 p1 p2 p3 mm := by
    unfold M_earliestByQueue
    cases M_earliest p0 p1 p2 p3 mm <;> rfl
  rw [e]
  refine ag_ear (rc := fun m_ => (C_Net_lay p2 (-1) 0 m_).bind fun m_2 => (C_Search_goOnFromNearest p0 p3 m_2).bind fun m_3 => (C_Labels_at 352 p1 m_3).bind fun r_ => (C_needFound r_ m_3).bind fun q18 => tbd q18 fun _ m_4 => (C_Labels_at 352 p1 m_4).bind fun r_2 => some (.inl r_2, m_4)) I (fun a b ea eb ha hb h5 h6 h7 h8 => ?_)
  have CI0 : CI mc := ⟨_, I⟩
  have n := CI_n CI0
  subst ea
  subst eb
  refine ok_bind (lay_ok (sh := -1) (mi := 0) CI0 ⟨h5, h6⟩ (by omega) (Ctx_self I)) (fun m1 l => ?_)
  refine ok_bind (goOn_ok (a := a) (t := p3) CI0 (by omega) ⟨l.2.1, l.2.2.1, l.2.2.2⟩ ha (by omega)) (fun m2 s => ?_)
  refine ok_bind (atC_ok (s := b) (by omega)) (fun v hv => ?_)
  have C2 : Ctx mc p2 (-1) 0 (-1) m2 := Ctx_fr CI0 ⟨l.2.1, l.2.2.1, l.2.2.2⟩ (fun c i h => s.1 c i (by unfold cX pC at h; omega))
  refine ag_found (fun r r1 r2 => ?_) (s := b) (x := 352) (by omega) hv
  rw [hv] at r1 r2
  exact ⟨m2, labC 352 m2, C2.1, C2.2.1.1, s.2.1, r1, r2⟩
end QUEUE2
