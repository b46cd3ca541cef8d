/-! ===== chain ===== -/
section STCH
variable {mc mm m m0 : Mem} {day : Int}
theorem exM_rnd {sh mi : Int} {I0 : Lb} {T : Nat} (I : CI mc) (h : RoM mc day sh mi I0 m T) (k : Nat) : RndQ mc day sh mi (exM m T k) (exM m T (k + 1)) := by
  obtain ⟨A, a1, a2⟩ := exM_rw I h (k + 1)
  exact rnd_congr (RdQ_N I) a2 (rw_uniq (RdQ_N I) a1 (exM_rw I h k)) eqL_rfl
theorem exM_rg {sh mi : Int} {I0 : Lb} {T : Nat} (h : RoM mc day sh mi I0 m T) (k : Nat) : Rg (nC mc) (exM m T k) := by
  obtain ⟨h1, h2, h3, h4, h5⟩ := h
  exact (h4 (min k (T - 1)) (by omega)).2
theorem exM_wc {sh mi : Int} {a : Nat} {t : Int} {T : Nat} (I : CI mc) (ht : t ≤ 1000000) (h : RoM mc day sh mi (ini (wC mc (-1)) a t) m T) (k : Nat) : WCl (nC mc) (wC mc (-1)) (exM m T k) := rw_wc (und_ini (g := mc 2) (Rd := RdQ mc day sh mi (-1)) (CI_w0 I) ht eqL_rfl).2.1 (exM_rw I h k)
theorem exM_mono {sh mi : Int} {I0 : Lb} {T : Nat} (I : CI mc) (h : RoM mc day sh mi I0 m T) (k : Nat) {b : Nat} (hb : b < nC mc) : aR (exM m T (k + 1)) b ≤ aR (exM m T k) b := by
  obtain ⟨A, a1, a2⟩ := exM_rw I h (k + 1)
  have e := rw_uniq (RdQ_N I) a1 (exM_rw I h k) b hb
  have l := a2.1.1 b hb
  unfold aR
  omega
def FrZ (m0 m : Mem) : Prop := ∀ c i, ¬ (19 ≤ c ∧ c ≤ 21) → m c i = m0 c i
theorem chainM_ok {a T b K : Nat} {t : Int} (I : CI mc) (hd : 0 ≤ day ∧ day ≤ 27) (r : RelM mc day (-1) 0 (-1) m0) (ht : t ≤ 1000000) (h : RoM mc day (-1) 0 (ini (wC mc (-1)) a t) m0 T) (hb : b < nC mc) (hK : K ≤ T - 1) (k1 : aR (exM m0 T K) b ≤ aR (exM m0 T (T - 1)) b) (k2 : ∀ j : Nat, j < K → aR (exM m0 T (T - 1)) b < aR (exM m0 T j) b) : Ok (loop (fun s => M_chain_b2 s.1 s.2.1 s.2.2.1 s.2.2.2.1 s.2.2.2.2) (aR (exM m0 T (T - 1)) b, (b : Int), 1, (K : Int) - 1, m0)) (fun x => FrZ m0 x.2.2.2.2 ∧ ∃ Q On Of : Nat → Nat, Seq mc day (exM m0 T) K b (aR (exM m0 T (T - 1)) b) 0 Q On Of ∧ ∀ j : Nat, j < K → x.2.2.2.2 19 j = Q j ∧ x.2.2.2.2 20 j = On j ∧ x.2.2.2.2 21 j = Of j) := by
  have n := CI_n I
  obtain ⟨h1, h2, h3, h4, h5⟩ := id h
  have rows : ∀ m, FrZ m0 m → ∀ j, rowM m j = rowM m0 j := fun m f j => by
    unfold rowM
    exact Prod.ext (funext fun v => f 18 _ (by omega)) (funext fun v => f 17 _ (by omega))
  refine ok_loop (fun x => ∃ (k s : Nat), x.2.2.2.1 = (k : Int) - 1 ∧ k ≤ K ∧ x.2.1 = s ∧ s < nC mc ∧ rch (exM m0 T k) s x.1 (if ¬ x.2.2.1 = 0 then 0 else mc 2 s) ∧ (1 ≤ k → ¬ rch (exM m0 T (k - 1)) s x.1 (if ¬ x.2.2.1 = 0 then 0 else mc 2 s)) ∧ FrZ m0 x.2.2.2.2 ∧ ∃ (Qr Or Fr : Nat → Nat), (∀ j : Nat, k ≤ j → j < K → x.2.2.2.2 19 j = Qr j ∧ x.2.2.2.2 20 j = Or j ∧ x.2.2.2.2 21 j = Fr j) ∧ ∀ (Q On Of : Nat → Nat), (∀ j : Nat, k ≤ j → j < K → Q j = Qr j ∧ On j = Or j ∧ Of j = Fr j) → Seq mc day (exM m0 T) k s x.1 (if ¬ x.2.2.1 = 0 then 0 else mc 2 s) Q On Of → Seq mc day (exM m0 T) K b (aR (exM m0 T (T - 1)) b) 0 Q On Of) (fun x => (x.2.2.2.1 + 1).toNat) ⟨K, b, rfl, Nat.le_refl _, rfl, hb, ?_, fun hk => ?_, fun _ _ _ => rfl, fun _ => 0, fun _ => 0, fun _ => 0, fun j h1 h2 => by omega, fun Q On Of _ h => h⟩ ?_
  · dsimp only
    rw [if_pos (by decide)]
    unfold rch
    unfold aR at k1 ⊢
    omega
  · have a1 := k2 (K - 1) (by omega)
    dsimp only
    rw [if_pos (by decide)]
    unfold rch
    unfold aR at a1 ⊢
    omega
  · rintro ⟨by1, x1, ie, x4, m⟩ ⟨k, s, e1, e2, e3, e5, e7, e8, f, Qr, Or, Fr, g1, g2⟩
    dsimp only at e1 e3 e7 e8 f g1 g2 ⊢
    subst e1
    subst e3
    unfold M_chain_b2
    refine ok_ite (fun hk => ?_) (fun hk => ok_some ⟨f, Qr, Or, Fr, g2 Qr Or Fr (fun j _ _ => ⟨rfl, rfl, rfl⟩) ?_, fun j hj => g1 j (by omega) hj⟩)
    · obtain ⟨k', rfl⟩ : ∃ k', k = k' + 1 := ⟨k - 1, by omega⟩
      have ek : ((k' + 1 : Nat) : Int) - 1 = (k' : Int) := by omega
      rw [ek]
      have nr : ¬ rch (exM m0 T k') s by1 (if ¬ ie = 0 then 0 else mc 2 s) := by have := e8 (by omega); rw [Nat.add_sub_cancel] at this; exact this
      obtain ⟨q, on, off, ch⟩ := ChR_is (ride_is I e5 (exM_wc I ht h k') (exM_rg h k') (exM_rnd I h k') e7 nr)
      have rl : RelM mc day (-1) 0 (-1) m := RelM_fr r (fun c i hh => f c i (by unfold rM at hh; omega))
      have eA : rowM m k' = exM m0 T k' := by
        rw [rows m f]
        unfold exM
        rw [Nat.min_eq_left (by omega)]
      refine ok_bind (findRideM_ok (q := q) (on := on) (off := off) I hd rl (by omega) e5 eA (exM_rg h k') rfl ch) (fun m6 h6 => ?_)
      obtain ⟨y1, y2, y3, y4⟩ := h6
      have f6 : FrZ m0 m6 := fun c i hh => by rw [y1 c i (by omega)]; exact f c i hh
      have rl6 : RelM mc day (-1) 0 (-1) m6 := RelM_fr r (fun c i hh => f6 c i (by unfold rM at hh; omega))
      rw [Int.toNat_natCast, y2, y3]
      have onl : on < lenQ mc q := by have := ch.2.2.1.1; have := ch.2.2.2.2.2.1; omega
      have cl := CI_call I ch.2.1.1 onl
      refine ok_grd (by omega) (ok_bind (stopIn_ok I rl6 ch.2.1 onl) (fun s' hs' => ok_ltv (ok_bind (leavesAt_ok I rl6 ch.1 hd (by omega) ch.2.1 onl) (fun t' ht' => ok_ltv (ok_ltv (ok_grd (by unfold InR; omega) (ok_ltv (ok_some ?_))))))))
      subst hs'
      subst ht'
      have recs : ∀ j : Nat, k' ≤ j → j < K → m6 19 j = ((if j = k' then q else Qr j : Nat) : Int) ∧ m6 20 j = ((if j = k' then on else Or j : Nat) : Int) ∧ m6 21 j = ((if j = k' then off else Fr j : Nat) : Int) := fun j h1 h2 => by
        by_cases hj : j = k'
        · subst hj
          rw [if_pos rfl, if_pos rfl, if_pos rfl]
          exact ⟨y2, y3, y4⟩
        · rw [if_neg hj, if_neg hj, if_neg hj, y1 19 j (by omega), y1 20 j (by omega), y1 21 j (by omega)]
          exact g1 j (by omega) h2
      have cn := ch.2.2.2.2.2.2.1.2
      refine ⟨⟨k', stQ mc q on, rfl, by omega, rfl, cl.2.1, ?_, fun hk1 => ?_, f6, fun j => if j = k' then q else Qr j, fun j => if j = k' then on else Or j, fun j => if j = k' then off else Fr j, recs, fun Q On Of hag hs => ?_⟩, ?_⟩
      · dsimp only
        rw [if_neg (by decide)]
        exact cn
      · dsimp only
        rw [if_neg (by decide)]
        obtain ⟨k2, rfl⟩ : ∃ k2, k' = k2 + 1 := ⟨k' - 1, by omega⟩
        exact (ChR_next I e5 ch (exM_rnd I h k2) nr).2.2
      · have ak := hag k' (Nat.le_refl _) (by omega)
        dsimp only at ak hs
        rw [if_pos rfl, if_pos rfl, if_pos rfl] at ak
        rw [if_neg (by decide)] at hs
        refine g2 Q On Of (fun j h1 h2 => ?_) ⟨?_, ?_⟩
        · have := hag j (by omega) h2
          dsimp only at this
          rw [if_neg (by omega), if_neg (by omega), if_neg (by omega)] at this
          exact this
        · rw [ak.1, ak.2.1, ak.2.2]
          exact ch
        · rw [ak.1, ak.2.1]
          exact hs
      · (try dsimp only)
        omega
    · have : k = 0 := by omega
      rw [this]
      exact trivial
theorem st_chain : ST_chain Inv := by
  intro mc mm p0 p1 p2 p3 I _ _ _ _
  refine ag_ask (exs := [2, 0, 5]) (rc := fun m_ => (C_Net_lay p2 (-1) 0 m_).bind fun m_2 => (C_Rounds_fill p0 p3 m_2).bind fun m_3 => (C_Rounds_least p1 m_3).bind fun r_ => (C_needFound r_ m_3).bind fun q18 => tbd q18 fun _ m_4 => (C_Rounds_keepChain p1 m_4).bind fun m_5 => some (.inl (m_5 355 4), m_5)) (rm := fun m_ => (M_tellRounds p0 p2 p3 m_).bind fun m_2 => grd (InR (m_2 0 28 - 1)) <| (M_atBy (m_2 0 28 - 1) p1 m_2).bind fun r_2 => ltv (r_2 : Int) fun time_ => bq2 (M_isThrown (if 1000000 ≤ time_ then 1 else 0) 3 m_2) fun r_3 m_3 => if ¬ r_3 = 0 then some (0, m_3) else ltv (0 : Int) fun many_ => bq1 (loop (fun s => M_chain_b1 p1 time_ m_3 s) many_) fun many_4 => ltv (setM m_3 0 29 many_4) fun m_4 => ltv (p1 : Int) fun stop_ => ltv (1 : Int) fun isEnd_ => grd (InR (many_4 - 1)) <| ltv (many_4 - 1 : Int) fun k_ => bq5 (loop (fun s => M_chain_b2 s.1 s.2.1 s.2.2.1 s.2.2.2.1 s.2.2.2.2) (time_, stop_, isEnd_, k_, m_4)) fun time_4 stop_4 isEnd_4 k_4 m_7 => some (m_7 0 29, m_7)) I (by decide) (fun h1 h2 h3 h4 h5 h6 h7 h8 mm' J e0 => ?_)
  have CI0 : CI mc := ⟨_, I⟩
  have n := CI_n CI0
  obtain ⟨a, rfl⟩ : ∃ a : Nat, p0 = a := ⟨p0.toNat, by omega⟩
  obtain ⟨b, rfl⟩ : ∃ b : Nat, p1 = b := ⟨p1.toNat, by omega⟩
  refine ok_bind (lay_ok (sh := -1) (mi := 0) CI0 ⟨h5, h6⟩ (by omega) (Ctx_self I)) (fun m1 l => ?_)
  refine ok_bind (fill_ok (a := a) (t := p3) CI0 (by omega) ⟨l.2.1, l.2.2.1, l.2.2.2⟩ (by omega) (by omega)) (fun m2 s => ?_)
  obtain ⟨s1, last, ro⟩ := s
  have ll := ro.2.1
  have C2 : Ctx mc p2 (-1) 0 (-1) m2 := Ctx_fr CI0 ⟨l.2.1, l.2.2.1, l.2.2.2⟩ (fun c i h => s1 c i (by unfold cX pC at h; omega) (by unfold cX pC at h; omega))
  have least : Ok (C_Rounds_least b m2) (fun v => v = aR (exC m2 last last) b) := by
    unfold C_Rounds_least
    rw [ro.1, Int.toNat_natCast]
    refine ok_grd (by omega) (ok_bind (atC_ok (s := b) (by omega)) (fun v hv => ok_some ?_))
    rw [hv]
    unfold exC
    rw [Nat.min_self]
    rfl
  refine ok_bind least (fun v hv => ?_)
  subst hv
  -- the reference's head
  have mh : ∀ P : Int × Mem → Prop, (∀ (mm2 : Mem) (T : Nat), FrT mm' mm2 → RelM mc p2 (-1) 0 (-1) mm2 → RoM mc p2 (-1) 0 (ini (wC mc (-1)) a p3) mm2 T → aR (exM mm2 T (T - 1)) b = aR (exC m2 last last) b → Ok (bq2 (M_isThrown (if 1000000 ≤ aR (exM mm2 T (T - 1)) b then 1 else 0) 3 mm2) fun r_3 m_3 => if ¬ r_3 = 0 then some (0, m_3) else ltv (0 : Int) fun many_ => bq1 (loop (fun s => M_chain_b1 b (aR (exM mm2 T (T - 1)) b) m_3 s) many_) fun many_4 => ltv (setM m_3 0 29 many_4) fun m_4 => ltv ((b : Int) : Int) fun stop_ => ltv (1 : Int) fun isEnd_ => grd (InR (many_4 - 1)) <| ltv (many_4 - 1 : Int) fun k_ => bq5 (loop (fun s => M_chain_b2 s.1 s.2.1 s.2.2.1 s.2.2.2.1 s.2.2.2.2) (aR (exM mm2 T (T - 1)) b, stop_, isEnd_, k_, m_4)) fun time_4 stop_4 isEnd_4 k_4 m_7 => some (m_7 0 29, m_7)) P) → Ok ((M_tellRounds a p2 p3 mm').bind fun m_2 => grd (InR (m_2 0 28 - 1)) <| (M_atBy (m_2 0 28 - 1) b m_2).bind fun r_2 => ltv (r_2 : Int) fun time_ => bq2 (M_isThrown (if 1000000 ≤ time_ then 1 else 0) 3 m_2) fun r_3 m_3 => if ¬ r_3 = 0 then some (0, m_3) else ltv (0 : Int) fun many_ => bq1 (loop (fun s => M_chain_b1 b time_ m_3 s) many_) fun many_4 => ltv (setM m_3 0 29 many_4) fun m_4 => ltv ((b : Int) : Int) fun stop_ => ltv (1 : Int) fun isEnd_ => grd (InR (many_4 - 1)) <| ltv (many_4 - 1 : Int) fun k_ => bq5 (loop (fun s => M_chain_b2 s.1 s.2.1 s.2.2.1 s.2.2.2.1 s.2.2.2.2) (time_, stop_, isEnd_, k_, m_4)) fun time_4 stop_4 isEnd_4 k_4 m_7 => some (m_7 0 29, m_7)) P := by
    intro P hP
    refine ok_bind (tellRounds_ok (sh := -1) (mi := 0) CI0 ⟨h5, h6⟩ (by omega) (relM_set J) (by omega) (by omega)) (fun mm2 e => ?_)
    obtain ⟨e1, e2, T, rom⟩ := e
    have rl : RelM mc p2 (-1) 0 (-1) mm2 := RelM_inv J (fun c i h => e1 c i (by unfold pM at h; omega) (by unfold pM at h; omega)) e2
    obtain ⟨q1, q2, q3, q4, q5⟩ := id rom
    have eT : (T : Int) - 1 = ((T - 1 : Nat) : Int) := by omega
    rw [q1, eT]
    refine ok_grd (by unfold InR; omega) (ok_bind (atBy_ok (k := T - 1) (b := b) (by omega) (by omega)) (fun v hv => ok_ltv ?_))
    have ev : v = aR (exM mm2 T (T - 1)) b := by
      rw [hv]
      unfold exM
      rw [Nat.min_self]
    have ex : aR (exM mm2 T (T - 1)) b = aR (exC m2 last last) b := by
      have := ex_eq CI0 ro rom 14 (b := b) (by omega)
      unfold exC exM at this ⊢
      rw [Nat.min_eq_right (by omega), Nat.min_eq_right (by omega)] at this
      rw [Nat.min_self, Nat.min_self]
      exact this.symm
    rw [ev]
    exact hP mm2 T e1 rl rom ex
  refine wp_bind (wp_needFound (fun hb => ok_tbd_inr (mh _ (fun mm2 T f rl rom ex => ?_))) (fun hb => ok_tbd_inl (ok_bind (keepChain_ok CI0 C2 (by omega) ro (by omega) hb) (fun m5 h5' => ok_some (mh _ (fun mm2 T f rl rom ex => ?_))))))
  · have J2 : Inv m2 mm2 := Inv_end J C2.1 C2.2.1.1 (fun c i h => f c i (by unfold pM at h; omega) (by unfold pM at h; omega))
    refine wp_bq2 (wp_isThrownI (fun h => ok_ite (fun _ => ok_some ?_) (fun q => absurd Int.one_ne_zero q)) (fun h => by omega))
    (refine agp_er ?_ ?_ ?_); decide; (first | (rw [setM_same]; rfl) | (dsimp only; simp (disch := omega) only [setM_ne, setM_hit, true_and, and_true]; rfl))
    exact Inv_thr J2 _
  · obtain ⟨fk, K, Q, On, Of, k1, few, sq, recs⟩ := h5'
    obtain ⟨q1, q2, q3, q4, q5⟩ := id rom
    refine wp_bq2 (wp_isThrownI (fun h => by omega) (fun h => ok_ite (fun q => absurd rfl q) (fun _ => ok_ltv ?_)))
    have eqv : ∀ k, aR (exC m2 last k) b = aR (exM mm2 T k) b := fun k => ex_eq CI0 ro rom k (by omega)
    have mono : ∀ i j : Nat, aR (exM mm2 T (i + j)) b ≤ aR (exM mm2 T i) b := fun i j => by
      induction j with
      | zero => exact Int.le_refl _
      | succ j ih =>
        have := exM_mono CI0 rom (i + j) (b := b) (by omega)
        rw [← Nat.add_assoc]
        omega
    have K12 : K ≤ 12 := by have := few.1; omega
    have fewM : aR (exM mm2 T K) b = aR (exM mm2 T (T - 1)) b ∧ ∀ j : Nat, j < K → aR (exM mm2 T (T - 1)) b < aR (exM mm2 T j) b := by
      have a1 := few.2.1
      dsimp only at a1
      rw [ex, ← a1]
      refine ⟨(eqv K).symm, fun j hj => ?_⟩
      have a2 := few.2.2 j hj
      dsimp only at a2
      rw [a1]
      have a3 := mono j (14 - j)
      rw [show j + (14 - j) = 14 by omega] at a3
      have e14 : aR (exM mm2 T 14) b = aR (exM mm2 T (T - 1)) b := by
        unfold exM
        rw [Nat.min_eq_right (by omega), Nat.min_self]
      have a5 := eqv j
      omega
    have KT : K ≤ T - 1 := by
      apply Classical.byContradiction
      intro q
      have := fewM.2 (T - 1) (by omega)
      omega
    have fz : ∀ m3 : Mem, m3 = setM mm2 0 0 0 → ∀ j, rowM m3 j = rowM mm2 j := fun m3 e j => by
      unfold rowM
      exact Prod.ext (funext fun v => by show m3 18 (12 * j + v) = mm2 18 (12 * j + v); rw [e]; exact setM_ne (by omega)) (funext fun v => by show m3 17 (12 * j + v) = mm2 17 (12 * j + v); rw [e]; exact setM_ne (by omega))
    obtain ⟨m3, hm3⟩ : ∃ m3, m3 = setM mm2 0 0 0 := ⟨_, rfl⟩
    dsimp only
    rw [← hm3]
    have rows3 := fz m3 hm3
    refine ok_bq1 (Q := fun z => z = (K : Int)) ?_ (fun many hmany => ok_ltv (ok_ltv (ok_ltv ?_)))
    · refine ok_loop (fun x => ∃ k : Nat, x = k ∧ k ≤ K) (fun x => 20 - x.toNat) ⟨0, rfl, Nat.zero_le _⟩ ?_
      rintro x ⟨k, rfl, e2⟩
      unfold M_chain_b1
      refine ok_bind (atBy_ok (k := k) (b := b) (by omega) (by omega)) (fun v hv => ?_)
      have ev : v = aR (exM mm2 T k) b := by
        rw [hv, rows3]
        unfold exM
        rw [Nat.min_eq_left (by omega)]
      rw [ev]
      refine ok_ite (fun hlt => ok_grd (by unfold InR; omega) (ok_ltv (ok_some ⟨⟨k + 1, by omega, ?_⟩, by omega⟩))) (fun hlt => ok_some ?_)
      · have : k ≠ K := fun z => by rw [z] at hlt; have := fewM.1; omega
        omega
      · by_cases z : k = K
        · rw [z]
        · have := fewM.2 k (by omega)
          exact absurd this hlt
    · subst hmany
      obtain ⟨m4, hm4⟩ : ∃ m4, m4 = setM m3 0 29 (K : Int) := ⟨_, rfl⟩
      rw [← hm4]
      have y4 : ∀ c i, ¬ (c = 0 ∧ (i = 0 ∨ i = 29)) → m4 c i = mm2 c i := fun c i hh => by rw [hm4, setM_ne (by omega), hm3, setM_ne (by omega)]
      have y429 : m4 0 29 = K := by rw [hm4, setM_same]
      have y40 : m4 0 0 = 0 := by rw [hm4, setM_ne (by omega), hm3, setM_same]
      have rows4 : ∀ j, rowM m4 j = rowM mm2 j := fun j => by
        unfold rowM
        exact Prod.ext (funext fun v => y4 18 _ (by omega)) (funext fun v => y4 17 _ (by omega))
      have ex4 : exM m4 T = exM mm2 T := funext fun k => rows4 _
      have rl4 : RelM mc p2 (-1) 0 (-1) m4 := RelM_fr rl (fun c i hh => y4 c i (by unfold rM at hh; omega))
      have rom4 : RoM mc p2 (-1) 0 (ini (wC mc (-1)) a p3) m4 T := by
        refine ⟨by rw [y4 0 28 (by omega)]; exact q1, q2, q3, fun k hk => ?_, ?_⟩
        · rw [rows4]
          exact q4 k hk
        · rw [rows4]
          exact q5
      have cm := chainM_ok (b := b) (K := K) CI0 ⟨h5, h6⟩ rl4 (by omega) rom4 (by omega) KT (by rw [ex4, fewM.1]; exact Int.le_refl _) (by rw [ex4]; exact fewM.2)
      rw [ex4] at cm
      refine ok_grd (by unfold InR; omega) (ok_ltv (ok_bq5 cm (fun _ _ _ _ m7 h7 => ok_some ?_)))
      obtain ⟨g1, Q', On', Of', sq', recs'⟩ := h7
      dsimp only at g1 recs'
      have same := Seq_uni (Seq_congr CI0 (fun k => rw_uniq (RdQ_N CI0) (exC_rw CI0 ro k) (exM_rw CI0 rom k)) sq) (by rw [← ex]; exact sq')
      have e29 : m7 0 29 = K := by rw [g1 0 29 (by omega)]; exact y429
      have frM : ∀ c i, ¬ (19 ≤ c ∧ c ≤ 21) → ¬ (15 ≤ c ∧ c ≤ 18) → ¬ (c = 0 ∧ (i = 0 ∨ i = 22 ∨ i = 25 ∨ i = 28 ∨ i = 29)) → m7 c i = mm' c i := fun c i w1 w2 w3 => by
        rw [g1 c i w1, y4 c i (by omega)]
        exact f c i w2 (by omega)
      have frC : ∀ c i, pC c i → ¬ (c = 355 ∧ i = 4) → ¬ (357 ≤ c ∧ c ≤ 360) → m5 c i = mc c i := fun c i w1 w2 w3 => by
        rw [fk c i w2 w3]
        by_cases hh : c = 1 ∧ i = 4
        · rw [hh.1, hh.2, C2.2.1.1]
          exact J.1.2.2.2.1.symm
        · exact C2.1 c i ⟨w1, hh⟩
      refine agp_ok ?_ ?_ ?_
      · rw [g1 0 0 (by omega)]
        exact y40
      · rw [e29, k1]
      · obtain ⟨ja, jb, jc, jd, je, jf, jg⟩ := J
        refine ⟨IS_fr ja (fun c i w => ?_) (fun c i w => ?_), IV_fr jb (fun c i w => ?_) (fun c i w => ?_), IT_fr jc (fun c i w => ?_) (fun c i w => ?_), ID_fr jd (fun c i w => ?_) (fun c i w => ?_), IR_fr je (fun c i w => ?_) (fun c i w => ?_), ?_, IW_fr jg (fun c i w => ?_) (fun c i w => ?_)⟩
        case refine_11 =>
          refine ⟨by omega, by omega, by omega, by rw [k1, e29, if_neg (by omega)], fun j hj => ?_⟩
          have a1 := recs j (by omega)
          have a2 := recs' j (by omega)
          have a3 := same j (by omega)
          rw [a2.1, a2.2.1, a2.2.2, td24, tm24, a1.1, a1.2.1, a1.2.2.1, a1.2.2.2, a3.1, a3.2.1, a3.2.2]
          exact ⟨by omega, rfl, rfl, rfl, rfl⟩
        all_goals
          simp only [cS, mS, cV, mV, cT, mT, cD, mD, cR, mR, cW, mW] at w
          first
          | exact frC c i (by unfold pC; omega) (by omega) (by omega)
          | exact frM c i (by omega) (by omega) (by omega)
end STCH
