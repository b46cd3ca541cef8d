/-! ===== choices ===== -/
def aR (L : Lb) (b : Nat) : Int := min (L.1 b) (L.2 b)
/-- is the round a choice: better than the one ahead -/
def isCh (f : Nat → Int) (k : Nat) : Prop := f k < (if k = 0 then 1000000 else f (k - 1))
noncomputable def chN (f : Nat → Int) : Nat → Nat
  | 0 => 0
  | k + 1 => chN f k + @ite _ (isCh f k) (Classical.propDecidable _) 1 0
section CHO
variable {mc mm m m0 : Mem} {day sh mi : Int} {f g : Nat → Int}
theorem chN_pos {k : Nat} (h : isCh f k) : chN f (k + 1) = chN f k + 1 := by
  show chN f k + _ = _
  rw [if_pos h]
theorem chN_neg {k : Nat} (h : ¬ isCh f k) : chN f (k + 1) = chN f k := by
  show chN f k + _ = _
  rw [if_neg h]
  rfl
theorem chN_congr : ∀ {n : Nat}, (∀ k, k < n → f k = g k) → chN f n = chN g n := by
  intro n
  induction n with
  | zero => intro _; rfl
  | succ n ih =>
    intro h
    have e : isCh f n ↔ isCh g n := by
      unfold isCh
      rw [h n (by omega)]
      by_cases hn : n = 0
      · rw [if_pos hn, if_pos hn]
      · rw [if_neg hn, if_neg hn, h (n - 1) (by omega)]
    by_cases hc : isCh f n
    · rw [chN_pos hc, chN_pos (e.mp hc), ih (fun k hk => h k (by omega))]
    · rw [chN_neg hc, chN_neg (fun q => hc (e.mpr q)), ih (fun k hk => h k (by omega))]
theorem chN_mono {a : Nat} : ∀ {b : Nat}, a ≤ b → chN f a ≤ chN f b := by
  intro b
  induction b with
  | zero => intro h; have : a = 0 := by omega
            rw [this]; exact Nat.le_refl _
  | succ b ih =>
    intro h
    by_cases hh : a = b + 1
    · rw [hh]; exact Nat.le_refl _
    · have := ih (by omega)
      by_cases hc : isCh f b
      · rw [chN_pos hc]; omega
      · rw [chN_neg hc]; exact this
theorem chN_flat {a : Nat} (h : ∀ k, a ≤ k → f k = f (k - 1)) (ha : 1 ≤ a) : ∀ j : Nat, chN f (a + j) = chN f a := by
  intro j
  induction j with
  | zero => rfl
  | succ j ih =>
    rw [← Nat.add_assoc, chN_neg, ih]
    unfold isCh
    rw [if_neg (by omega), ← h (a + j) (by omega)]
    omega
/-- the class's rows, told on -/
def exC (m : Mem) (last : Nat) (k : Nat) : Lb := labC (361 + 3 * (min k last)) m
def exM (m : Mem) (T : Nat) (k : Nat) : Lb := rowM m (min k (T - 1))
theorem exC_rw {I0 : Lb} {last : Nat} (I : CI mc) (h : RoC mc day sh mi I0 m last) (k : Nat) : RwQ mc day sh mi I0 k (exC m last k) := by
  unfold exC
  by_cases hk : k ≤ last
  · rw [Nat.min_eq_left hk]
    exact (h.2.2.1 k hk).1
  · rw [Nat.min_eq_right (by omega)]
    have := rw_stable (RdQ_N I) (h.2.2.1 last (Nat.le_refl _)).1 h.2.2.2.1 (k - last)
    rw [show last + (k - last) = k by omega] at this
    exact this
theorem exM_rw {I0 : Lb} {T : Nat} (I : CI mc) (h : RoM mc day sh mi I0 m T) (k : Nat) : RwQ mc day sh mi I0 k (exM m T k) := by
  obtain ⟨h1, h2, h3, h4, h5⟩ := h
  unfold exM
  by_cases hk : k ≤ T - 1
  · rw [Nat.min_eq_left hk]
    exact (h4 k (by omega)).1
  · rw [Nat.min_eq_right (by omega)]
    have := rw_stable (RdQ_N I) (h4 (T - 1) (by omega)).1 h5 (k - (T - 1))
    rw [show (T - 1) + (k - (T - 1)) = k by omega] at this
    exact this
theorem ex_eq {I0 : Lb} {last T : Nat} {m' : Mem} (I : CI mc) (h : RoC mc day sh mi I0 m last) (h' : RoM mc day sh mi I0 m' T) (k : Nat) {b : Nat} (hb : b < nC mc) : aR (exC m last k) b = aR (exM m' T k) b := by
  have := rw_uniq (RdQ_N I) (exC_rw I h k) (exM_rw I h' k) b hb
  unfold aR
  rw [this.1, this.2]
theorem exC_mono {I0 : Lb} {last : Nat} (I : CI mc) (h : RoC mc day sh mi I0 m last) (k : Nat) {b : Nat} (hb : b < nC mc) : aR (exC m last (k + 1)) b ≤ aR (exC m last k) b ∧ aR (exC m last k) b ≤ 1000000 ∧ 0 ≤ aR (exC m last k) b := by
  have rg : Rg (nC mc) (exC m last k) := (h.2.2.1 (min k last) (by omega)).2
  have b1 := rg b hb
  refine ⟨?_, by unfold aR; omega, by unfold aR; omega⟩
  obtain ⟨A, a1, a2⟩ := exC_rw I h (k + 1)
  have e := rw_uniq (RdQ_N I) a1 (exC_rw I h k) b hb
  have l := a2.1.1 b hb
  unfold aR
  omega
theorem chC {I0 : Lb} {last : Nat} (h : RoC mc day sh mi I0 m last) {b : Nat} {N : Nat} (hN : last + 1 ≤ N) : chN (fun k => aR (exC m last k) b) N = chN (fun k => aR (exC m last k) b) (last + 1) := by
  have := chN_flat (f := fun k => aR (exC m last k) b) (a := last + 1) (fun k hk => by
    unfold exC
    rw [Nat.min_eq_right (by omega), Nat.min_eq_right (by omega)]) (by omega) (N - (last + 1))
  rw [show last + 1 + (N - (last + 1)) = N by omega] at this
  exact this
theorem chM {T : Nat} (hT : 1 ≤ T) {b : Nat} {N : Nat} (hN : T ≤ N) : chN (fun k => aR (exM m T k) b) N = chN (fun k => aR (exM m T k) b) T := by
  have := chN_flat (f := fun k => aR (exM m T k) b) (a := T) (fun k hk => by
    unfold exM
    rw [Nat.min_eq_right (by omega), Nat.min_eq_right (by omega)]) hT (N - T)
  rw [show T + (N - T) = N by omega] at this
  exact this
theorem ch_eq {I0 : Lb} {last T : Nat} {m' : Mem} (I : CI mc) (h : RoC mc day sh mi I0 m last) (h' : RoM mc day sh mi I0 m' T) {b : Nat} (hb : b < nC mc) : chN (fun k => aR (exC m last k) b) (last + 1) = chN (fun k => aR (exM m' T k) b) T := by
  have l := h.2.1
  have t := h'.2.2.1
  rw [← chC h (b := b) (N := 14) (by omega), ← chM h'.2.1 (b := b) (N := 14) (by omega)]
  exact chN_congr (fun k _ => ex_eq I h h' k hb)
theorem isChoice_ok {I0 : Lb} {last b k : Nat} (h : RoC mc day sh mi I0 m last) (hb : b < 12) (hk : k ≤ last) : Ok (C_Rounds_isChoice k b m) (fun z => (z = 1 ∧ isCh (fun k => aR (exC m last k) b) k) ∨ (z = 0 ∧ ¬ isCh (fun k => aR (exC m last k) b) k)) := by
  have l := h.2.1
  have e1 : exC m last k = labC (361 + 3 * k) m := by unfold exC; rw [Nat.min_eq_left hk]
  have fin : ∀ z : Int, z = (if k = 0 then 1000000 else aR (exC m last (k - 1)) b) → Ok (ltv z fun fewer_ => grd (0 ≤ (k : Int) ∧ (k : Int) < 13) <| (C_Labels_at (361 + 3 * ((k : Int)).toNat) b m).bind fun r_2 => if r_2 < fewer_ then some (1 : Int) else some 0) (fun z => (z = 1 ∧ isCh (fun k => aR (exC m last k) b) k) ∨ (z = 0 ∧ ¬ isCh (fun k => aR (exC m last k) b) k)) := by
    intro z hz
    rw [Int.toNat_natCast]
    refine ok_ltv (ok_grd (by omega) (ok_bind (atC_ok (s := b) hb) (fun v hv => ?_)))
    have ev : v = aR (exC m last k) b := by rw [e1]; exact hv
    refine ok_ite (fun q => ok_some (Or.inl ⟨rfl, ?_⟩)) (fun q => ok_some (Or.inr ⟨rfl, ?_⟩))
    · unfold isCh
      dsimp only
      rw [← ev, ← hz]
      exact q
    · unfold isCh
      dsimp only
      rw [← ev, ← hz]
      exact q
  unfold C_Rounds_isChoice
  refine ok_ltv (ok_ite (fun q => ok_ltv (fin _ ?_)) (fun q => ok_grd (by unfold InR; omega) (ok_bind (atC_ok (s := b) hb) (fun v hv => ok_ltv (fin _ ?_)))))
  · rw [if_pos (by omega)]
  · rw [if_neg (by omega), hv]
    unfold aR exC
    rw [Nat.min_eq_left (by omega), show ((k : Int) - 1).toNat = k - 1 by omega]
theorem chN_uni {k0 k1 : Nat} (h0 : isCh f k0) (h1 : isCh f k1) (e : chN f k0 = chN f k1) : k0 = k1 := by
  rcases Nat.lt_trichotomy k0 k1 with q | q | q
  · have := chN_mono (f := f) (a := k0 + 1) (b := k1) (by omega)
    rw [chN_pos h0] at this
    omega
  · exact q
  · have := chN_mono (f := f) (a := k1 + 1) (b := k0) (by omega)
    rw [chN_pos h1] at this
    omega
theorem chN_le (n : Nat) : chN f n ≤ n := by
  induction n with
  | zero => exact Nat.le_refl _
  | succ n ih =>
    by_cases h : isCh f n
    · rw [chN_pos h]; omega
    · rw [chN_neg h]; omega
theorem choicesC_ok {I0 : Lb} {last b : Nat} (h : RoC mc day sh mi I0 m last) (hb : b < 12) : Ok (loop (fun s => C_choices_b1 b m s.1 s.2) (0, 0)) (fun x => x.1 = (chN (fun k => aR (exC m last k) b) (last + 1) : Nat)) := by
  have l := h.2.1
  refine ok_loop (fun x => ∃ k : Nat, x.2 = k ∧ k ≤ last + 1 ∧ x.1 = (chN (fun k => aR (exC m last k) b) k : Nat)) (fun x => 20 - x.2.toNat) ⟨0, rfl, by omega, rfl⟩ ?_
  rintro ⟨x, y⟩ ⟨k, e1, e2, e3⟩
  dsimp only at e1 e3 ⊢
  subst e1
  have le := chN_le (f := fun k => aR (exC m last k) b) k
  unfold C_choices_b1
  rw [h.1]
  refine ok_ite (fun hk => ok_bind (isChoice_ok h hb (by omega)) (fun v hv => ok_ite (fun hv0 => ok_grd (by unfold InR; omega) (ok_ltv (ok_grd (by unfold InR; omega) (ok_ltv (ok_some ⟨⟨k + 1, by dsimp only; omega, by omega, ?_⟩, by dsimp only; omega⟩))))) (fun hv0 => ok_grd (by unfold InR; omega) (ok_ltv (ok_some ⟨⟨k + 1, by dsimp only; omega, by omega, ?_⟩, by dsimp only; omega⟩))))) (fun hk => ok_some ?_)
  · rcases hv with hv | hv
    · dsimp only
      rw [chN_pos hv.2, e3]
      omega
    · exact absurd hv.1 hv0
  · rcases hv with hv | hv
    · omega
    · dsimp only
      rw [chN_neg hv.2, e3]
  · have : k = last + 1 := by omega
    rw [e3, this]
theorem atBy_ok {k b : Nat} (hk : k < 74) (hb : b < 12) : Ok (M_atBy k b mm) (fun z => z = aR (rowM mm k) b) := by
  have e2 : (12 * (k : Int) + (b : Int)).toNat = 12 * k + b := by omega
  unfold M_atBy
  rw [e2]
  refine ok_grd (by unfold InR; omega) (ok_ltv (ok_ltv (ok_some ?_)))
  unfold aR rowM
  dsimp only
  split <;> omega
theorem choicesM_ok {I0 : Lb} {T b : Nat} {idx : Int} (I : CI mc) (h : RoM mc day sh mi I0 m0 T) (hb : b < nC mc) : Ok (M_choicesOf b idx m0) (fun x => x.1 = (chN (fun k => aR (exM m0 T k) b) T : Nat) ∧ (∀ c i, ¬ (c = 0 ∧ (i = 48 ∨ i = 49)) → x.2 c i = m0 c i) ∧ (0 ≤ idx → idx < x.1 → ∃ k0 : Nat, k0 < T ∧ isCh (fun k => aR (exM m0 T k) b) k0 ∧ (chN (fun k => aR (exM m0 T k) b) k0 : Nat) = idx ∧ x.2 0 48 = k0 ∧ x.2 0 49 = aR (exM m0 T k0) b)) := by
  have n := CI_n I
  obtain ⟨h1, h2, h3, h4, h5⟩ := id h
  obtain ⟨f, hf⟩ : ∃ f : Nat → Int, f = fun k => aR (exM m0 T k) b := ⟨_, rfl⟩
  have mono : ∀ k, f (k + 1) ≤ f k := fun k => by
    obtain ⟨A, a1, a2⟩ := exM_rw I h (k + 1)
    have e := rw_uniq (RdQ_N I) a1 (exM_rw I h k) b hb
    have l := a2.1.1 b hb
    rw [hf]
    dsimp only
    unfold aR
    omega
  rw [← hf]
  unfold M_choicesOf
  refine ok_ltv (ok_ltv (ok_ltv (ok_bq4 (Q := fun (x : Int × Int × Int × Mem) => x.1 = (chN f T : Nat) ∧ (∀ c i, ¬ (c = 0 ∧ (i = 48 ∨ i = 49)) → x.2.2.2 c i = m0 c i) ∧ (0 ≤ idx → idx < x.1 → ∃ k0 : Nat, k0 < T ∧ isCh f k0 ∧ (chN f k0 : Nat) = idx ∧ x.2.2.2 0 48 = k0 ∧ x.2.2.2 0 49 = f k0)) ?_ (fun _ _ _ m h => ok_some (by rw [hf] at h ⊢; exact h)))))
  refine ok_loop (fun x => ∃ k : Nat, x.2.2.1 = k ∧ k ≤ T ∧ x.1 = (chN f k : Nat) ∧ x.2.1 = (if k = 0 then 1000000 else f (k - 1)) ∧ (∀ c i, ¬ (c = 0 ∧ (i = 48 ∨ i = 49)) → x.2.2.2 c i = m0 c i) ∧ (0 ≤ idx → idx < x.1 → ∃ k0 : Nat, k0 < k ∧ isCh f k0 ∧ (chN f k0 : Nat) = idx ∧ x.2.2.2 0 48 = k0 ∧ x.2.2.2 0 49 = f k0)) (fun x => 20 - x.2.2.1.toNat) ⟨0, rfl, Nat.zero_le _, rfl, rfl, fun _ _ _ => rfl, fun a b => by
    have : (0 : Int) = (chN f 0 : Nat) := rfl
    dsimp only at b
    omega⟩ ?_
  rintro ⟨x, y, z, m⟩ ⟨k, e1, e2, e3, e4, e5, e6⟩
  dsimp only at e1 e3 e4 e5 e6 ⊢
  subst e1
  have le := chN_le (f := f) k
  have em : ∀ j, rowM m j = rowM m0 j := fun j => by
    unfold rowM
    exact Prod.ext (funext fun v => e5 18 _ (by omega)) (funext fun v => e5 17 _ (by omega))
  unfold M_choicesOf_b1
  rw [e5 0 28 (by omega), h1]
  refine ok_ite (fun hk => ok_bind (atBy_ok (by omega) (by omega)) (fun v hv => ok_ltv ?_)) (fun hk => ok_some ?_)
  · have ev : v = f k := by
      rw [hv, hf, em]
      dsimp only
      unfold exM
      rw [Nat.min_eq_left (by omega)]
    have ich : v < y ↔ isCh f k := by
      unfold isCh
      rw [e4, ev]
    refine ok_ite (fun hlt => ok_ltv (ok_ite (fun hi => ok_ltv (ok_ltv (ok_ltv (ok_grd (by unfold InR; omega) (ok_ltv (ok_grd (by unfold InR; omega) (ok_ltv (ok_some ⟨⟨k + 1, by dsimp only; omega, by omega, ?_, ?_, fun c i hc => ?_, fun a b => ?_⟩, by dsimp only; omega⟩)))))))) (fun hi => ok_ltv (ok_grd (by unfold InR; omega) (ok_ltv (ok_grd (by unfold InR; omega) (ok_ltv (ok_some ⟨⟨k + 1, by dsimp only; omega, by omega, ?_, ?_, e5, fun a b => ?_⟩, by dsimp only; omega⟩)))))))) (fun hlt => ok_grd (by unfold InR; omega) (ok_ltv (ok_some ⟨⟨k + 1, by dsimp only; omega, by omega, ?_, ?_, e5, fun a b => ?_⟩, by dsimp only; omega⟩)))
    · dsimp only
      rw [chN_pos (ich.mp hlt), e3]
      omega
    · dsimp only
      rw [if_neg (by omega), Nat.add_sub_cancel]
      exact ev
    · dsimp only
      rw [setM_ne (by omega), setM_ne (by omega)]
      exact e5 c i hc
    · dsimp only at b ⊢
      refine ⟨k, by omega, ich.mp hlt, by omega, ?_, ?_⟩
      · rw [setM_ne (by omega), setM_same]
      · rw [setM_same]
        exact ev
    · dsimp only
      rw [chN_pos (ich.mp hlt), e3]
      omega
    · dsimp only
      rw [if_neg (by omega), Nat.add_sub_cancel]
      exact ev
    · dsimp only at b ⊢
      obtain ⟨k0, q1, q2⟩ := e6 a (by omega)
      exact ⟨k0, by omega, q2⟩
    · dsimp only
      rw [chN_neg (fun q => hlt (ich.mpr q)), e3]
    · dsimp only
      rw [if_neg (by omega), Nat.add_sub_cancel, e4]
      by_cases hk0 : k = 0
      · rw [if_pos hk0] at e4 ⊢
        have ub : v ≤ 1000000 := by
          have := (h4 k (by omega)).2 b hb
          rw [hv, em]
          unfold aR
          omega
        omega
      · rw [if_neg hk0] at e4 ⊢
        have := mono (k - 1)
        rw [show k - 1 + 1 = k by omega] at this
        omega
    · dsimp only at b ⊢
      obtain ⟨k0, q1, q2⟩ := e6 a b
      exact ⟨k0, by omega, q2⟩
  · have : k = T := by omega
    rw [← this]
    exact ⟨e3, e5, e6⟩
theorem st_choices : ST_choices Inv := by
  intro mc mm p0 p1 p2 p3 I _ _ _ _
  refine ag_ask (exs := [2, 0]) (rc := fun m_ => (C_Net_lay p2 (-1) 0 m_).bind fun m_2 => (C_Rounds_fill p0 p3 m_2).bind fun m_3 => ltv (0 : Int) fun count_ => ltv (0 : Int) fun round_ => bq2 (loop (fun s => C_choices_b1 p1 m_3 s.1 s.2) (count_, round_)) fun count_4 round_5 => some (.inl count_4, m_3)) (rm := fun m_ => (M_tellRounds p0 p2 p3 m_).bind fun m_2 => bq2 (M_choicesOf p1 (-1) m_2) fun r_2 m_3 => some (r_2, m_3)) I (by decide) (fun h1 h2 h3 h4 h5 h6 h7 h8 mm' J e0 => ?_)
  have CI0 : CI mc := ⟨_, I⟩
  have n := CI_n CI0
  obtain ⟨a, rfl⟩ : ∃ a : Nat, p0 = a := ⟨p0.toNat, by omega⟩
  obtain ⟨b, rfl⟩ : ∃ b : Nat, p1 = b := ⟨p1.toNat, by omega⟩
  refine ok_bind (lay_ok (sh := -1) (mi := 0) CI0 ⟨h5, h6⟩ (by omega) (Ctx_self I)) (fun m1 l => ?_)
  refine ok_bind (fill_ok (a := a) (t := p3) CI0 (by omega) ⟨l.2.1, l.2.2.1, l.2.2.2⟩ (by omega) (by omega)) (fun m2 s => ok_ltv (ok_ltv ?_))
  obtain ⟨s1, last, ro⟩ := s
  have C2 : Ctx mc p2 (-1) 0 (-1) m2 := Ctx_fr CI0 ⟨l.2.1, l.2.2.1, l.2.2.2⟩ (fun c i h => s1 c i (by unfold cX pC at h; omega) (by unfold cX pC at h; omega))
  refine ok_bq2 (choicesC_ok (b := b) ro (by omega)) (fun cnt _ hc => ok_some ?_)
  refine ok_bind (tellRounds_ok (sh := -1) (mi := 0) CI0 ⟨h5, h6⟩ (by omega) (relM_set J) (by omega) (by omega)) (fun mm2 e => ?_)
  obtain ⟨e1, e2, T, rom⟩ := e
  refine ok_bq2 (choicesM_ok (b := b) CI0 rom (by omega)) (fun cm mm3 hm => ok_some ?_)
  dsimp only at hc hm
  have J2 : Inv m2 mm3 := Inv_end J C2.1 C2.2.1.1 (fun c i h => by rw [hm.2.1 c i (by unfold pM at h; omega)]; exact e1 c i (by unfold pM at h; omega) (by unfold pM at h; omega))
  refine agp_ok ?_ ?_ J2
  · rw [hm.2.1 0 0 (by omega), e1 0 0 (by omega) (by omega)]
    exact e0
  · rw [hm.1, hc, ch_eq CI0 ro rom (b := b) (by omega)]
theorem st_choice : ST_choice Inv := by
  intro mc mm p0 p1 p2 p3 p4 I _ _ _ _ hp4
  refine ag_ask (exs := [2, 0, 5]) (rc := fun m_ => (C_Net_lay p2 (-1) 0 m_).bind fun m_2 => (C_Rounds_fill p0 p3 m_2).bind fun m_3 => ltv (p4 : Int) fun left_ => ltv (0 : Int) fun round_ => br2 (fun q9 => some q9) (loop (fun s => C_choice_b1 p1 m_3 s.1 s.2) (left_, round_)) fun left_4 round_5 => some (.inr 5, m_3)) (rm := fun m_ => (M_tellRounds p0 p2 p3 m_).bind fun m_2 => ltv (fun (v_ : Int) (m_3 : Mem) => bq2 (M_isThrown v_ 3 m_3) fun r_3 m_5 => if ¬ r_3 = 0 then some (0, m_5) else grd (InR (5000 * (m_5 0 48)) ∧ InR (5000 * (m_5 0 48) + m_5 0 49)) <| some (5000 * (m_5 0 48) + m_5 0 49, m_5)) fun kj_ => bq2 (M_choicesOf p1 p4 m_2) fun r_2 m_4 => grd (InR (r_2 - 1)) <| if ¬ M_isIn p4 0 (r_2 - 1) = 0 then kj_ 0 m_4 else kj_ 1 m_4) I (by decide) (fun h1 h2 h3 h4 h5 h6 h7 h8 mm' J e0 => ?_)
  have CI0 : CI mc := ⟨_, I⟩
  have n := CI_n CI0
  obtain ⟨a, rfl⟩ : ∃ a : Nat, p0 = a := ⟨p0.toNat, by omega⟩
  obtain ⟨b, rfl⟩ : ∃ b : Nat, p1 = b := ⟨p1.toNat, by omega⟩
  unfold InR at hp4
  refine ok_bind (lay_ok (sh := -1) (mi := 0) CI0 ⟨h5, h6⟩ (by omega) (Ctx_self I)) (fun m1 l => ?_)
  refine ok_bind (fill_ok (a := a) (t := p3) CI0 (by omega) ⟨l.2.1, l.2.2.1, l.2.2.2⟩ (by omega) (by omega)) (fun m2 s => ok_ltv (ok_ltv ?_))
  obtain ⟨s1, last, ro⟩ := s
  have ll := ro.2.1
  have C2 : Ctx mc p2 (-1) 0 (-1) m2 := Ctx_fr CI0 ⟨l.2.1, l.2.2.1, l.2.2.2⟩ (fun c i h => s1 c i (by unfold cX pC at h; omega) (by unfold cX pC at h; omega))
  obtain ⟨f, hf⟩ : ∃ f : Nat → Int, f = fun k => aR (exC m2 last k) b := ⟨_, rfl⟩
  have fb : ∀ k, 0 ≤ f k ∧ f k ≤ 1000000 := fun k => by
    have := exC_mono CI0 ro k (b := b) (by omega)
    rw [hf]
    exact ⟨this.2.2, this.2.1⟩
  -- the reference's side
  have mside : ∀ r : (Int ⊕ Nat) × Mem, ((0 ≤ p4 ∧ p4 < (chN f (last + 1) : Nat)) → ∃ k0 : Nat, k0 ≤ last ∧ isCh f k0 ∧ (chN f k0 : Nat) = p4 ∧ r = (.inl (5000 * (k0 : Int) + f k0), m2)) → (¬ (0 ≤ p4 ∧ p4 < (chN f (last + 1) : Nat)) → r = (.inr 5, m2)) → Ok ((M_tellRounds a p2 p3 mm').bind fun m_2 => ltv (fun (v_ : Int) (m_3 : Mem) => bq2 (M_isThrown v_ 3 m_3) fun r_3 m_5 => if ¬ r_3 = 0 then some (0, m_5) else grd (InR (5000 * (m_5 0 48)) ∧ InR (5000 * (m_5 0 48) + m_5 0 49)) <| some (5000 * (m_5 0 48) + m_5 0 49, m_5)) fun kj_ => bq2 (M_choicesOf b p4 m_2) fun r_2 m_4 => grd (InR (r_2 - 1)) <| if ¬ M_isIn p4 0 (r_2 - 1) = 0 then kj_ 0 m_4 else kj_ 1 m_4) (fun x => AgP okA Inv [2, 0, 5] r x) := by
    intro r hr1 hr2
    refine ok_bind (tellRounds_ok (sh := -1) (mi := 0) CI0 ⟨h5, h6⟩ (by omega) (relM_set J) (by omega) (by omega)) (fun mm2 e => ok_ltv ?_)
    obtain ⟨e1, e2, T, rom⟩ := e
    refine ok_bq2 (choicesM_ok (b := b) (idx := p4) CI0 rom (by omega)) (fun cm mm3 hm => ?_)
    dsimp only at hm
    have J2 : Inv m2 mm3 := Inv_end J C2.1 C2.2.1.1 (fun c i h => by rw [hm.2.1 c i (by unfold pM at h; omega)]; exact e1 c i (by unfold pM at h; omega) (by unfold pM at h; omega))
    have ec : cm = (chN f (last + 1) : Nat) := by rw [hm.1, hf, ch_eq CI0 ro rom (b := b) (by omega)]
    have cle := chN_le (f := f) (last + 1)
    refine ok_grd (by unfold InR; omega) (ok_ite (fun hi => wp_bq2 (wp_isThrown0 (ok_ite (fun q => absurd rfl q) (fun _ => ?_)))) (fun hi => wp_bq2 (wp_isThrown1 (ok_ite (fun _ => ok_some ?_) (fun q => absurd Int.one_ne_zero q)))))
    · rw [isIn0] at hi
      obtain ⟨k0, k1, k2, k3, k4⟩ := hr1 (by omega)
      obtain ⟨j0, j1, j2, j3, j4, j5⟩ := hm.2.2 (by omega) (by omega)
      have ef : ∀ k, aR (exM mm2 T k) b = f k := fun k => by rw [hf]; exact (ex_eq CI0 ro rom k (by omega)).symm
      have eg : (fun k => aR (exM mm2 T k) b) = f := funext ef
      rw [eg] at j2 j3
      have ej : j0 = k0 := chN_uni j2 k2 (by omega)
      rw [ef] at j5
      have b1 := fb j0
      dsimp only
      simp (disch := omega) only [setM_ne, setM_hit, true_and, and_true]
      rw [j4, j5, k4]
      have T14 := rom.2.2.1
      refine ok_grd (by unfold InR; omega) (ok_some ?_)
      (refine agp_ok ?_ ?_ ?_); (first | exact setM_same _ _ _ _ | (focus ((try dsimp only); simp (disch := omega) only [setM_ne, setM_hit, true_and, and_true]; done)) | (focus ((try dsimp only); simp (disch := omega) only [setM_ne, setM_hit, true_and, and_true]; omega)))
      · rw [ej]
      · exact Inv_thr J2 _
    · rw [isIn0] at hi
      rw [hr2 (by omega)]
      (refine agp_er ?_ ?_ ?_); decide; (first | (rw [setM_same]; rfl) | (dsimp only; simp (disch := omega) only [setM_ne, setM_hit, true_and, and_true]; rfl))
      exact Inv_thr J2 _
  refine ok_br2 (Q := fun r => match r with
    | .inl _ => ¬ (0 ≤ p4 ∧ p4 < (chN f (last + 1) : Nat))
    | .inr r => ∃ k0 : Nat, k0 ≤ last ∧ isCh f k0 ∧ (chN f k0 : Nat) = p4 ∧ r = (.inl (5000 * (k0 : Int) + f k0), m2)) ?_ (fun _ _ h => ok_some (mside _ (fun q => absurd q h) (fun _ => rfl))) (fun r h => ok_some (mside _ (fun _ => h) (fun q => ?_)))
  · refine ok_loop (fun x => ∃ k : Nat, x.2 = k ∧ k ≤ last + 1 ∧ x.1 = p4 - (chN f k : Nat) ∧ (k = 0 ∨ 0 ≤ x.1)) (fun x => 20 - x.2.toNat) ⟨0, rfl, by omega, by show p4 = p4 - ((0 : Nat) : Int); omega, Or.inl rfl⟩ ?_
    rintro ⟨x, y⟩ ⟨k, e1, e2, e3, e4⟩
    dsimp only at e1 e3 e4 ⊢
    subst e1
    have le := chN_le (f := f) k
    unfold C_choice_b1
    rw [ro.1]
    refine ok_ite (fun hk => ok_bind (isChoice_ok (b := b) ro (by omega) (by omega)) (fun v hv => ?_)) (fun hk => ok_some ?_)
    · rw [← hf] at hv
      refine ok_ite (fun hv0 => ok_ite (fun hx => ok_grd (by unfold InR; omega) ?_) (fun hx => ok_grd (by unfold InR; omega) (ok_ltv (ok_grd (by unfold InR; omega) (ok_ltv (ok_some ⟨⟨k + 1, by dsimp only; omega, by omega, ?_, Or.inr (by dsimp only; omega)⟩, by dsimp only; omega⟩)))))) (fun hv0 => ok_grd (by unfold InR; omega) (ok_ltv (ok_some ⟨⟨k + 1, by dsimp only; omega, by omega, ?_, Or.inr (by dsimp only; omega)⟩, by dsimp only; omega⟩)))
      · have hc : isCh f k := by
          rcases hv with hv | hv
          · exact hv.2
          · exact absurd hv.1 hv0
        rw [Int.toNat_natCast]
        refine ok_bind (atC_ok (s := b) (by omega)) (fun w hw => ?_)
        have ew : w = f k := by
          rw [hw, hf]
          unfold exC
          dsimp only
          rw [Nat.min_eq_left (by omega)]
          rfl
        have b1 := fb k
        rw [ew]
        exact ok_grd (by unfold InR; omega) (ok_some ⟨k, by omega, hc, by omega, rfl⟩)
      · rcases hv with hv | hv
        · dsimp only
          rw [chN_pos hv.2]
          omega
        · exact absurd hv.1 hv0
      · rcases hv with hv | hv
        · omega
        · dsimp only
          rw [chN_neg hv.2]
          omega
    · dsimp only
      rintro ⟨q1, q2⟩
      rcases e4 with e4 | e4
      · rw [e4] at e3
        have : (chN f 0 : Nat) = 0 := rfl
        omega
      · have : k = last + 1 := by omega
        rw [this] at e3
        omega
  · exfalso
    obtain ⟨k0, k1, k2, k3, k4⟩ := h
    have a := chN_mono (f := f) (a := k0 + 1) (b := last + 1) (by omega)
    rw [chN_pos k2] at a
    omega
end CHO
