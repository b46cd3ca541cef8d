/-! ===== lateness ===== -/
def IsG (A B : Nat → Int) (n day trip e : Int) : Prop := (e = -1 ∧ ∀ k : Nat, (k : Int) < n → ¬ (A k = day ∧ B k = trip)) ∨ ∃ k : Nat, e = k ∧ (k : Int) < n ∧ A k = day ∧ B k = trip
def lateG (A B C D : Nat → Int) : Nat → Int → Int → Int → Int
  | 0 => fun _ _ _ => 0
  | k + 1 => fun day trip call => if A k = day ∧ B k = trip then (if call < C k then 0 else D k) else lateG A B C D k day trip call
def UniG (A B : Nat → Int) (n : Int) : Prop := ∀ j k : Nat, (j : Int) < n → (k : Int) < n → A j = A k → B j = B k → j = k
section LATE
variable {A B C D : Nat → Int} {m : Mem} {day trip : Int}
theorem isG_uni {n e e' : Int} (u : UniG A B n) (h : IsG A B n day trip e) (h' : IsG A B n day trip e') : e = e' := by
  rcases h with ⟨h1, h2⟩ | ⟨k, h1, h2, h3, h4⟩ <;> rcases h' with ⟨h1', h2'⟩ | ⟨k', h1', h2', h3', h4'⟩
  · omega
  · exact absurd ⟨h3', h4'⟩ (h2 k' h2')
  · exact absurd ⟨h3, h4⟩ (h2' k h2)
  · have := u k k' h2 h2' (by omega) (by omega)
    omega
theorem lateG_none {n : Nat} {c : Int} (h : ∀ k : Nat, k < n → ¬ (A k = day ∧ B k = trip)) : lateG A B C D n day trip c = 0 := by
  induction n with
  | zero => rfl
  | succ n ih =>
    simp only [lateG]
    rw [if_neg (h n (by omega))]
    exact ih (fun k hk => h k (by omega))
theorem lateG_some {n : Nat} {c : Int} {k : Nat} (u : UniG A B n) (hk : k < n) (h1 : A k = day) (h2 : B k = trip) : lateG A B C D n day trip c = if c < C k then 0 else D k := by
  induction n with
  | zero => omega
  | succ n ih =>
    simp only [lateG]
    by_cases hh : A n = day ∧ B n = trip
    · have := u n k (by omega) (by omega) (by omega) (by omega)
      rw [if_pos hh, this]
    · rw [if_neg hh]
      have : k ≠ n := fun q => hh (by rw [← q]; exact ⟨h1, h2⟩)
      exact ih (fun a b ha hb => u a b (by omega) (by omega)) (by omega)
theorem lateG_of {n e : Int} {c : Int} (hn : 0 ≤ n) (u : UniG A B n) (h : IsG A B n day trip e) : (if e = -1 ∨ c < C e.toNat then 0 else D e.toNat) = lateG A B C D n.toNat day trip c := by
  rcases h with ⟨h1, h2⟩ | ⟨k, h1, h2, h3, h4⟩
  · rw [if_pos (Or.inl h1), lateG_none (fun k hk => h2 k (by omega))]
  · rw [lateG_some (k := k) (by rw [Int.toNat_of_nonneg hn]; exact u) (by omega) h3 h4]
    have e1 : e.toNat = k := by omega
    rw [e1]
    by_cases hc : c < C k
    · rw [if_pos (Or.inr hc), if_pos hc]
    · rw [if_neg (by omega), if_neg hc]
theorem lateG_bd {n : Nat} {c : Int} (h : ∀ k : Nat, k < n → 0 ≤ C k ∧ 1 ≤ D k ∧ D k ≤ 120) : 0 ≤ lateG A B C D n day trip c ∧ lateG A B C D n day trip c ≤ 120 := by
  induction n with
  | zero => simp only [lateG]; omega
  | succ n ih =>
    simp only [lateG]
    have := h n (by omega)
    split
    · split <;> omega
    · exact ih (fun k hk => h k (by omega))
theorem lateG_mono {n : Nat} {c c' : Int} (hc : c ≤ c') (h : ∀ k : Nat, k < n → 0 ≤ C k ∧ 1 ≤ D k ∧ D k ≤ 120) : lateG A B C D n day trip c ≤ lateG A B C D n day trip c' := by
  induction n with
  | zero => simp only [lateG]; omega
  | succ n ih =>
    simp only [lateG]
    have := h n (by omega)
    split
    · split <;> split <;> omega
    · exact ih (fun k hk => h k (by omega))
theorem lateG_neg {n : Nat} {c : Int} (hc : c < 0) (h : ∀ k : Nat, k < n → 0 ≤ C k ∧ 1 ≤ D k ∧ D k ≤ 120) : lateG A B C D n day trip c = 0 := by
  induction n with
  | zero => rfl
  | succ n ih =>
    simp only [lateG]
    have := h n (by omega)
    rw [if_pos (by omega : c < C n)]
    split
    · rfl
    · exact ih (fun k hk => h k (by omega))
theorem lateG_congr {A' B' C' D' : Nat → Int} {n : Nat} {c : Int} (h : ∀ k : Nat, k < n → A' k = A k ∧ B' k = B k ∧ C' k = C k ∧ D' k = D k) : lateG A' B' C' D' n day trip c = lateG A B C D n day trip c := by
  induction n with
  | zero => rfl
  | succ n ih =>
    simp only [lateG]
    obtain ⟨h1, h2, h3, h4⟩ := h n (by omega)
    rw [h1, h2, h3, h4, ih (fun k hk => h k (by omega))]
theorem find_ok (h0 : 0 ≤ m 109 0) (h1 : m 109 0 ≤ 12) : Ok (C_Delays_find day trip m) (IsG (m 110) (m 111) (m 109 0) day trip) := by
  unfold C_Delays_find
  refine ok_ltv ?_
  refine ok_br1 (Q := fun r => match r with | .inl _ => ∀ k : Nat, (k : Int) < m 109 0 → ¬ (m 110 k = day ∧ m 111 k = trip) | .inr e => ∃ k : Nat, e = k ∧ (k : Int) < m 109 0 ∧ m 110 k = day ∧ m 111 k = trip) ?_ ?_ ?_
  · refine ok_loop (fun e => 0 ≤ e ∧ e ≤ m 109 0 ∧ ∀ k : Nat, (k : Int) < e → ¬ (m 110 k = day ∧ m 111 k = trip)) (fun e => (m 109 0 - e).toNat) ⟨by omega, h0, fun k hk => by omega⟩ ?_
    rintro e ⟨a1, a2, a3⟩
    unfold C_Delays_find_b1
    refine ok_ite (fun h => ok_grd (by omega) (ok_ite (fun h2 => ok_some ?_) (fun h2 => ok_grd (by unfold InR; omega) (ok_ltv (ok_some ?_))))) (fun h => ok_some ?_)
    · exact ⟨e.toNat, by omega, by omega, h2⟩
    · refine ⟨⟨by omega, by omega, fun k hk => ?_⟩, by omega⟩
      by_cases hh : (k : Int) = e
      · have : k = e.toNat := by omega
        rw [this]; exact h2
      · exact a3 k (by omega)
    · exact fun k hk => a3 k (by omega)
  · exact fun _ h => ok_some (Or.inl ⟨rfl, h⟩)
  · exact fun q h => ok_some (Or.inr h)
theorem lateAt_ok (h0 : 0 ≤ m 0 14) (h1 : m 0 14 ≤ 12) : Ok (M_lateAt day trip m) (IsG (m 10) (m 11) (m 0 14) day trip) := by
  unfold M_lateAt
  refine ok_ltv (ok_ltv ?_)
  refine ok_bq2 (Q := fun r => IsG (m 10) (m 11) (m 0 14) day trip r.1) ?_ (fun _ _ h => ok_some h)
  refine ok_loop (fun s => 0 ≤ s.2 ∧ s.2 ≤ m 0 14 ∧ IsG (m 10) (m 11) s.2 day trip s.1) (fun s => (m 0 14 - s.2).toNat) ⟨by omega, h0, Or.inl ⟨rfl, fun k hk => by omega⟩⟩ ?_
  rintro ⟨t, k⟩ ⟨a1, a2, a3⟩
  dsimp only at a1 a2 a3
  unfold M_lateAt_b1
  refine ok_ite (fun h => ok_grd (by omega) (ok_ltv (ok_grd (by unfold InR; omega) (ok_ltv (ok_some ?_))))) (fun h => ok_some ?_)
  · refine ⟨⟨by dsimp only; omega, by dsimp only; omega, ?_⟩, by dsimp only; omega⟩
    dsimp only
    by_cases hh : m 10 k.toNat = day ∧ m 11 k.toNat = trip
    · rw [if_pos hh]
      exact Or.inr ⟨k.toNat, by omega, by omega, hh⟩
    · rw [if_neg hh]
      rcases a3 with ⟨b1, b2⟩ | ⟨j, b1, b2, b3⟩
      · refine Or.inl ⟨b1, fun j hj => ?_⟩
        by_cases hjk : (j : Int) = k
        · have : j = k.toNat := by omega
          rw [this]; exact hh
        · exact b2 j (by omega)
      · exact Or.inr ⟨j, b1, by omega, b3⟩
  · have : k = m 0 14 := by dsimp only at h; omega
    rw [← this]
    exact a3
def lateC (m : Mem) (day trip c : Int) : Int := lateG (m 110) (m 111) (m 112) (m 113) (m 109 0).toNat day trip c
def lateR (m : Mem) (day trip c : Int) : Int := lateG (m 10) (m 11) (m 12) (m 13) (m 0 14).toNat day trip c
theorem at_ok {e c : Int} (h0 : 0 ≤ m 109 0) (h1 : m 109 0 ≤ 12) (u : UniG (m 110) (m 111) (m 109 0)) (he : IsG (m 110) (m 111) (m 109 0) day trip e) : Ok (C_Delays_at e c m) (fun v => v = lateC m day trip c) := by
  unfold C_Delays_at
  have hb : ¬ e = -1 → 0 ≤ e ∧ e < 12 := by
    rcases he with ⟨q, -⟩ | ⟨k, q, q2, -⟩
    · exact fun z => absurd q z
    · exact fun _ => by omega
  refine ok_grd ⟨fun z => (hb z).1, fun z => (hb z).2, fun z => (hb (fun y => z (Or.inl y))).1, fun z => (hb (fun y => z (Or.inl y))).2⟩ (ok_some ?_)
  exact lateG_of h0 u he
theorem lateOf_ok {c : Int} (h0 : 0 ≤ m 0 14) (h1 : m 0 14 ≤ 12) (u : UniG (m 10) (m 11) (m 0 14)) : Ok (M_lateOf day trip c m) (fun v => v = lateR m day trip c) := by
  unfold M_lateOf
  refine ok_bind (lateAt_ok h0 h1) (fun e he => ok_ltv ?_)
  have hb : ¬ e = -1 → 0 ≤ e ∧ e < 12 := by
    rcases he with ⟨q, -⟩ | ⟨k, q, q2, -⟩
    · exact fun z => absurd q z
    · exact fun _ => by omega
  refine ok_grd ⟨fun z => (hb z).1, fun z => (hb z).2, fun z => (hb (fun y => z (Or.inl y))).1, fun z => (hb (fun y => z (Or.inl y))).2⟩ (ok_some ?_)
  exact lateG_of h0 u he
theorem ID_uniC {mc mm : Mem} (d : ID mc mm) : UniG (mc 110) (mc 111) (mc 109 0) := d.2.2.2.2
theorem ID_uniM {mc mm : Mem} (d : ID mc mm) : UniG (mm 10) (mm 11) (mm 0 14) := by
  obtain ⟨d1, d2, d3, d4, d5⟩ := d
  intro j k hj hk h1 h2
  have q := d4 j (by omega)
  have r := d4 k (by omega)
  exact d5 j k (by omega) (by omega) (by omega) (by omega)
theorem ID_late {mc mm : Mem} (d : ID mc mm) {c : Int} : lateR mm day trip c = lateC mc day trip c := by
  obtain ⟨d1, d2, d3, d4, d5⟩ := d
  unfold lateR lateC
  rw [d1]
  exact lateG_congr (fun k hk => by have := d4 k (by omega); exact ⟨this.1, this.2.1, this.2.2.1, this.2.2.2.1⟩)
theorem lateC_bd {mc mm : Mem} (d : ID mc mm) {c : Int} : 0 ≤ lateC mc day trip c ∧ lateC mc day trip c ≤ 120 := lateG_bd (fun k hk => by have := d.2.2.2.1 k (by omega); omega)
theorem lateC_mono {mc mm : Mem} (d : ID mc mm) {c c' : Int} (h : c ≤ c') : lateC mc day trip c ≤ lateC mc day trip c' := lateG_mono h (fun k hk => by have := d.2.2.2.1 k (by omega); omega)
theorem lateC_neg {mc mm : Mem} (d : ID mc mm) {c : Int} (h : c < 0) : lateC mc day trip c = 0 := lateG_neg h (fun k hk => by have := d.2.2.2.1 k (by omega); omega)
end LATE
theorem st_lateness : ST_lateness Inv := by
  intro mc mm p0 p1 p2 I _ _ _
  obtain ⟨a, b, c, d, e, f, g⟩ := id I
  obtain ⟨t1, t2, t3, t4⟩ := id c
  obtain ⟨d1, d2, d3, d4, d5⟩ := id d
  refine ag_of ?_
  have hI := Inv_thr I 0
  have dT := hI.2.2.2.1
  unfold C_lateness
  refine wp_bind (wp_needCall t3 (fun h => ok_tbd_inr ?_) (fun h1 h2 h3 h4 => ok_tbd_inl (wp_bind (wp_needDay (fun h => ok_tbd_inr ?_) (fun k1 k2 => ok_tbd_inl (ok_bind (find_ok d2 d3) (fun en he => ok_bind (at_ok d2 d3 d5 he) (fun v hv => ok_some ?_))))))))
  all_goals unfold M_lateness
  all_goals refine wp_bq2 (wp_isNoCall (by omega) (by omega) (fun a b => by have := IT_get I.2.2.1 a (by omega); omega) (fun _ => ?_) (fun a b c d => ?_))
  · repeat' (first
    | with_reducible refine ok_ltv ?_
    | with_reducible refine ok_tbd_inl ?_
    | with_reducible refine ok_tbd_inr ?_
    | with_reducible refine wp_bind ?_
    | with_reducible refine wp_bq1 ?_
    | with_reducible refine wp_bq2 ?_
    | (with_reducible refine wp_needNumber (fun _ => ?_) (fun _ _ => ?_)) <;> (try (exfalso; omega))
    | (with_reducible refine wp_needDay (fun _ => ?_) (fun _ _ => ?_)) <;> (try (exfalso; omega))
    | (with_reducible refine wp_needStop (fun _ => ?_) (fun _ _ => ?_)) <;> (try (exfalso; omega))
    | (with_reducible refine wp_needService (fun _ => ?_) (fun _ _ => ?_)) <;> (try (exfalso; omega))
    | (with_reducible refine wp_needTrip (fun _ => ?_) (fun _ _ => ?_)) <;> (try (exfalso; omega))
    | (with_reducible refine wp_needCall (by omega) (fun _ => ?_) (fun _ _ _ _ => ?_)) <;> (try (exfalso; omega))
    | (with_reducible refine wp_needUnlike (fun _ => ?_) (fun _ => ?_)) <;> (try (exfalso; omega))
    | (with_reducible refine wp_needFound (fun _ => ?_) (fun _ => ?_)) <;> (try (exfalso; omega))
    | (with_reducible refine wp_needRoomForTrip (fun _ => ?_) (fun _ => ?_)) <;> (try (exfalso; omega))
    | (with_reducible refine wp_needRoomForSigns (by unfold InR; omega) (fun _ => ?_) (fun _ => ?_)) <;> (try (exfalso; omega))
    | (with_reducible refine wp_isNoStop (by (try simp (disch := omega) only [setM_ne, setM_hit, true_and, and_true]); omega) (by (try simp (disch := omega) only [setM_ne, setM_hit, true_and, and_true]); omega) (fun h => ?_) (fun h1 h2 => ?_)) <;> (try simp (disch := omega) only [setM_ne, setM_hit, true_and, and_true] at h) <;> (try simp (disch := omega) only [setM_ne, setM_hit, true_and, and_true] at h1) <;> (try simp (disch := omega) only [setM_ne, setM_hit, true_and, and_true] at h2) <;> (try (exfalso; omega))
    | (with_reducible refine wp_isNoService (by (try simp (disch := omega) only [setM_ne, setM_hit, true_and, and_true]); omega) (by (try simp (disch := omega) only [setM_ne, setM_hit, true_and, and_true]); omega) (fun h => ?_) (fun h1 h2 => ?_)) <;> (try simp (disch := omega) only [setM_ne, setM_hit, true_and, and_true] at h) <;> (try simp (disch := omega) only [setM_ne, setM_hit, true_and, and_true] at h1) <;> (try simp (disch := omega) only [setM_ne, setM_hit, true_and, and_true] at h2) <;> (try (exfalso; omega))
    | (with_reducible refine wp_isNoTrip (by (try simp (disch := omega) only [setM_ne, setM_hit, true_and, and_true]); omega) (by (try simp (disch := omega) only [setM_ne, setM_hit, true_and, and_true]); omega) (fun h => ?_) (fun h1 h2 => ?_)) <;> (try simp (disch := omega) only [setM_ne, setM_hit, true_and, and_true] at h) <;> (try simp (disch := omega) only [setM_ne, setM_hit, true_and, and_true] at h1) <;> (try simp (disch := omega) only [setM_ne, setM_hit, true_and, and_true] at h2) <;> (try (exfalso; omega))
    | (with_reducible refine wp_isNoDay (fun h => ?_) (fun h1 h2 => ?_)) <;> (try (exfalso; omega))
    | (with_reducible refine wp_isThrownI (fun h => ?_) (fun h => ?_)) <;> (try simp (disch := omega) only [setM_ne, setM_hit, true_and, and_true] at h) <;> (try simp only [isIn0] at h) <;> (try (exfalso; omega))
    | with_reducible refine ok_grd (by (try simp (disch := omega) only [setM_ne, setM_hit, true_and, and_true]); (try unfold InR); omega) ?_
    | (with_reducible refine ok_some ?_) <;> (try dsimp only)
    | (with_reducible refine ok_ite (fun h => ?_) (fun h => ?_)) <;> (try dsimp only at h) <;> (try simp (disch := omega) only [setM_ne, setM_hit, true_and, and_true] at h) <;> (try simp only [isIn0, i01] at h) <;> (try (exfalso; first | exact h trivial | omega)))
    (refine agp_er ?_ ?_ ?_); decide; first | (rw [setM_same]; rfl) | (dsimp only; simp (disch := omega) only [setM_ne, setM_hit, true_and, and_true]; rfl)
    repeat (first | exact I | with_reducible refine Inv_thr ?_ _)
  · have := IT_get I.2.2.1 a (by omega)
    omega
  · have := IT_get I.2.2.1 h1 h2
    omega
  · repeat' (first
    | with_reducible refine ok_ltv ?_
    | with_reducible refine ok_tbd_inl ?_
    | with_reducible refine ok_tbd_inr ?_
    | with_reducible refine wp_bind ?_
    | with_reducible refine wp_bq1 ?_
    | with_reducible refine wp_bq2 ?_
    | (with_reducible refine wp_needNumber (fun _ => ?_) (fun _ _ => ?_)) <;> (try (exfalso; omega))
    | (with_reducible refine wp_needDay (fun _ => ?_) (fun _ _ => ?_)) <;> (try (exfalso; omega))
    | (with_reducible refine wp_needStop (fun _ => ?_) (fun _ _ => ?_)) <;> (try (exfalso; omega))
    | (with_reducible refine wp_needService (fun _ => ?_) (fun _ _ => ?_)) <;> (try (exfalso; omega))
    | (with_reducible refine wp_needTrip (fun _ => ?_) (fun _ _ => ?_)) <;> (try (exfalso; omega))
    | (with_reducible refine wp_needCall (by omega) (fun _ => ?_) (fun _ _ _ _ => ?_)) <;> (try (exfalso; omega))
    | (with_reducible refine wp_needUnlike (fun _ => ?_) (fun _ => ?_)) <;> (try (exfalso; omega))
    | (with_reducible refine wp_needFound (fun _ => ?_) (fun _ => ?_)) <;> (try (exfalso; omega))
    | (with_reducible refine wp_needRoomForTrip (fun _ => ?_) (fun _ => ?_)) <;> (try (exfalso; omega))
    | (with_reducible refine wp_needRoomForSigns (by unfold InR; omega) (fun _ => ?_) (fun _ => ?_)) <;> (try (exfalso; omega))
    | (with_reducible refine wp_isNoStop (by (try simp (disch := omega) only [setM_ne, setM_hit, true_and, and_true]); omega) (by (try simp (disch := omega) only [setM_ne, setM_hit, true_and, and_true]); omega) (fun h => ?_) (fun h1 h2 => ?_)) <;> (try simp (disch := omega) only [setM_ne, setM_hit, true_and, and_true] at h) <;> (try simp (disch := omega) only [setM_ne, setM_hit, true_and, and_true] at h1) <;> (try simp (disch := omega) only [setM_ne, setM_hit, true_and, and_true] at h2) <;> (try (exfalso; omega))
    | (with_reducible refine wp_isNoService (by (try simp (disch := omega) only [setM_ne, setM_hit, true_and, and_true]); omega) (by (try simp (disch := omega) only [setM_ne, setM_hit, true_and, and_true]); omega) (fun h => ?_) (fun h1 h2 => ?_)) <;> (try simp (disch := omega) only [setM_ne, setM_hit, true_and, and_true] at h) <;> (try simp (disch := omega) only [setM_ne, setM_hit, true_and, and_true] at h1) <;> (try simp (disch := omega) only [setM_ne, setM_hit, true_and, and_true] at h2) <;> (try (exfalso; omega))
    | (with_reducible refine wp_isNoTrip (by (try simp (disch := omega) only [setM_ne, setM_hit, true_and, and_true]); omega) (by (try simp (disch := omega) only [setM_ne, setM_hit, true_and, and_true]); omega) (fun h => ?_) (fun h1 h2 => ?_)) <;> (try simp (disch := omega) only [setM_ne, setM_hit, true_and, and_true] at h) <;> (try simp (disch := omega) only [setM_ne, setM_hit, true_and, and_true] at h1) <;> (try simp (disch := omega) only [setM_ne, setM_hit, true_and, and_true] at h2) <;> (try (exfalso; omega))
    | (with_reducible refine wp_isNoDay (fun h => ?_) (fun h1 h2 => ?_)) <;> (try (exfalso; omega))
    | (with_reducible refine wp_isThrownI (fun h => ?_) (fun h => ?_)) <;> (try simp (disch := omega) only [setM_ne, setM_hit, true_and, and_true] at h) <;> (try simp only [isIn0] at h) <;> (try (exfalso; omega))
    | with_reducible refine ok_grd (by (try simp (disch := omega) only [setM_ne, setM_hit, true_and, and_true]); (try unfold InR); omega) ?_
    | (with_reducible refine ok_some ?_) <;> (try dsimp only)
    | (with_reducible refine ok_ite (fun h => ?_) (fun h => ?_)) <;> (try dsimp only at h) <;> (try simp (disch := omega) only [setM_ne, setM_hit, true_and, and_true] at h) <;> (try simp only [isIn0, i01] at h) <;> (try (exfalso; first | exact h trivial | omega)))
    (refine agp_er ?_ ?_ ?_); decide; first | (rw [setM_same]; rfl) | (dsimp only; simp (disch := omega) only [setM_ne, setM_hit, true_and, and_true]; rfl)
    repeat (first | exact I | with_reducible refine Inv_thr ?_ _)
  · have := IT_get I.2.2.1 h1 h2
    omega
  · refine ok_ite (fun q => absurd rfl q) (fun _ => ?_)
    refine wp_bq2 (wp_isNoDay (fun _ => by omega) (fun _ _ => ?_))
    refine ok_ite (fun q => absurd rfl q) (fun _ => ?_)
    refine ok_bind (lateOf_ok (by (try dsimp only); first | omega | (simp (disch := omega) only [setM_ne, setM_hit, true_and, and_true]; done) | (simp (disch := omega) only [setM_ne, setM_hit, true_and, and_true]; omega)) (by (try dsimp only); first | omega | (simp (disch := omega) only [setM_ne, setM_hit, true_and, and_true]; done) | (simp (disch := omega) only [setM_ne, setM_hit, true_and, and_true]; omega)) (ID_uniM (Inv_thr hI 0).2.2.2.1)) (fun z hz => ok_some ?_)
    (refine agp_ok ?_ ?_ ?_); (first | exact setM_same _ _ _ _ | (focus ((try dsimp only); simp (disch := omega) only [setM_ne, setM_hit, true_and, and_true]; done)) | (focus ((try dsimp only); simp (disch := omega) only [setM_ne, setM_hit, true_and, and_true]; omega)))
    · rw [hz, hv]
      exact ID_late (Inv_thr hI 0).2.2.2.1
    · repeat (first | exact I | with_reducible refine Inv_thr ?_ _)
theorem isG_tr {A B A' B' : Nat → Int} {n e day trip : Int} (h : ∀ k : Nat, (k : Int) < n → A' k = A k ∧ B' k = B k) (g : IsG A' B' n day trip e) : IsG A B n day trip e := by
  rcases g with ⟨g1, g2⟩ | ⟨k, g1, g2, g3, g4⟩
  · exact Or.inl ⟨g1, fun k hk => by have := h k hk; rw [← this.1, ← this.2]; exact g2 k hk⟩
  · exact Or.inr ⟨k, g1, g2, by have := h k g2; omega, by have := h k g2; omega⟩
theorem lateAt_okI {mc mm : Mem} {day trip : Int} (d : ID mc mm) : Ok (M_lateAt day trip mm) (IsG (mc 110) (mc 111) (mc 109 0) day trip) := by
  obtain ⟨d1, d2, d3, d4, d5⟩ := d
  refine (lateAt_ok (by omega) (by omega)).mono (fun e h => ?_)
  rw [d1] at h
  exact isG_tr (fun k hk => ⟨(d4 k hk).1, (d4 k hk).2.1⟩) h
theorem st_late : ST_late Inv := by
  intro mc mm p0 p1 p2 p3 I _ _ _ _
  obtain ⟨a, b, c, d, e, f, g⟩ := id I
  obtain ⟨t1, t2, t3, t4⟩ := id c
  obtain ⟨d1, d2, d3, d4, d5⟩ := id d
  refine ag_of ?_
  unfold C_late C_Delays_remove C_Delays_put
  refine wp_bind (wp_needCall t3 (fun h => ok_tbd_inr ?_) (fun h1 h2 h3 h4 => ok_tbd_inl (wp_bind (wp_needDay (fun h => ok_tbd_inr ?_) (fun k1 k2 => ok_tbd_inl (wp_bind (wp_needNumber (fun h => ok_tbd_inr ?_) (fun k3 k4 => ok_tbd_inl (ok_bind (find_ok d2 d3) (fun en he => ok_ltv ?_))))))))))
  case refine_1 =>
    unfold M_late
    refine wp_bq2 (wp_isNoCall (by omega) (by omega) (fun a b => by have := IT_get I.2.2.1 a (by omega); omega) (fun _ => ?_) (fun a b c d => ?_))
    · repeat' (first
    | with_reducible refine ok_ltv ?_
    | with_reducible refine ok_tbd_inl ?_
    | with_reducible refine ok_tbd_inr ?_
    | with_reducible refine wp_bind ?_
    | with_reducible refine wp_bq1 ?_
    | with_reducible refine wp_bq2 ?_
    | (with_reducible refine wp_needNumber (fun _ => ?_) (fun _ _ => ?_)) <;> (try (exfalso; omega))
    | (with_reducible refine wp_needDay (fun _ => ?_) (fun _ _ => ?_)) <;> (try (exfalso; omega))
    | (with_reducible refine wp_needStop (fun _ => ?_) (fun _ _ => ?_)) <;> (try (exfalso; omega))
    | (with_reducible refine wp_needService (fun _ => ?_) (fun _ _ => ?_)) <;> (try (exfalso; omega))
    | (with_reducible refine wp_needTrip (fun _ => ?_) (fun _ _ => ?_)) <;> (try (exfalso; omega))
    | (with_reducible refine wp_needCall (by omega) (fun _ => ?_) (fun _ _ _ _ => ?_)) <;> (try (exfalso; omega))
    | (with_reducible refine wp_needUnlike (fun _ => ?_) (fun _ => ?_)) <;> (try (exfalso; omega))
    | (with_reducible refine wp_needFound (fun _ => ?_) (fun _ => ?_)) <;> (try (exfalso; omega))
    | (with_reducible refine wp_needRoomForTrip (fun _ => ?_) (fun _ => ?_)) <;> (try (exfalso; omega))
    | (with_reducible refine wp_needRoomForSigns (by unfold InR; omega) (fun _ => ?_) (fun _ => ?_)) <;> (try (exfalso; omega))
    | (with_reducible refine wp_isNoStop (by (try simp (disch := omega) only [setM_ne, setM_hit, true_and, and_true]); omega) (by (try simp (disch := omega) only [setM_ne, setM_hit, true_and, and_true]); omega) (fun h => ?_) (fun h1 h2 => ?_)) <;> (try simp (disch := omega) only [setM_ne, setM_hit, true_and, and_true] at h) <;> (try simp (disch := omega) only [setM_ne, setM_hit, true_and, and_true] at h1) <;> (try simp (disch := omega) only [setM_ne, setM_hit, true_and, and_true] at h2) <;> (try (exfalso; omega))
    | (with_reducible refine wp_isNoService (by (try simp (disch := omega) only [setM_ne, setM_hit, true_and, and_true]); omega) (by (try simp (disch := omega) only [setM_ne, setM_hit, true_and, and_true]); omega) (fun h => ?_) (fun h1 h2 => ?_)) <;> (try simp (disch := omega) only [setM_ne, setM_hit, true_and, and_true] at h) <;> (try simp (disch := omega) only [setM_ne, setM_hit, true_and, and_true] at h1) <;> (try simp (disch := omega) only [setM_ne, setM_hit, true_and, and_true] at h2) <;> (try (exfalso; omega))
    | (with_reducible refine wp_isNoTrip (by (try simp (disch := omega) only [setM_ne, setM_hit, true_and, and_true]); omega) (by (try simp (disch := omega) only [setM_ne, setM_hit, true_and, and_true]); omega) (fun h => ?_) (fun h1 h2 => ?_)) <;> (try simp (disch := omega) only [setM_ne, setM_hit, true_and, and_true] at h) <;> (try simp (disch := omega) only [setM_ne, setM_hit, true_and, and_true] at h1) <;> (try simp (disch := omega) only [setM_ne, setM_hit, true_and, and_true] at h2) <;> (try (exfalso; omega))
    | (with_reducible refine wp_isNoDay (fun h => ?_) (fun h1 h2 => ?_)) <;> (try (exfalso; omega))
    | (with_reducible refine wp_isThrownI (fun h => ?_) (fun h => ?_)) <;> (try simp (disch := omega) only [setM_ne, setM_hit, true_and, and_true] at h) <;> (try simp only [isIn0] at h) <;> (try (exfalso; omega))
    | with_reducible refine ok_grd (by (try simp (disch := omega) only [setM_ne, setM_hit, true_and, and_true]); (try unfold InR); omega) ?_
    | (with_reducible refine ok_some ?_) <;> (try dsimp only)
    | (with_reducible refine ok_ite (fun h => ?_) (fun h => ?_)) <;> (try dsimp only at h) <;> (try simp (disch := omega) only [setM_ne, setM_hit, true_and, and_true] at h) <;> (try simp only [isIn0, i01] at h) <;> (try (exfalso; first | exact h trivial | omega)))
      (refine agp_er ?_ ?_ ?_); decide; first | (rw [setM_same]; rfl) | (dsimp only; simp (disch := omega) only [setM_ne, setM_hit, true_and, and_true]; rfl)
      repeat (first | exact I | with_reducible refine Inv_thr ?_ _)
    · have := IT_get I.2.2.1 a (by omega)
      omega
  case refine_2 =>
    unfold M_late
    refine wp_bq2 (wp_isNoCall (by omega) (by omega) (fun a b => by have := IT_get I.2.2.1 a (by omega); omega) (fun _ => ?_) (fun a b c d => ?_))
    · have := IT_get I.2.2.1 h1 h2
      omega
    · repeat' (first
    | with_reducible refine ok_ltv ?_
    | with_reducible refine ok_tbd_inl ?_
    | with_reducible refine ok_tbd_inr ?_
    | with_reducible refine wp_bind ?_
    | with_reducible refine wp_bq1 ?_
    | with_reducible refine wp_bq2 ?_
    | (with_reducible refine wp_needNumber (fun _ => ?_) (fun _ _ => ?_)) <;> (try (exfalso; omega))
    | (with_reducible refine wp_needDay (fun _ => ?_) (fun _ _ => ?_)) <;> (try (exfalso; omega))
    | (with_reducible refine wp_needStop (fun _ => ?_) (fun _ _ => ?_)) <;> (try (exfalso; omega))
    | (with_reducible refine wp_needService (fun _ => ?_) (fun _ _ => ?_)) <;> (try (exfalso; omega))
    | (with_reducible refine wp_needTrip (fun _ => ?_) (fun _ _ => ?_)) <;> (try (exfalso; omega))
    | (with_reducible refine wp_needCall (by omega) (fun _ => ?_) (fun _ _ _ _ => ?_)) <;> (try (exfalso; omega))
    | (with_reducible refine wp_needUnlike (fun _ => ?_) (fun _ => ?_)) <;> (try (exfalso; omega))
    | (with_reducible refine wp_needFound (fun _ => ?_) (fun _ => ?_)) <;> (try (exfalso; omega))
    | (with_reducible refine wp_needRoomForTrip (fun _ => ?_) (fun _ => ?_)) <;> (try (exfalso; omega))
    | (with_reducible refine wp_needRoomForSigns (by unfold InR; omega) (fun _ => ?_) (fun _ => ?_)) <;> (try (exfalso; omega))
    | (with_reducible refine wp_isNoStop (by (try simp (disch := omega) only [setM_ne, setM_hit, true_and, and_true]); omega) (by (try simp (disch := omega) only [setM_ne, setM_hit, true_and, and_true]); omega) (fun h => ?_) (fun h1 h2 => ?_)) <;> (try simp (disch := omega) only [setM_ne, setM_hit, true_and, and_true] at h) <;> (try simp (disch := omega) only [setM_ne, setM_hit, true_and, and_true] at h1) <;> (try simp (disch := omega) only [setM_ne, setM_hit, true_and, and_true] at h2) <;> (try (exfalso; omega))
    | (with_reducible refine wp_isNoService (by (try simp (disch := omega) only [setM_ne, setM_hit, true_and, and_true]); omega) (by (try simp (disch := omega) only [setM_ne, setM_hit, true_and, and_true]); omega) (fun h => ?_) (fun h1 h2 => ?_)) <;> (try simp (disch := omega) only [setM_ne, setM_hit, true_and, and_true] at h) <;> (try simp (disch := omega) only [setM_ne, setM_hit, true_and, and_true] at h1) <;> (try simp (disch := omega) only [setM_ne, setM_hit, true_and, and_true] at h2) <;> (try (exfalso; omega))
    | (with_reducible refine wp_isNoTrip (by (try simp (disch := omega) only [setM_ne, setM_hit, true_and, and_true]); omega) (by (try simp (disch := omega) only [setM_ne, setM_hit, true_and, and_true]); omega) (fun h => ?_) (fun h1 h2 => ?_)) <;> (try simp (disch := omega) only [setM_ne, setM_hit, true_and, and_true] at h) <;> (try simp (disch := omega) only [setM_ne, setM_hit, true_and, and_true] at h1) <;> (try simp (disch := omega) only [setM_ne, setM_hit, true_and, and_true] at h2) <;> (try (exfalso; omega))
    | (with_reducible refine wp_isNoDay (fun h => ?_) (fun h1 h2 => ?_)) <;> (try (exfalso; omega))
    | (with_reducible refine wp_isThrownI (fun h => ?_) (fun h => ?_)) <;> (try simp (disch := omega) only [setM_ne, setM_hit, true_and, and_true] at h) <;> (try simp only [isIn0] at h) <;> (try (exfalso; omega))
    | with_reducible refine ok_grd (by (try simp (disch := omega) only [setM_ne, setM_hit, true_and, and_true]); (try unfold InR); omega) ?_
    | (with_reducible refine ok_some ?_) <;> (try dsimp only)
    | (with_reducible refine ok_ite (fun h => ?_) (fun h => ?_)) <;> (try dsimp only at h) <;> (try simp (disch := omega) only [setM_ne, setM_hit, true_and, and_true] at h) <;> (try simp only [isIn0, i01] at h) <;> (try (exfalso; first | exact h trivial | omega)))
      (refine agp_er ?_ ?_ ?_); decide; first | (rw [setM_same]; rfl) | (dsimp only; simp (disch := omega) only [setM_ne, setM_hit, true_and, and_true]; rfl)
      repeat (first | exact I | with_reducible refine Inv_thr ?_ _)
  case refine_3 =>
    unfold M_late
    refine wp_bq2 (wp_isNoCall (by omega) (by omega) (fun a b => by have := IT_get I.2.2.1 a (by omega); omega) (fun _ => ?_) (fun a b c d => ?_))
    · have := IT_get I.2.2.1 h1 h2
      omega
    · repeat' (first
    | with_reducible refine ok_ltv ?_
    | with_reducible refine ok_tbd_inl ?_
    | with_reducible refine ok_tbd_inr ?_
    | with_reducible refine wp_bind ?_
    | with_reducible refine wp_bq1 ?_
    | with_reducible refine wp_bq2 ?_
    | (with_reducible refine wp_needNumber (fun _ => ?_) (fun _ _ => ?_)) <;> (try (exfalso; omega))
    | (with_reducible refine wp_needDay (fun _ => ?_) (fun _ _ => ?_)) <;> (try (exfalso; omega))
    | (with_reducible refine wp_needStop (fun _ => ?_) (fun _ _ => ?_)) <;> (try (exfalso; omega))
    | (with_reducible refine wp_needService (fun _ => ?_) (fun _ _ => ?_)) <;> (try (exfalso; omega))
    | (with_reducible refine wp_needTrip (fun _ => ?_) (fun _ _ => ?_)) <;> (try (exfalso; omega))
    | (with_reducible refine wp_needCall (by omega) (fun _ => ?_) (fun _ _ _ _ => ?_)) <;> (try (exfalso; omega))
    | (with_reducible refine wp_needUnlike (fun _ => ?_) (fun _ => ?_)) <;> (try (exfalso; omega))
    | (with_reducible refine wp_needFound (fun _ => ?_) (fun _ => ?_)) <;> (try (exfalso; omega))
    | (with_reducible refine wp_needRoomForTrip (fun _ => ?_) (fun _ => ?_)) <;> (try (exfalso; omega))
    | (with_reducible refine wp_needRoomForSigns (by unfold InR; omega) (fun _ => ?_) (fun _ => ?_)) <;> (try (exfalso; omega))
    | (with_reducible refine wp_isNoStop (by (try simp (disch := omega) only [setM_ne, setM_hit, true_and, and_true]); omega) (by (try simp (disch := omega) only [setM_ne, setM_hit, true_and, and_true]); omega) (fun h => ?_) (fun h1 h2 => ?_)) <;> (try simp (disch := omega) only [setM_ne, setM_hit, true_and, and_true] at h) <;> (try simp (disch := omega) only [setM_ne, setM_hit, true_and, and_true] at h1) <;> (try simp (disch := omega) only [setM_ne, setM_hit, true_and, and_true] at h2) <;> (try (exfalso; omega))
    | (with_reducible refine wp_isNoService (by (try simp (disch := omega) only [setM_ne, setM_hit, true_and, and_true]); omega) (by (try simp (disch := omega) only [setM_ne, setM_hit, true_and, and_true]); omega) (fun h => ?_) (fun h1 h2 => ?_)) <;> (try simp (disch := omega) only [setM_ne, setM_hit, true_and, and_true] at h) <;> (try simp (disch := omega) only [setM_ne, setM_hit, true_and, and_true] at h1) <;> (try simp (disch := omega) only [setM_ne, setM_hit, true_and, and_true] at h2) <;> (try (exfalso; omega))
    | (with_reducible refine wp_isNoTrip (by (try simp (disch := omega) only [setM_ne, setM_hit, true_and, and_true]); omega) (by (try simp (disch := omega) only [setM_ne, setM_hit, true_and, and_true]); omega) (fun h => ?_) (fun h1 h2 => ?_)) <;> (try simp (disch := omega) only [setM_ne, setM_hit, true_and, and_true] at h) <;> (try simp (disch := omega) only [setM_ne, setM_hit, true_and, and_true] at h1) <;> (try simp (disch := omega) only [setM_ne, setM_hit, true_and, and_true] at h2) <;> (try (exfalso; omega))
    | (with_reducible refine wp_isNoDay (fun h => ?_) (fun h1 h2 => ?_)) <;> (try (exfalso; omega))
    | (with_reducible refine wp_isThrownI (fun h => ?_) (fun h => ?_)) <;> (try simp (disch := omega) only [setM_ne, setM_hit, true_and, and_true] at h) <;> (try simp only [isIn0] at h) <;> (try (exfalso; omega))
    | with_reducible refine ok_grd (by (try simp (disch := omega) only [setM_ne, setM_hit, true_and, and_true]); (try unfold InR); omega) ?_
    | (with_reducible refine ok_some ?_) <;> (try dsimp only)
    | (with_reducible refine ok_ite (fun h => ?_) (fun h => ?_)) <;> (try dsimp only at h) <;> (try simp (disch := omega) only [setM_ne, setM_hit, true_and, and_true] at h) <;> (try simp only [isIn0, i01] at h) <;> (try (exfalso; first | exact h trivial | omega)))
      (refine agp_er ?_ ?_ ?_); decide; first | (rw [setM_same]; rfl) | (dsimp only; simp (disch := omega) only [setM_ne, setM_hit, true_and, and_true]; rfl)
      repeat (first | exact I | with_reducible refine Inv_thr ?_ _)
  case refine_4 =>
    have hb : ¬ en = -1 → 0 ≤ en ∧ en < mc 109 0 := by
      rcases he with ⟨q, -⟩ | ⟨k, q, q2, -⟩
      · exact fun z => absurd q z
      · exact fun _ => by omega
    have hv : ¬ en = -1 → mm 13 en.toNat = mc 113 en.toNat := fun z => (d4 en.toNat (by have := hb z; omega)).2.2.2.1
    have hz : ¬ en = -1 → mc 110 en.toNat = p0 ∧ mc 111 en.toNat = p1 := by
      rcases he with ⟨q, -⟩ | ⟨k, q, q2, q3⟩
      · exact fun z => absurd q z
      · intro _
        have : en.toNat = k := by omega
        rw [this]
        exact q3
    have hn : en = -1 → ∀ k : Nat, (k : Int) < mc 109 0 → ¬ (mc 110 k = p0 ∧ mc 111 k = p1) := by
      rcases he with ⟨q, q2⟩ | ⟨k, q, q2, q3⟩
      · exact fun _ => q2
      · intro z
        omega
    have gi := IT_get I.2.2.1 h1 h2
    repeat' (first
    | with_reducible refine ok_ltv ?_
    | with_reducible refine ok_tbd_inl ?_
    | with_reducible refine ok_tbd_inr ?_
    | with_reducible refine wp_bind ?_
    | with_reducible refine wp_bq1 ?_
    | with_reducible refine wp_bq2 ?_
    | (with_reducible refine wp_needNumber (fun _ => ?_) (fun _ _ => ?_)) <;> (try (exfalso; omega))
    | (with_reducible refine wp_needDay (fun _ => ?_) (fun _ _ => ?_)) <;> (try (exfalso; omega))
    | (with_reducible refine wp_needStop (fun _ => ?_) (fun _ _ => ?_)) <;> (try (exfalso; omega))
    | (with_reducible refine wp_needService (fun _ => ?_) (fun _ _ => ?_)) <;> (try (exfalso; omega))
    | (with_reducible refine wp_needTrip (fun _ => ?_) (fun _ _ => ?_)) <;> (try (exfalso; omega))
    | (with_reducible refine wp_needCall (by omega) (fun _ => ?_) (fun _ _ _ _ => ?_)) <;> (try (exfalso; omega))
    | (with_reducible refine wp_needUnlike (fun _ => ?_) (fun _ => ?_)) <;> (try (exfalso; omega))
    | (with_reducible refine wp_needFound (fun _ => ?_) (fun _ => ?_)) <;> (try (exfalso; omega))
    | (with_reducible refine wp_needRoomForTrip (fun _ => ?_) (fun _ => ?_)) <;> (try (exfalso; omega))
    | (with_reducible refine wp_needRoomForSigns (by unfold InR; omega) (fun _ => ?_) (fun _ => ?_)) <;> (try (exfalso; omega))
    | (with_reducible refine wp_isNoStop (by (try simp (disch := omega) only [setM_ne, setM_hit, true_and, and_true]); omega) (by (try simp (disch := omega) only [setM_ne, setM_hit, true_and, and_true]); omega) (fun h => ?_) (fun h1 h2 => ?_)) <;> (try simp (disch := omega) only [setM_ne, setM_hit, true_and, and_true] at h) <;> (try simp (disch := omega) only [setM_ne, setM_hit, true_and, and_true] at h1) <;> (try simp (disch := omega) only [setM_ne, setM_hit, true_and, and_true] at h2) <;> (try (exfalso; omega))
    | (with_reducible refine wp_isNoService (by (try simp (disch := omega) only [setM_ne, setM_hit, true_and, and_true]); omega) (by (try simp (disch := omega) only [setM_ne, setM_hit, true_and, and_true]); omega) (fun h => ?_) (fun h1 h2 => ?_)) <;> (try simp (disch := omega) only [setM_ne, setM_hit, true_and, and_true] at h) <;> (try simp (disch := omega) only [setM_ne, setM_hit, true_and, and_true] at h1) <;> (try simp (disch := omega) only [setM_ne, setM_hit, true_and, and_true] at h2) <;> (try (exfalso; omega))
    | (with_reducible refine wp_isNoTrip (by (try simp (disch := omega) only [setM_ne, setM_hit, true_and, and_true]); omega) (by (try simp (disch := omega) only [setM_ne, setM_hit, true_and, and_true]); omega) (fun h => ?_) (fun h1 h2 => ?_)) <;> (try simp (disch := omega) only [setM_ne, setM_hit, true_and, and_true] at h) <;> (try simp (disch := omega) only [setM_ne, setM_hit, true_and, and_true] at h1) <;> (try simp (disch := omega) only [setM_ne, setM_hit, true_and, and_true] at h2) <;> (try (exfalso; omega))
    | (with_reducible refine wp_isNoDay (fun h => ?_) (fun h1 h2 => ?_)) <;> (try (exfalso; omega))
    | (with_reducible refine wp_isThrownI (fun h => ?_) (fun h => ?_)) <;> (try simp (disch := omega) only [setM_ne, setM_hit, true_and, and_true] at h) <;> (try simp only [isIn0] at h) <;> (try (exfalso; omega))
    | with_reducible refine ok_grd (by (try simp (disch := omega) only [setM_ne, setM_hit, true_and, and_true]); (try unfold InR); omega) ?_
    | (with_reducible refine ok_some ?_) <;> (try dsimp only)
    | (with_reducible refine ok_ite (fun h => ?_) (fun h => ?_)) <;> (try dsimp only at h) <;> (try simp (disch := omega) only [setM_ne, setM_hit, true_and, and_true] at h) <;> (try simp only [isIn0, i01] at h) <;> (try (exfalso; first | exact h trivial | omega)))
    all_goals unfold M_late
    all_goals refine wp_bq2 (wp_isNoCall (by omega) (by omega) (fun a b => by have := IT_get I.2.2.1 a (by omega); omega) (fun _ => by omega) (fun _ _ _ _ => ?_))
    all_goals refine ok_ite (fun q => absurd rfl q) (fun _ => ?_)
    all_goals refine wp_bq2 (wp_isThrownI (fun h => by exfalso; simp only [isIn0] at h; omega) (fun h => ?_))
    all_goals refine ok_ite (fun q => absurd rfl q) (fun _ => ?_)
    all_goals refine ok_bind (lateAt_okI (Inv_thr (Inv_thr I 0) 0).2.2.2.1) (fun e' he' => ?_)
    all_goals have ee := isG_uni d5 he' he
    all_goals subst ee
    all_goals repeat' (first
    | with_reducible refine ok_ltv ?_
    | with_reducible refine ok_tbd_inl ?_
    | with_reducible refine ok_tbd_inr ?_
    | with_reducible refine wp_bind ?_
    | with_reducible refine wp_bq1 ?_
    | with_reducible refine wp_bq2 ?_
    | (with_reducible refine wp_needNumber (fun _ => ?_) (fun _ _ => ?_)) <;> (try (exfalso; omega))
    | (with_reducible refine wp_needDay (fun _ => ?_) (fun _ _ => ?_)) <;> (try (exfalso; omega))
    | (with_reducible refine wp_needStop (fun _ => ?_) (fun _ _ => ?_)) <;> (try (exfalso; omega))
    | (with_reducible refine wp_needService (fun _ => ?_) (fun _ _ => ?_)) <;> (try (exfalso; omega))
    | (with_reducible refine wp_needTrip (fun _ => ?_) (fun _ _ => ?_)) <;> (try (exfalso; omega))
    | (with_reducible refine wp_needCall (by omega) (fun _ => ?_) (fun _ _ _ _ => ?_)) <;> (try (exfalso; omega))
    | (with_reducible refine wp_needUnlike (fun _ => ?_) (fun _ => ?_)) <;> (try (exfalso; omega))
    | (with_reducible refine wp_needFound (fun _ => ?_) (fun _ => ?_)) <;> (try (exfalso; omega))
    | (with_reducible refine wp_needRoomForTrip (fun _ => ?_) (fun _ => ?_)) <;> (try (exfalso; omega))
    | (with_reducible refine wp_needRoomForSigns (by unfold InR; omega) (fun _ => ?_) (fun _ => ?_)) <;> (try (exfalso; omega))
    | (with_reducible refine wp_isNoStop (by (try simp (disch := omega) only [setM_ne, setM_hit, true_and, and_true]); omega) (by (try simp (disch := omega) only [setM_ne, setM_hit, true_and, and_true]); omega) (fun h => ?_) (fun h1 h2 => ?_)) <;> (try simp (disch := omega) only [setM_ne, setM_hit, true_and, and_true] at h) <;> (try simp (disch := omega) only [setM_ne, setM_hit, true_and, and_true] at h1) <;> (try simp (disch := omega) only [setM_ne, setM_hit, true_and, and_true] at h2) <;> (try (exfalso; omega))
    | (with_reducible refine wp_isNoService (by (try simp (disch := omega) only [setM_ne, setM_hit, true_and, and_true]); omega) (by (try simp (disch := omega) only [setM_ne, setM_hit, true_and, and_true]); omega) (fun h => ?_) (fun h1 h2 => ?_)) <;> (try simp (disch := omega) only [setM_ne, setM_hit, true_and, and_true] at h) <;> (try simp (disch := omega) only [setM_ne, setM_hit, true_and, and_true] at h1) <;> (try simp (disch := omega) only [setM_ne, setM_hit, true_and, and_true] at h2) <;> (try (exfalso; omega))
    | (with_reducible refine wp_isNoTrip (by (try simp (disch := omega) only [setM_ne, setM_hit, true_and, and_true]); omega) (by (try simp (disch := omega) only [setM_ne, setM_hit, true_and, and_true]); omega) (fun h => ?_) (fun h1 h2 => ?_)) <;> (try simp (disch := omega) only [setM_ne, setM_hit, true_and, and_true] at h) <;> (try simp (disch := omega) only [setM_ne, setM_hit, true_and, and_true] at h1) <;> (try simp (disch := omega) only [setM_ne, setM_hit, true_and, and_true] at h2) <;> (try (exfalso; omega))
    | (with_reducible refine wp_isNoDay (fun h => ?_) (fun h1 h2 => ?_)) <;> (try (exfalso; omega))
    | (with_reducible refine wp_isThrownI (fun h => ?_) (fun h => ?_)) <;> (try simp (disch := omega) only [setM_ne, setM_hit, true_and, and_true] at h) <;> (try simp only [isIn0] at h) <;> (try (exfalso; omega))
    | with_reducible refine ok_grd (by (try simp (disch := omega) only [setM_ne, setM_hit, true_and, and_true]); (try unfold InR); omega) ?_
    | (with_reducible refine ok_some ?_) <;> (try dsimp only)
    | (with_reducible refine ok_ite (fun h => ?_) (fun h => ?_)) <;> (try dsimp only at h) <;> (try simp (disch := omega) only [setM_ne, setM_hit, true_and, and_true] at h) <;> (try simp only [isIn0, i01] at h) <;> (try (exfalso; first | exact h trivial | omega)))
    · (refine agp_ok ?_ ?_ ?_); (first | exact setM_same _ _ _ _ | (focus ((try dsimp only); simp (disch := omega) only [setM_ne, setM_hit, true_and, and_true]; done)) | (focus ((try dsimp only); simp (disch := omega) only [setM_ne, setM_hit, true_and, and_true]; omega)))
      · (try dsimp only); first | omega | (simp (disch := omega) only [setM_ne, setM_hit, true_and, and_true]; done) | (simp (disch := omega) only [setM_ne, setM_hit, true_and, and_true]; omega)
      · repeat (first | exact I | with_reducible refine Inv_thr ?_ _)
    · (refine agp_ok ?_ ?_ ?_); (first | exact setM_same _ _ _ _ | (focus ((try dsimp only); simp (disch := omega) only [setM_ne, setM_hit, true_and, and_true]; done)) | (focus ((try dsimp only); simp (disch := omega) only [setM_ne, setM_hit, true_and, and_true]; omega)))
      · (try dsimp only); first | omega | (simp (disch := omega) only [setM_ne, setM_hit, true_and, and_true]; done) | (simp (disch := omega) only [setM_ne, setM_hit, true_and, and_true]; omega)
      · refine ⟨IS_fr a (by intro c i h; unfold cS at h; first | rfl | (simp (disch := omega) only [setM_ne, setM_hit, true_and, and_true])) (by intro c i h; unfold mS at h; first | rfl | (simp (disch := omega) only [setM_ne, setM_hit, true_and, and_true])), IV_fr b (by intro c i h; unfold cV at h; first | rfl | (simp (disch := omega) only [setM_ne, setM_hit, true_and, and_true])) (by intro c i h; unfold mV at h; first | rfl | (simp (disch := omega) only [setM_ne, setM_hit, true_and, and_true])), IT_fr c (by intro c i h; unfold cT at h; first | rfl | (simp (disch := omega) only [setM_ne, setM_hit, true_and, and_true])) (by intro c i h; unfold mT at h; first | rfl | (simp (disch := omega) only [setM_ne, setM_hit, true_and, and_true])), ?_, IR_fr e (by intro c i h; unfold cR at h; first | rfl | (simp (disch := omega) only [setM_ne, setM_hit, true_and, and_true])) (by intro c i h; unfold mR at h; first | rfl | (simp (disch := omega) only [setM_ne, setM_hit, true_and, and_true])), IC_fr f (by intro c i h; unfold cK at h; first | rfl | (simp (disch := omega) only [setM_ne, setM_hit, true_and, and_true])) (by intro c i h; unfold mK at h; first | rfl | (simp (disch := omega) only [setM_ne, setM_hit, true_and, and_true])), IW_fr g (by intro c i h; unfold cW at h; first | rfl | (simp (disch := omega) only [setM_ne, setM_hit, true_and, and_true])) (by intro c i h; unfold mW at h; first | rfl | (simp (disch := omega) only [setM_ne, setM_hit, true_and, and_true]))⟩
        have hb2 := hb (by assumption)
        refine ⟨?_, ?_, ?_, fun k hk => ?_, fun j k hj hk => ?_⟩
        · (try dsimp only); first | omega | (simp (disch := omega) only [setM_ne, setM_hit, true_and, and_true]; done) | (simp (disch := omega) only [setM_ne, setM_hit, true_and, and_true]; omega)
        · (try dsimp only); first | omega | (simp (disch := omega) only [setM_ne, setM_hit, true_and, and_true]; done) | (simp (disch := omega) only [setM_ne, setM_hit, true_and, and_true]; omega)
        · (try dsimp only); first | omega | (simp (disch := omega) only [setM_ne, setM_hit, true_and, and_true]; done) | (simp (disch := omega) only [setM_ne, setM_hit, true_and, and_true]; omega)
        · simp (disch := omega) only [setM_ne, setM_hit, true_and, and_true] at hk
          have q := d4 k (by omega)
          have q2 := d4 (mc 109 0 - 1).toNat (by omega)
          have e1 : mm 0 14 - 1 = mc 109 0 - 1 := by omega
          by_cases hh : k = e'.toNat
          · simp (disch := omega) only [setM_ne, setM_hit, true_and, and_true]
            rw [e1]
            exact q2
          · simp (disch := omega) only [setM_ne, setM_hit, true_and, and_true]
            exact q
        · simp (disch := omega) only [setM_ne, setM_hit, true_and, and_true] at hj
          simp (disch := omega) only [setM_ne, setM_hit, true_and, and_true] at hk
          by_cases hj1 : j = e'.toNat
          · by_cases hk1 : k = e'.toNat
            · intro _ _
              omega
            · simp (disch := omega) only [setM_ne, setM_hit, true_and, and_true]
              intro x1 x2
              have := d5 (mc 109 0 - 1).toNat k (by omega) (by omega) x1 x2
              omega
          · by_cases hk1 : k = e'.toNat
            · simp (disch := omega) only [setM_ne, setM_hit, true_and, and_true]
              intro x1 x2
              have := d5 j (mc 109 0 - 1).toNat (by omega) (by omega) x1 x2
              omega
            · simp (disch := omega) only [setM_ne, setM_hit, true_and, and_true]
              intro x1 x2
              exact d5 j k (by omega) (by omega) x1 x2
    · (refine agp_er ?_ ?_ ?_); decide; first | (rw [setM_same]; rfl) | (dsimp only; simp (disch := omega) only [setM_ne, setM_hit, true_and, and_true]; rfl)
      repeat (first | exact I | with_reducible refine Inv_thr ?_ _)
    · (refine agp_ok ?_ ?_ ?_); (first | exact setM_same _ _ _ _ | (focus ((try dsimp only); simp (disch := omega) only [setM_ne, setM_hit, true_and, and_true]; done)) | (focus ((try dsimp only); simp (disch := omega) only [setM_ne, setM_hit, true_and, and_true]; omega)))
      · (try dsimp only); first | omega | (simp (disch := omega) only [setM_ne, setM_hit, true_and, and_true]; done) | (simp (disch := omega) only [setM_ne, setM_hit, true_and, and_true]; omega)
      · refine ⟨IS_fr a (by intro c i h; unfold cS at h; first | rfl | (simp (disch := omega) only [setM_ne, setM_hit, true_and, and_true])) (by intro c i h; unfold mS at h; first | rfl | (simp (disch := omega) only [setM_ne, setM_hit, true_and, and_true])), IV_fr b (by intro c i h; unfold cV at h; first | rfl | (simp (disch := omega) only [setM_ne, setM_hit, true_and, and_true])) (by intro c i h; unfold mV at h; first | rfl | (simp (disch := omega) only [setM_ne, setM_hit, true_and, and_true])), IT_fr c (by intro c i h; unfold cT at h; first | rfl | (simp (disch := omega) only [setM_ne, setM_hit, true_and, and_true])) (by intro c i h; unfold mT at h; first | rfl | (simp (disch := omega) only [setM_ne, setM_hit, true_and, and_true])), ?_, IR_fr e (by intro c i h; unfold cR at h; first | rfl | (simp (disch := omega) only [setM_ne, setM_hit, true_and, and_true])) (by intro c i h; unfold mR at h; first | rfl | (simp (disch := omega) only [setM_ne, setM_hit, true_and, and_true])), IC_fr f (by intro c i h; unfold cK at h; first | rfl | (simp (disch := omega) only [setM_ne, setM_hit, true_and, and_true])) (by intro c i h; unfold mK at h; first | rfl | (simp (disch := omega) only [setM_ne, setM_hit, true_and, and_true])), IW_fr g (by intro c i h; unfold cW at h; first | rfl | (simp (disch := omega) only [setM_ne, setM_hit, true_and, and_true])) (by intro c i h; unfold mW at h; first | rfl | (simp (disch := omega) only [setM_ne, setM_hit, true_and, and_true]))⟩
        have hn2 := hn (by assumption)
        refine ⟨?_, ?_, ?_, fun k hk => ?_, fun j k hj hk => ?_⟩
        · (try dsimp only); first | omega | (simp (disch := omega) only [setM_ne, setM_hit, true_and, and_true]; done) | (simp (disch := omega) only [setM_ne, setM_hit, true_and, and_true]; omega)
        · (try dsimp only); first | omega | (simp (disch := omega) only [setM_ne, setM_hit, true_and, and_true]; done) | (simp (disch := omega) only [setM_ne, setM_hit, true_and, and_true]; omega)
        · (try dsimp only); first | omega | (simp (disch := omega) only [setM_ne, setM_hit, true_and, and_true]; done) | (simp (disch := omega) only [setM_ne, setM_hit, true_and, and_true]; omega)
        · simp (disch := omega) only [setM_ne, setM_hit, true_and, and_true] at hk
          by_cases hh : k = (mc 109 0).toNat
          · (try dsimp only); first | omega | (simp (disch := omega) only [setM_ne, setM_hit, true_and, and_true]; done) | (simp (disch := omega) only [setM_ne, setM_hit, true_and, and_true]; omega)
          · have q := d4 k (by omega)
            simp (disch := omega) only [setM_ne, setM_hit, true_and, and_true]
            exact q
        · simp (disch := omega) only [setM_ne, setM_hit, true_and, and_true] at hj
          simp (disch := omega) only [setM_ne, setM_hit, true_and, and_true] at hk
          by_cases hj1 : j = (mc 109 0).toNat
          · by_cases hk1 : k = (mc 109 0).toNat
            · intro _ _
              omega
            · simp (disch := omega) only [setM_ne, setM_hit, true_and, and_true]
              intro x1 x2
              exact absurd ⟨x1.symm, x2.symm⟩ (hn2 k (by omega))
          · by_cases hk1 : k = (mc 109 0).toNat
            · simp (disch := omega) only [setM_ne, setM_hit, true_and, and_true]
              intro x1 x2
              exact absurd ⟨x1, x2⟩ (hn2 j (by omega))
            · simp (disch := omega) only [setM_ne, setM_hit, true_and, and_true]
              intro x1 x2
              exact d5 j k (by omega) (by omega) x1 x2
    · (refine agp_ok ?_ ?_ ?_); (first | exact setM_same _ _ _ _ | (focus ((try dsimp only); simp (disch := omega) only [setM_ne, setM_hit, true_and, and_true]; done)) | (focus ((try dsimp only); simp (disch := omega) only [setM_ne, setM_hit, true_and, and_true]; omega)))
      · (try dsimp only); first | omega | (simp (disch := omega) only [setM_ne, setM_hit, true_and, and_true]; done) | (simp (disch := omega) only [setM_ne, setM_hit, true_and, and_true]; omega)
      · refine ⟨IS_fr a (by intro c i h; unfold cS at h; first | rfl | (simp (disch := omega) only [setM_ne, setM_hit, true_and, and_true])) (by intro c i h; unfold mS at h; first | rfl | (simp (disch := omega) only [setM_ne, setM_hit, true_and, and_true])), IV_fr b (by intro c i h; unfold cV at h; first | rfl | (simp (disch := omega) only [setM_ne, setM_hit, true_and, and_true])) (by intro c i h; unfold mV at h; first | rfl | (simp (disch := omega) only [setM_ne, setM_hit, true_and, and_true])), IT_fr c (by intro c i h; unfold cT at h; first | rfl | (simp (disch := omega) only [setM_ne, setM_hit, true_and, and_true])) (by intro c i h; unfold mT at h; first | rfl | (simp (disch := omega) only [setM_ne, setM_hit, true_and, and_true])), ?_, IR_fr e (by intro c i h; unfold cR at h; first | rfl | (simp (disch := omega) only [setM_ne, setM_hit, true_and, and_true])) (by intro c i h; unfold mR at h; first | rfl | (simp (disch := omega) only [setM_ne, setM_hit, true_and, and_true])), IC_fr f (by intro c i h; unfold cK at h; first | rfl | (simp (disch := omega) only [setM_ne, setM_hit, true_and, and_true])) (by intro c i h; unfold mK at h; first | rfl | (simp (disch := omega) only [setM_ne, setM_hit, true_and, and_true])), IW_fr g (by intro c i h; unfold cW at h; first | rfl | (simp (disch := omega) only [setM_ne, setM_hit, true_and, and_true])) (by intro c i h; unfold mW at h; first | rfl | (simp (disch := omega) only [setM_ne, setM_hit, true_and, and_true]))⟩
        have hen : ¬ e' = -1 := by omega
        have hb2 := hb hen
        have hz2 := hz hen
        refine ⟨?_, ?_, ?_, fun k hk => ?_, fun j k hj hk => ?_⟩
        · (try dsimp only); first | omega | (simp (disch := omega) only [setM_ne, setM_hit, true_and, and_true]; done) | (simp (disch := omega) only [setM_ne, setM_hit, true_and, and_true]; omega)
        · (try dsimp only); first | omega | (simp (disch := omega) only [setM_ne, setM_hit, true_and, and_true]; done) | (simp (disch := omega) only [setM_ne, setM_hit, true_and, and_true]; omega)
        · (try dsimp only); first | omega | (simp (disch := omega) only [setM_ne, setM_hit, true_and, and_true]; done) | (simp (disch := omega) only [setM_ne, setM_hit, true_and, and_true]; omega)
        · simp (disch := omega) only [setM_ne, setM_hit, true_and, and_true] at hk
          by_cases hh : k = e'.toNat
          · (try dsimp only); first | omega | (simp (disch := omega) only [setM_ne, setM_hit, true_and, and_true]; done) | (simp (disch := omega) only [setM_ne, setM_hit, true_and, and_true]; omega)
          · have q := d4 k (by omega)
            simp (disch := omega) only [setM_ne, setM_hit, true_and, and_true]
            exact q
        · simp (disch := omega) only [setM_ne, setM_hit, true_and, and_true] at hj
          simp (disch := omega) only [setM_ne, setM_hit, true_and, and_true] at hk
          by_cases hj1 : j = e'.toNat
          · by_cases hk1 : k = e'.toNat
            · intro _ _
              omega
            · simp (disch := omega) only [setM_ne, setM_hit, true_and, and_true]
              intro x1 x2
              have := d5 e'.toNat k (by omega) (by omega) (by omega) (by omega)
              omega
          · by_cases hk1 : k = e'.toNat
            · simp (disch := omega) only [setM_ne, setM_hit, true_and, and_true]
              intro x1 x2
              have := d5 j e'.toNat (by omega) (by omega) (by omega) (by omega)
              omega
            · simp (disch := omega) only [setM_ne, setM_hit, true_and, and_true]
              intro x1 x2
              exact d5 j k (by omega) (by omega) x1 x2
