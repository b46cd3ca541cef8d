/-! ===== small functions: a rule each ===== -/
section SMALL
variable {m : Mem}
theorem wp_needNumber {x lo hi : Int} {P : (Unit ⊕ Nat) × Mem → Prop} (h1 : x < lo ∨ hi < x → P (.inr 0, m)) (h2 : lo ≤ x → x ≤ hi → P (.inl (), m)) : Ok (C_needNumber x lo hi m) P := by
  unfold C_needNumber
  exact ok_ite (fun h => ok_some (h1 h)) (fun h => ok_some (h2 (by omega) (by omega)))
theorem wp_needDay {x : Int} {P : (Unit ⊕ Nat) × Mem → Prop} (h1 : x < 0 ∨ 27 < x → P (.inr 0, m)) (h2 : 0 ≤ x → x ≤ 27 → P (.inl (), m)) : Ok (C_needDay x m) P := by
  unfold C_needDay
  exact wp_bind (wp_needNumber (fun h => ok_tbd_inr (h1 h)) (fun a b => ok_tbd_inl (ok_some (h2 a b))))
theorem wp_needStop {x : Int} {P : (Unit ⊕ Nat) × Mem → Prop} (h1 : x < 0 ∨ m 1 0 ≤ x → P (.inr 2, m)) (h2 : 0 ≤ x → x < m 1 0 → P (.inl (), m)) : Ok (C_needStop x m) P := by
  unfold C_needStop C_Stops_has
  refine wp_bind (ok_some ?_)
  refine ok_ite (fun h => ok_some (h2 ?_ ?_)) (fun h => ok_some (h1 ?_)) <;> rw [i01] at h <;> omega
theorem wp_needService {x : Int} {P : (Unit ⊕ Nat) × Mem → Prop} (h1 : x < 0 ∨ m 29 0 ≤ x → P (.inr 2, m)) (h2 : 0 ≤ x → x < m 29 0 → P (.inl (), m)) : Ok (C_needService x m) P := by
  unfold C_needService C_Services_has
  refine wp_bind (ok_some ?_)
  refine ok_ite (fun h => ok_some (h2 ?_ ?_)) (fun h => ok_some (h1 ?_)) <;> rw [i01] at h <;> omega
theorem wp_needTrip {x : Int} {P : (Unit ⊕ Nat) × Mem → Prop} (h1 : x < 0 ∨ m 31 0 ≤ x → P (.inr 2, m)) (h2 : 0 ≤ x → x < m 31 0 → P (.inl (), m)) : Ok (C_needTrip x m) P := by
  unfold C_needTrip C_Trips_has
  refine wp_bind (ok_some ?_)
  refine ok_ite (fun h => ok_some (h2 ?_ ?_)) (fun h => ok_some (h1 ?_)) <;> rw [i01] at h <;> omega
theorem wp_needCall {x c : Int} {P : (Unit ⊕ Nat) × Mem → Prop} (h24 : m 31 0 ≤ 24) (h1 : x < 0 ∨ m 31 0 ≤ x ∨ c < 0 ∨ m 33 x.toNat ≤ c → P (.inr 2, m)) (h2 : 0 ≤ x → x < m 31 0 → 0 ≤ c → c < m 33 x.toNat → P (.inl (), m)) : Ok (C_needCall x c m) P := by
  unfold C_needCall
  refine wp_bind (wp_needTrip (fun h => ok_tbd_inr (h1 (by omega))) (fun a b => ok_tbd_inl (ok_grd (by omega) ?_)))
  exact ok_ite (fun h => ok_some (h1 (by omega))) (fun h => ok_some (h2 a b (by omega) (by omega)))
theorem wp_needUnlike {x y : Int} {P : (Unit ⊕ Nat) × Mem → Prop} (h1 : x = y → P (.inr 0, m)) (h2 : x ≠ y → P (.inl (), m)) : Ok (C_needUnlike x y m) P := by
  unfold C_needUnlike
  exact ok_ite (fun h => ok_some (h1 h)) (fun h => ok_some (h2 h))
theorem wp_needFound {x : Int} {P : (Unit ⊕ Nat) × Mem → Prop} (h1 : 1000000 ≤ x → P (.inr 5, m)) (h2 : x < 1000000 → P (.inl (), m)) : Ok (C_needFound x m) P := by
  unfold C_needFound
  exact ok_ite (fun h => ok_some (h1 h)) (fun h => ok_some (h2 (by omega)))
theorem wp_needRoomForTrip {P : (Unit ⊕ Nat) × Mem → Prop} (h1 : 24 ≤ m 31 0 → P (.inr 1, m)) (h2 : m 31 0 < 24 → P (.inl (), m)) : Ok (C_needRoomForTrip m) P := by
  unfold C_needRoomForTrip
  exact ok_ite (fun h => ok_some (h1 h)) (fun h => ok_some (h2 (by omega)))
theorem wp_needRoomForSigns {k : Int} {P : (Unit ⊕ Nat) × Mem → Prop} (hr : InR (m 114 1 + k)) (h1 : 80 < m 114 1 + k → P (.inr 1, m)) (h2 : m 114 1 + k ≤ 80 → P (.inl (), m)) : Ok (C_needRoomForSigns k m) P := by
  unfold C_needRoomForSigns
  exact ok_grd hr (ok_ite (fun h => ok_some (h1 h)) (fun h => ok_some (h2 (by omega))))
theorem isIn0 {x lo hi : Int} : M_isIn x lo hi = 0 ↔ ¬ (lo ≤ x ∧ x ≤ hi) := by
  unfold M_isIn
  exact i01
theorem wp_isThrownI {c : Prop} [Decidable c] {k : Int} {P : Int × Mem → Prop} (h1 : c → P (1, setM m 0 0 k)) (h2 : ¬ c → P (0, setM m 0 0 0)) : Ok (M_isThrown (if c then 1 else 0) k m) P := by
  rw [M_isThrown_eq _ _ _ b01]
  by_cases h : c
  · rw [if_pos h, if_pos (by decide)]; exact ok_some (h1 h)
  · rw [if_neg h, if_neg (by decide)]; exact ok_some (h2 h)
theorem wp_isThrown {z k : Int} {P : Int × Mem → Prop} (hz : z = 0 ∨ z = 1) (h1 : z = 1 → P (1, setM m 0 0 k)) (h2 : z = 0 → P (0, setM m 0 0 0)) : Ok (M_isThrown z k m) P := by
  rw [M_isThrown_eq _ _ _ hz]
  rcases hz with rfl | rfl
  · rw [if_neg (by decide)]; exact ok_some (h2 rfl)
  · rw [if_pos (by decide)]; exact ok_some (h1 rfl)
theorem wp_isNoStop {x : Int} {P : Int × Mem → Prop} (a0 : 0 ≤ m 0 1) (a1 : m 0 1 ≤ 100) (h1 : x < 0 ∨ m 0 1 ≤ x → P (1, setM m 0 0 1)) (h2 : 0 ≤ x → x < m 0 1 → P (0, setM m 0 0 0)) : Ok (M_isNoStop x m) P := by
  unfold M_isNoStop
  refine ok_grd (by unfold InR; omega) (wp_bq2 (wp_isThrownI (fun h => ok_grd (Or.inr rfl) (ok_some (h1 ?_))) (fun h => ok_grd (Or.inl rfl) (ok_some (h2 ?_ ?_))))) <;> rw [isIn0] at h <;> omega
theorem wp_isNoService {x : Int} {P : Int × Mem → Prop} (a0 : 0 ≤ m 0 6) (a1 : m 0 6 ≤ 100) (h1 : x < 0 ∨ m 0 6 ≤ x → P (1, setM m 0 0 1)) (h2 : 0 ≤ x → x < m 0 6 → P (0, setM m 0 0 0)) : Ok (M_isNoService x m) P := by
  unfold M_isNoService
  refine ok_grd (by unfold InR; omega) (wp_bq2 (wp_isThrownI (fun h => ok_grd (Or.inr rfl) (ok_some (h1 ?_))) (fun h => ok_grd (Or.inl rfl) (ok_some (h2 ?_ ?_))))) <;> rw [isIn0] at h <;> omega
theorem wp_isNoTrip {x : Int} {P : Int × Mem → Prop} (a0 : 0 ≤ m 0 8) (a1 : m 0 8 ≤ 100) (h1 : x < 0 ∨ m 0 8 ≤ x → P (1, setM m 0 0 1)) (h2 : 0 ≤ x → x < m 0 8 → P (0, setM m 0 0 0)) : Ok (M_isNoTrip x m) P := by
  unfold M_isNoTrip
  refine ok_grd (by unfold InR; omega) (wp_bq2 (wp_isThrownI (fun h => ok_grd (Or.inr rfl) (ok_some (h1 ?_))) (fun h => ok_grd (Or.inl rfl) (ok_some (h2 ?_ ?_))))) <;> rw [isIn0] at h <;> omega
theorem wp_isNoDay {x k : Int} {P : Int × Mem → Prop} (h1 : x < 0 ∨ 27 < x → P (1, setM m 0 0 k)) (h2 : 0 ≤ x → x ≤ 27 → P (0, setM m 0 0 0)) : Ok (M_isNoDay x k m) P := by
  unfold M_isNoDay
  refine wp_bq2 (wp_isThrownI (fun h => ok_grd (Or.inr rfl) (ok_some (h1 ?_))) (fun h => ok_grd (Or.inl rfl) (ok_some (h2 ?_ ?_)))) <;> rw [isIn0] at h <;> omega
/-- a call that is there: the thrown number may have been written twice -/
theorem wp_isNoCall {x c : Int} {P : Int × Mem → Prop} (a0 : 0 ≤ m 0 8) (a1 : m 0 8 ≤ 24) (a2 : 0 ≤ x → x < m 0 8 → 0 ≤ m 6 x.toNat ∧ m 6 x.toNat ≤ 100) (h1 : x < 0 ∨ m 0 8 ≤ x ∨ c < 0 ∨ m 6 x.toNat ≤ c → P (1, setM m 0 0 1)) (h2 : 0 ≤ x → x < m 0 8 → 0 ≤ c → c < m 6 x.toNat → P (0, setM m 0 0 0)) : Ok (M_isNoCall x c m) P := by
  have ss : ∀ k : Int, setM (setM m 0 0 0) 0 0 k = setM m 0 0 k := fun k => by
    funext c' i'
    unfold setM
    split <;> rfl
  unfold M_isNoCall
  refine wp_bq2 (wp_isNoTrip a0 (by omega) (fun h => ?_) (fun k1 k2 => ?_))
  · exact ok_ite (fun _ => ok_some (h1 (by omega))) (fun q => absurd Int.one_ne_zero q)
  · have a3 := a2 k1 k2
    refine ok_ite (fun q => absurd rfl q) (fun _ => ?_)
    dsimp only
    simp (disch := omega) only [setM_ne, setM_hit]
    refine ok_grd (by unfold InR; omega) (wp_bq2 (wp_isThrownI (fun h => ?_) (fun h => ?_))) <;> rw [isIn0] at h <;> rw [ss]
    · exact ok_ite (fun _ => ok_some (h1 (by omega))) (fun q => absurd Int.one_ne_zero q)
    · exact ok_ite (fun q => absurd rfl q) (fun _ => ok_some (h2 k1 k2 (by omega) (by omega)))
end SMALL
theorem agp_ok {exs : List Nat} {v w : Int} {mc mm : Mem} (h1 : mm 0 0 = 0) (h2 : w = v) (h4 : Inv mc mm) : AgP okA Inv exs (.inl v, mc) (w, mm) := ⟨h1, h2, trivial, h4⟩
theorem agp_er {α : Type} {ok : α → Prop} {exs : List Nat} {w : α} {x : Nat} {mc mm : Mem} (h1 : x ∈ exs) (h2 : mm 0 0 = (exs.idxOf x + 1 : Nat)) (h4 : Inv mc mm) : AgP ok Inv exs (.inr x, mc) (w, mm) := ⟨h1, h2, h4⟩
section GETS
variable {mc mm : Mem}
theorem IT_get (I : IT mc mm) {t : Int} (h0 : 0 ≤ t) (h1 : t < mc 31 0) : mm 5 t.toNat = mc 32 t.toNat ∧ 0 ≤ mc 32 t.toNat ∧ mc 32 t.toNat < mc 29 0 ∧ mm 6 t.toNat = mc 33 t.toNat ∧ 1 ≤ mc 33 t.toNat ∧ mc 33 t.toNat ≤ 8 := by
  have := I.2.2.2 t.toNat (by omega)
  exact ⟨this.1, this.2.1, this.2.2.1, this.2.2.2.1, this.2.2.2.2.1, this.2.2.2.2.2.1⟩
theorem IT_getc (I : IT mc mm) {t c : Int} (h0 : 0 ≤ t) (h1 : t < mc 31 0) (h2 : 0 ≤ c) (h3 : c < mc 33 t.toNat) : mm 7 (8 * t + c).toNat = mc (35 + t.toNat) c.toNat ∧ 0 ≤ mc (35 + t.toNat) c.toNat ∧ mc (35 + t.toNat) c.toNat < mc 1 0 ∧ mm 8 (8 * t + c).toNat = mc (60 + t.toNat) c.toNat ∧ mm 9 (8 * t + c).toNat = mc (85 + t.toNat) c.toNat ∧ 0 ≤ mc (60 + t.toNat) c.toNat ∧ mc (60 + t.toNat) c.toNat ≤ mc (85 + t.toNat) c.toNat ∧ mc (85 + t.toNat) c.toNat ≤ 2879 ∧ (c = 0 → mc (60 + t.toNat) c.toNat = mc (85 + t.toNat) c.toNat) ∧ (c + 1 < mc 33 t.toNat → mc (85 + t.toNat) c.toNat < mc (60 + t.toNat) (c.toNat + 1)) := by
  have := (I.2.2.2 t.toNat (by omega)).2.2.2.2.2.2 c.toNat (by omega)
  unfold ITc at this
  have e : (8 * t + c).toNat = 8 * t.toNat + c.toNat := by omega
  rw [e]
  obtain ⟨a1, a2, a3, a4, a5, a6, a7, a8, a9, a10⟩ := this
  exact ⟨a1, a2, a3, a4, a5, a6, a7, a8, fun h => a9 (by omega), fun h => a10 (by omega)⟩
end GETS
/-! ===== the statements of calls that only look ===== -/
theorem st_trips : ST_trips Inv := by
  intro mc mm I
  refine ⟨_, _, rfl, rfl, Inv_thr I 0, ?_⟩
  show setM mm 0 0 0 0 8 = mc 31 0
  simp (disch := omega) only [setM_ne, setM_hit]
  exact I.2.2.1.1
theorem st_calls : ST_calls Inv := by
  intro mc mm p0 I _
  obtain ⟨T1, T2, T3, T4⟩ := id I.2.2.1
  refine ag_of ?_
  unfold C_calls M_calls
  repeat' (first
    | with_reducible refine ok_ltv ?_
    | with_reducible refine ok_tbd_inl ?_
    | with_reducible refine ok_tbd_inr ?_
    | with_reducible refine wp_bind ?_
    | with_reducible refine wp_bq1 ?_
    | with_reducible refine wp_bq2 ?_
    | (with_reducible refine wp_needNumber (fun _ => ?_) (fun _ _ => ?_)) <;> (try (exfalso; omega))
    | (with_reducible refine wp_needDay (fun _ => ?_) (fun _ _ => ?_)) <;> (try (exfalso; omega))
    | (with_reducible refine wp_needStop (fun _ => ?_) (fun _ _ => ?_)) <;> (try (exfalso; omega))
    | (with_reducible refine wp_needService (fun _ => ?_) (fun _ _ => ?_)) <;> (try (exfalso; omega))
    | (with_reducible refine wp_needTrip (fun _ => ?_) (fun _ _ => ?_)) <;> (try (exfalso; omega))
    | (with_reducible refine wp_needCall (by omega) (fun _ => ?_) (fun _ _ _ _ => ?_)) <;> (try (exfalso; omega))
    | (with_reducible refine wp_needUnlike (fun _ => ?_) (fun _ => ?_)) <;> (try (exfalso; omega))
    | (with_reducible refine wp_needFound (fun _ => ?_) (fun _ => ?_)) <;> (try (exfalso; omega))
    | (with_reducible refine wp_needRoomForTrip (fun _ => ?_) (fun _ => ?_)) <;> (try (exfalso; omega))
    | (with_reducible refine wp_needRoomForSigns (by unfold InR; omega) (fun _ => ?_) (fun _ => ?_)) <;> (try (exfalso; omega))
    | (with_reducible refine wp_isNoStop (by (try simp (disch := omega) only [setM_ne, setM_hit]); omega) (by (try simp (disch := omega) only [setM_ne, setM_hit]); omega) (fun h => ?_) (fun h1 h2 => ?_)) <;> (try simp (disch := omega) only [setM_ne, setM_hit] at h) <;> (try simp (disch := omega) only [setM_ne, setM_hit] at h1) <;> (try simp (disch := omega) only [setM_ne, setM_hit] at h2) <;> (try (exfalso; omega))
    | (with_reducible refine wp_isNoService (by (try simp (disch := omega) only [setM_ne, setM_hit]); omega) (by (try simp (disch := omega) only [setM_ne, setM_hit]); omega) (fun h => ?_) (fun h1 h2 => ?_)) <;> (try simp (disch := omega) only [setM_ne, setM_hit] at h) <;> (try simp (disch := omega) only [setM_ne, setM_hit] at h1) <;> (try simp (disch := omega) only [setM_ne, setM_hit] at h2) <;> (try (exfalso; omega))
    | (with_reducible refine wp_isNoTrip (by (try simp (disch := omega) only [setM_ne, setM_hit]); omega) (by (try simp (disch := omega) only [setM_ne, setM_hit]); omega) (fun h => ?_) (fun h1 h2 => ?_)) <;> (try simp (disch := omega) only [setM_ne, setM_hit] at h) <;> (try simp (disch := omega) only [setM_ne, setM_hit] at h1) <;> (try simp (disch := omega) only [setM_ne, setM_hit] at h2) <;> (try (exfalso; omega))
    | (with_reducible refine wp_isNoDay (fun h => ?_) (fun h1 h2 => ?_)) <;> (try (exfalso; omega))
    | (with_reducible refine wp_isThrownI (fun h => ?_) (fun h => ?_)) <;> (try simp (disch := omega) only [setM_ne, setM_hit] at h) <;> (try simp only [isIn0] at h) <;> (try (exfalso; omega))
    | with_reducible refine ok_grd (by (try simp (disch := omega) only [setM_ne, setM_hit]); (try unfold InR); omega) ?_
    | (with_reducible refine ok_some ?_) <;> (try dsimp only)
    | (with_reducible refine ok_ite (fun h => ?_) (fun h => ?_)) <;> (try dsimp only at h) <;> (try simp (disch := omega) only [setM_ne, setM_hit] at h) <;> (try simp only [isIn0] at h) <;> (try (exfalso; first | exact h trivial | omega)))
  · (refine agp_er ?_ ?_ ?_); decide; first | (rw [setM_same]; rfl) | (dsimp only; simp (disch := omega) only [setM_ne, setM_hit]; rfl)
    repeat (first | exact I | with_reducible refine Inv_thr ?_ _)
  · have := IT_get I.2.2.1 (by assumption) (by assumption)
    (refine agp_ok ?_ ?_ ?_); (first | exact setM_same _ _ _ _ | (focus (dsimp only; simp (disch := omega) only [setM_ne, setM_hit]; done)) | (focus (dsimp only; simp (disch := omega) only [setM_ne, setM_hit]; omega)))
    · (try dsimp only); (try simp (disch := omega) only [setM_ne, setM_hit]); omega
    · repeat (first | exact I | with_reducible refine Inv_thr ?_ _)
theorem st_stopAt : ST_stopAt Inv := by
  intro mc mm p0 p1 I _ _
  obtain ⟨T1, T2, T3, T4⟩ := id I.2.2.1
  refine ag_of ?_
  unfold C_stopAt
  refine wp_bind (wp_needCall T3 (fun h => ok_tbd_inr ?_) (fun h1 h2 h3 h4 => ok_tbd_inl ?_))
  · unfold M_stopAt
    refine wp_bq2 (wp_isNoCall (by omega) (by omega) (fun a b => by have := IT_get I.2.2.1 a (by omega); omega) (fun _ => ?_) (fun a b c d => ?_))
    · repeat' (first
    | with_reducible refine ok_ltv ?_
    | with_reducible refine ok_tbd_inl ?_
    | with_reducible refine ok_tbd_inr ?_
    | with_reducible refine wp_bind ?_
    | with_reducible refine wp_bq1 ?_
    | with_reducible refine wp_bq2 ?_
    | (with_reducible refine wp_needNumber (fun _ => ?_) (fun _ _ => ?_)) <;> (try (exfalso; omega))
    | (with_reducible refine wp_needDay (fun _ => ?_) (fun _ _ => ?_)) <;> (try (exfalso; omega))
    | (with_reducible refine wp_needStop (fun _ => ?_) (fun _ _ => ?_)) <;> (try (exfalso; omega))
    | (with_reducible refine wp_needService (fun _ => ?_) (fun _ _ => ?_)) <;> (try (exfalso; omega))
    | (with_reducible refine wp_needTrip (fun _ => ?_) (fun _ _ => ?_)) <;> (try (exfalso; omega))
    | (with_reducible refine wp_needCall (by omega) (fun _ => ?_) (fun _ _ _ _ => ?_)) <;> (try (exfalso; omega))
    | (with_reducible refine wp_needUnlike (fun _ => ?_) (fun _ => ?_)) <;> (try (exfalso; omega))
    | (with_reducible refine wp_needFound (fun _ => ?_) (fun _ => ?_)) <;> (try (exfalso; omega))
    | (with_reducible refine wp_needRoomForTrip (fun _ => ?_) (fun _ => ?_)) <;> (try (exfalso; omega))
    | (with_reducible refine wp_needRoomForSigns (by unfold InR; omega) (fun _ => ?_) (fun _ => ?_)) <;> (try (exfalso; omega))
    | (with_reducible refine wp_isNoStop (by (try simp (disch := omega) only [setM_ne, setM_hit]); omega) (by (try simp (disch := omega) only [setM_ne, setM_hit]); omega) (fun h => ?_) (fun h1 h2 => ?_)) <;> (try simp (disch := omega) only [setM_ne, setM_hit] at h) <;> (try simp (disch := omega) only [setM_ne, setM_hit] at h1) <;> (try simp (disch := omega) only [setM_ne, setM_hit] at h2) <;> (try (exfalso; omega))
    | (with_reducible refine wp_isNoService (by (try simp (disch := omega) only [setM_ne, setM_hit]); omega) (by (try simp (disch := omega) only [setM_ne, setM_hit]); omega) (fun h => ?_) (fun h1 h2 => ?_)) <;> (try simp (disch := omega) only [setM_ne, setM_hit] at h) <;> (try simp (disch := omega) only [setM_ne, setM_hit] at h1) <;> (try simp (disch := omega) only [setM_ne, setM_hit] at h2) <;> (try (exfalso; omega))
    | (with_reducible refine wp_isNoTrip (by (try simp (disch := omega) only [setM_ne, setM_hit]); omega) (by (try simp (disch := omega) only [setM_ne, setM_hit]); omega) (fun h => ?_) (fun h1 h2 => ?_)) <;> (try simp (disch := omega) only [setM_ne, setM_hit] at h) <;> (try simp (disch := omega) only [setM_ne, setM_hit] at h1) <;> (try simp (disch := omega) only [setM_ne, setM_hit] at h2) <;> (try (exfalso; omega))
    | (with_reducible refine wp_isNoDay (fun h => ?_) (fun h1 h2 => ?_)) <;> (try (exfalso; omega))
    | (with_reducible refine wp_isThrownI (fun h => ?_) (fun h => ?_)) <;> (try simp (disch := omega) only [setM_ne, setM_hit] at h) <;> (try simp only [isIn0] at h) <;> (try (exfalso; omega))
    | with_reducible refine ok_grd (by (try simp (disch := omega) only [setM_ne, setM_hit]); (try unfold InR); omega) ?_
    | (with_reducible refine ok_some ?_) <;> (try dsimp only)
    | (with_reducible refine ok_ite (fun h => ?_) (fun h => ?_)) <;> (try dsimp only at h) <;> (try simp (disch := omega) only [setM_ne, setM_hit] at h) <;> (try simp only [isIn0] at h) <;> (try (exfalso; first | exact h trivial | omega)))
      (refine agp_er ?_ ?_ ?_); decide; first | (rw [setM_same]; rfl) | (dsimp only; simp (disch := omega) only [setM_ne, setM_hit]; rfl)
      repeat (first | exact I | with_reducible refine Inv_thr ?_ _)
    · have := IT_get I.2.2.1 a (by omega)
      omega
  · have g1 := IT_get I.2.2.1 h1 h2
    have g2 := IT_getc I.2.2.1 h1 h2 h3 h4
    refine ok_grd (by omega) (ok_some ?_)
    unfold M_stopAt
    refine wp_bq2 (wp_isNoCall (by omega) (by omega) (fun a b => by have := IT_get I.2.2.1 a (by omega); omega) (fun _ => by omega) (fun a b c d => ?_))
    repeat' (first
    | with_reducible refine ok_ltv ?_
    | with_reducible refine ok_tbd_inl ?_
    | with_reducible refine ok_tbd_inr ?_
    | with_reducible refine wp_bind ?_
    | with_reducible refine wp_bq1 ?_
    | with_reducible refine wp_bq2 ?_
    | (with_reducible refine wp_needNumber (fun _ => ?_) (fun _ _ => ?_)) <;> (try (exfalso; omega))
    | (with_reducible refine wp_needDay (fun _ => ?_) (fun _ _ => ?_)) <;> (try (exfalso; omega))
    | (with_reducible refine wp_needStop (fun _ => ?_) (fun _ _ => ?_)) <;> (try (exfalso; omega))
    | (with_reducible refine wp_needService (fun _ => ?_) (fun _ _ => ?_)) <;> (try (exfalso; omega))
    | (with_reducible refine wp_needTrip (fun _ => ?_) (fun _ _ => ?_)) <;> (try (exfalso; omega))
    | (with_reducible refine wp_needCall (by omega) (fun _ => ?_) (fun _ _ _ _ => ?_)) <;> (try (exfalso; omega))
    | (with_reducible refine wp_needUnlike (fun _ => ?_) (fun _ => ?_)) <;> (try (exfalso; omega))
    | (with_reducible refine wp_needFound (fun _ => ?_) (fun _ => ?_)) <;> (try (exfalso; omega))
    | (with_reducible refine wp_needRoomForTrip (fun _ => ?_) (fun _ => ?_)) <;> (try (exfalso; omega))
    | (with_reducible refine wp_needRoomForSigns (by unfold InR; omega) (fun _ => ?_) (fun _ => ?_)) <;> (try (exfalso; omega))
    | (with_reducible refine wp_isNoStop (by (try simp (disch := omega) only [setM_ne, setM_hit]); omega) (by (try simp (disch := omega) only [setM_ne, setM_hit]); omega) (fun h => ?_) (fun h1 h2 => ?_)) <;> (try simp (disch := omega) only [setM_ne, setM_hit] at h) <;> (try simp (disch := omega) only [setM_ne, setM_hit] at h1) <;> (try simp (disch := omega) only [setM_ne, setM_hit] at h2) <;> (try (exfalso; omega))
    | (with_reducible refine wp_isNoService (by (try simp (disch := omega) only [setM_ne, setM_hit]); omega) (by (try simp (disch := omega) only [setM_ne, setM_hit]); omega) (fun h => ?_) (fun h1 h2 => ?_)) <;> (try simp (disch := omega) only [setM_ne, setM_hit] at h) <;> (try simp (disch := omega) only [setM_ne, setM_hit] at h1) <;> (try simp (disch := omega) only [setM_ne, setM_hit] at h2) <;> (try (exfalso; omega))
    | (with_reducible refine wp_isNoTrip (by (try simp (disch := omega) only [setM_ne, setM_hit]); omega) (by (try simp (disch := omega) only [setM_ne, setM_hit]); omega) (fun h => ?_) (fun h1 h2 => ?_)) <;> (try simp (disch := omega) only [setM_ne, setM_hit] at h) <;> (try simp (disch := omega) only [setM_ne, setM_hit] at h1) <;> (try simp (disch := omega) only [setM_ne, setM_hit] at h2) <;> (try (exfalso; omega))
    | (with_reducible refine wp_isNoDay (fun h => ?_) (fun h1 h2 => ?_)) <;> (try (exfalso; omega))
    | (with_reducible refine wp_isThrownI (fun h => ?_) (fun h => ?_)) <;> (try simp (disch := omega) only [setM_ne, setM_hit] at h) <;> (try simp only [isIn0] at h) <;> (try (exfalso; omega))
    | with_reducible refine ok_grd (by (try simp (disch := omega) only [setM_ne, setM_hit]); (try unfold InR); omega) ?_
    | (with_reducible refine ok_some ?_) <;> (try dsimp only)
    | (with_reducible refine ok_ite (fun h => ?_) (fun h => ?_)) <;> (try dsimp only at h) <;> (try simp (disch := omega) only [setM_ne, setM_hit] at h) <;> (try simp only [isIn0] at h) <;> (try (exfalso; first | exact h trivial | omega)))
    (refine agp_ok ?_ ?_ ?_); (first | exact setM_same _ _ _ _ | (focus (dsimp only; simp (disch := omega) only [setM_ne, setM_hit]; done)) | (focus (dsimp only; simp (disch := omega) only [setM_ne, setM_hit]; omega)))
    · (try dsimp only); (try simp (disch := omega) only [setM_ne, setM_hit]); omega
    · repeat (first | exact I | with_reducible refine Inv_thr ?_ _)
theorem st_timeAt : ST_timeAt Inv := by
  intro mc mm p0 p1 p2 I _ _ hp2
  obtain ⟨T1, T2, T3, T4⟩ := id I.2.2.1
  refine ag_of ?_
  unfold C_timeAt
  refine wp_bind (wp_needCall T3 (fun h => ok_tbd_inr ?_) (fun h1 h2 h3 h4 => ok_tbd_inl ?_))
  · unfold M_timeAt
    refine wp_bq2 (wp_isNoCall (by omega) (by omega) (fun a b => by have := IT_get I.2.2.1 a (by omega); omega) (fun _ => ?_) (fun a b c d => ?_))
    · repeat' (first
    | with_reducible refine ok_ltv ?_
    | with_reducible refine ok_tbd_inl ?_
    | with_reducible refine ok_tbd_inr ?_
    | with_reducible refine wp_bind ?_
    | with_reducible refine wp_bq1 ?_
    | with_reducible refine wp_bq2 ?_
    | (with_reducible refine wp_needNumber (fun _ => ?_) (fun _ _ => ?_)) <;> (try (exfalso; omega))
    | (with_reducible refine wp_needDay (fun _ => ?_) (fun _ _ => ?_)) <;> (try (exfalso; omega))
    | (with_reducible refine wp_needStop (fun _ => ?_) (fun _ _ => ?_)) <;> (try (exfalso; omega))
    | (with_reducible refine wp_needService (fun _ => ?_) (fun _ _ => ?_)) <;> (try (exfalso; omega))
    | (with_reducible refine wp_needTrip (fun _ => ?_) (fun _ _ => ?_)) <;> (try (exfalso; omega))
    | (with_reducible refine wp_needCall (by omega) (fun _ => ?_) (fun _ _ _ _ => ?_)) <;> (try (exfalso; omega))
    | (with_reducible refine wp_needUnlike (fun _ => ?_) (fun _ => ?_)) <;> (try (exfalso; omega))
    | (with_reducible refine wp_needFound (fun _ => ?_) (fun _ => ?_)) <;> (try (exfalso; omega))
    | (with_reducible refine wp_needRoomForTrip (fun _ => ?_) (fun _ => ?_)) <;> (try (exfalso; omega))
    | (with_reducible refine wp_needRoomForSigns (by unfold InR; omega) (fun _ => ?_) (fun _ => ?_)) <;> (try (exfalso; omega))
    | (with_reducible refine wp_isNoStop (by (try simp (disch := omega) only [setM_ne, setM_hit]); omega) (by (try simp (disch := omega) only [setM_ne, setM_hit]); omega) (fun h => ?_) (fun h1 h2 => ?_)) <;> (try simp (disch := omega) only [setM_ne, setM_hit] at h) <;> (try simp (disch := omega) only [setM_ne, setM_hit] at h1) <;> (try simp (disch := omega) only [setM_ne, setM_hit] at h2) <;> (try (exfalso; omega))
    | (with_reducible refine wp_isNoService (by (try simp (disch := omega) only [setM_ne, setM_hit]); omega) (by (try simp (disch := omega) only [setM_ne, setM_hit]); omega) (fun h => ?_) (fun h1 h2 => ?_)) <;> (try simp (disch := omega) only [setM_ne, setM_hit] at h) <;> (try simp (disch := omega) only [setM_ne, setM_hit] at h1) <;> (try simp (disch := omega) only [setM_ne, setM_hit] at h2) <;> (try (exfalso; omega))
    | (with_reducible refine wp_isNoTrip (by (try simp (disch := omega) only [setM_ne, setM_hit]); omega) (by (try simp (disch := omega) only [setM_ne, setM_hit]); omega) (fun h => ?_) (fun h1 h2 => ?_)) <;> (try simp (disch := omega) only [setM_ne, setM_hit] at h) <;> (try simp (disch := omega) only [setM_ne, setM_hit] at h1) <;> (try simp (disch := omega) only [setM_ne, setM_hit] at h2) <;> (try (exfalso; omega))
    | (with_reducible refine wp_isNoDay (fun h => ?_) (fun h1 h2 => ?_)) <;> (try (exfalso; omega))
    | (with_reducible refine wp_isThrownI (fun h => ?_) (fun h => ?_)) <;> (try simp (disch := omega) only [setM_ne, setM_hit] at h) <;> (try simp only [isIn0] at h) <;> (try (exfalso; omega))
    | with_reducible refine ok_grd (by (try simp (disch := omega) only [setM_ne, setM_hit]); (try unfold InR); omega) ?_
    | (with_reducible refine ok_some ?_) <;> (try dsimp only)
    | (with_reducible refine ok_ite (fun h => ?_) (fun h => ?_)) <;> (try dsimp only at h) <;> (try simp (disch := omega) only [setM_ne, setM_hit] at h) <;> (try simp only [isIn0] at h) <;> (try (exfalso; first | exact h trivial | omega)))
      (refine agp_er ?_ ?_ ?_); decide; first | (rw [setM_same]; rfl) | (dsimp only; simp (disch := omega) only [setM_ne, setM_hit]; rfl)
      repeat (first | exact I | with_reducible refine Inv_thr ?_ _)
    · have := IT_get I.2.2.1 a (by omega)
      omega
  · have g1 := IT_get I.2.2.1 h1 h2
    have g2 := IT_getc I.2.2.1 h1 h2 h3 h4
    refine ok_grd (by omega) (ok_some ?_)
    unfold M_timeAt
    refine wp_bq2 (wp_isNoCall (by omega) (by omega) (fun a b => by have := IT_get I.2.2.1 a (by omega); omega) (fun _ => by omega) (fun a b c d => ?_))
    refine ok_ite (fun q => absurd rfl q) (fun _ => ok_grd (by unfold InR; omega) (ok_some ?_))
    (refine agp_ok ?_ ?_ ?_); (first | exact setM_same _ _ _ _ | (focus (dsimp only; simp (disch := omega) only [setM_ne, setM_hit]; done)) | (focus (dsimp only; simp (disch := omega) only [setM_ne, setM_hit]; omega)))
    · dsimp only
      simp (disch := omega) only [setM_ne, setM_hit]
      rw [g2.2.2.2.1, g2.2.2.2.2.1]
    · repeat (first | exact I | with_reducible refine Inv_thr ?_ _)
theorem st_erase : ST_erase Inv := by
  intro mc mm I
  obtain ⟨R1, R2, R3, R4, R5⟩ := id I.2.2.2.2.1
  refine ⟨_, _, rfl, rfl, ?_, ?_⟩
  · obtain ⟨a, b, c, d, e, f, g⟩ := I
    refine ⟨IS_fr a (fun c i h => ?_) (fun c i h => ?_), IV_fr b (fun c i h => ?_) (fun c i h => ?_), IT_fr c (fun c i h => ?_) (fun c i h => ?_), ID_fr d (fun c i h => ?_) (fun c i h => ?_), ?_, IC_fr f (fun c i h => ?_) (fun c i h => ?_), IW_fr g (fun c i h => ?_) (fun c i h => ?_)⟩
    case refine_9 =>
      refine ⟨?_, ?_, ?_, ?_, fun k hk => ?_⟩
      · simp (disch := omega) only [setM_ne, setM_hit]
      · simp (disch := omega) only [setM_ne, setM_hit]; omega
      · simp (disch := omega) only [setM_ne, setM_hit]; omega
      · simp (disch := omega) only [setM_ne, setM_hit]; exact R4
      · exfalso
        dsimp only at hk
        simp (disch := omega) only [setM_ne, setM_hit] at hk
        omega
    all_goals
      simp only [cS, mS, cV, mV, cT, mT, cD, mD, cK, mK, cW, mW] at h
      simp (disch := omega) only [setM_ne, setM_hit]
  · show setM mm 0 0 0 0 19 = _
    simp (disch := omega) only [setM_ne, setM_hit]
    exact R1
