/-! ===== readRow: both read alike ===== -/
noncomputable def Rr (st dg nb k : Int) (m : Mem) : Option (Int × Mem) := br5 (fun q9 => some q9) (loop (fun s => M_read_b1 s.1 s.2.1 s.2.2.1 s.2.2.2.1 s.2.2.2.2) (st, dg, nb, k, m)) fun state_4 digits_5 number_5 _ m_4 => if (digits_5 = 0) ∨ (state_4 < 2) then some (m_4 0 19, m_4) else (M_told state_4 number_5 m_4).bind fun m_5 => some ((-1), m_5)
def RdM (n : Nat) (sg : Nat → Int) (m : Mem) : Prop := m 0 19 = n ∧ ∀ i, i < n → m 14 i = sg i
def FrRd (m0 m : Mem) : Prop := ∀ c i, ¬ c = 31 → ¬ (c = 0 ∧ i = 45) → m c i = m0 c i
section RRR
variable {n : Nat} {sg : Nat → Int} {m m' m0 m1 : Mem} {st dg nb k : Int}
theorem FrRd_rd (h : RdM n sg m) (f : FrRd m m') : RdM n sg m' := ⟨by rw [f 0 19 (by omega) (by omega)]; exact h.1, fun i hi => by rw [f 14 i (by omega) (by omega)]; exact h.2 i hi⟩
theorem FrRd_tr (a : FrRd m0 m) (b : FrRd m m') : FrRd m0 m' := fun c i h1 h2 => by rw [b c i h1 h2]; exact a c i h1 h2
theorem Rr_step {st' dg' nb' k' : Int} (h : M_read_b1 st dg nb k m = some (.inl (st', dg', nb', k', m'))) : Rr st dg nb k m = Rr st' dg' nb' k' m' := by
  unfold Rr
  rw [loop_eq]
  dsimp only
  rw [h]
  rfl
theorem Rr_ret {q : Int × Mem} (h : M_read_b1 st dg nb k m = some (.inr (.inr q))) : Rr st dg nb k m = some q := by
  unfold Rr
  rw [loop_eq]
  dsimp only
  rw [h]
  rfl
theorem Rr_exit (h : M_read_b1 st dg nb k m = some (.inr (.inl (st, dg, nb, k, m)))) : Rr st dg nb k m = if (dg = 0) ∨ (st < 2) then some (m 0 19, m) else (M_told st nb m).bind fun m_5 => some ((-1), m_5) := by
  unfold Rr
  rw [loop_eq]
  dsimp only
  rw [h]
  rfl
theorem ok_is {α : Type} {x : Option α} {v : α} (h : Ok x (fun r => r = v)) : x = some v := by
  obtain ⟨r, e, hr⟩ := h
  rw [e, hr]
theorem Rr_digit {k d : Nat} (h : RdM n sg m) (hn : n ≤ 80) (hk : k < n) (hs : 48 ≤ sg k ∧ sg k ≤ 57) (hd : d < 4) (hb : 0 ≤ nb ∧ nb ≤ 10000) : Rr st d nb k m = Rr st ((d + 1 : Nat) : Int) (10 * nb + (sg k - 48)) ((k + 1 : Nat) : Int) m := by
  refine Rr_step (ok_is ?_)
  unfold M_read_b1
  rw [h.1, Int.toNat_natCast, h.2 k hk]
  refine ok_ite (fun _ => ok_grd (by omega) (ok_ltv (ok_ite (fun _ => ok_grd (by unfold InR; omega) (ok_ltv (ok_grd (by unfold InR; omega) (ok_ltv (ok_grd (by unfold InR; omega) (ok_ltv (ok_some ?_))))))) (fun q => absurd (show _ ∧ _ from ⟨by rw [isIn0]; omega, by omega⟩) q)))) (fun q => by omega)
  rw [show 10 * nb + sg k - 48 = 10 * nb + (sg k - 48) by omega, Int.natCast_add, Int.natCast_add]
  rfl
theorem Rr_sep {k d : Nat} {x : Int} (h : RdM n sg m) (hn : n ≤ 80) (hk : k < n) (hs : sg k = x) (hd : 0 < d) (hg : (((x = 58 ∧ st = 0) ∨ (x = 64 ∧ st = 1)) ∨ (x = 44 ∧ 2 ≤ st)) ∨ (x = 45 ∧ st = 3)) (ht : M_told st nb m = some m') : Rr st d nb k m = Rr (if x = 58 then 1 else (if x = 64 then (if m' 0 45 = 2 then 2 else 3) else (if x = 44 then 1 else 4))) 0 0 ((k + 1 : Nat) : Int) m' := by
  refine Rr_step (ok_is ?_)
  unfold M_read_b1
  rw [h.1, Int.toNat_natCast, h.2 k hk, hs, ht]
  refine ok_ite (fun _ => ok_grd (by omega) (ok_ltv (ok_ite (fun q => ?_) (fun _ => ok_ltv (ok_ite (fun q => ?_) (fun _ => ok_bind (ok_some rfl) (fun r hr => ok_ltv (ok_ltv (ok_ltv (ok_grd (by unfold InR; omega) (ok_ltv (ok_some ?_)))))))))))) (fun q => by omega)
  · exfalso
    have a := q.1
    rw [isIn0] at a
    omega
  · rw [if_pos ⟨by omega, hg⟩] at q
    exact absurd q (by decide)
  · rw [← hr, Int.natCast_add]
    rfl
theorem Rr_fail {k d : Nat} (h : RdM n sg m) (hn : n ≤ 80) (hk : k ≤ n) (hs : k < n → ¬ (48 ≤ sg k ∧ sg k ≤ 57 ∧ d < 4)) (hg : k < n → 0 < d → ¬ ((((sg k = 58 ∧ st = 0) ∨ (sg k = 64 ∧ st = 1)) ∨ (sg k = 44 ∧ 2 ≤ st)) ∨ (sg k = 45 ∧ st = 3))) (he : k = n → d = 0 ∨ st < 2) : Rr st d nb k m = some ((k : Int), m) := by
  by_cases hkn : k < n
  · refine Rr_ret (ok_is ?_)
    unfold M_read_b1
    rw [h.1, Int.toNat_natCast, h.2 k hkn]
    refine ok_ite (fun _ => ok_grd (by omega) (ok_ltv (ok_ite (fun q => ?_) (fun _ => ok_ltv (ok_ite (fun _ => ok_some rfl) (fun q => ?_)))))) (fun q => by omega)
    · exfalso
      have a := q.1
      have b := q.2
      rw [isIn0] at a
      have := hs hkn
      omega
    · rw [i01] at q
      exact absurd (fun (z : (0 : Int) < d ∧ _) => hg hkn (by omega) z.2) q
  · have e : k = n := by omega
    rw [Rr_exit, if_pos]
    · rw [h.1, e]
    · have := he e
      omega
    · unfold M_read_b1
      rw [h.1, if_neg (by omega)]
theorem Rr_done {d : Nat} (h : RdM n sg m) (hd : 0 < d) (h2 : 2 ≤ st) (ht : M_told st nb m = some m') : Rr st d nb n m = some (-1, m') := by
  rw [Rr_exit, if_neg (by omega), ht]
  · rfl
  · unfold M_read_b1
    rw [h.1, if_neg (by omega)]
theorem told_one {r : Nat} {v : Int} (hs : st = 0 ∨ st = 1) (hr : m 0 45 = r) (h26 : r ≤ 26) : M_told st v m = some (setM (setM m 31 r v) 0 45 ((r : Int) + 1)) := by
  refine ok_is ?_
  have e : setM m 31 r v 0 45 = r := by rw [setM_ne (by omega)]; exact hr
  unfold M_told
  rw [hr, Int.toNat_natCast]
  refine ok_ite (fun _ => by omega) (fun _ => ok_ite (fun _ => by omega) (fun _ => ok_grd (by omega) (ok_ltv ?_)))
  rw [e]
  exact ok_grd (by unfold InR; omega) (ok_ltv (ok_ite (fun _ => by omega) (fun _ => ok_some rfl)))
theorem told_two {r : Nat} {v : Int} (hs : st = 2 ∨ st = 3) (hr : m 0 45 = r) (h26 : r ≤ 26) : M_told st v m = some (setM (setM (setM (setM m 31 r v) 0 45 ((r : Int) + 1)) 31 (r + 1) v) 0 45 ((r : Int) + 2)) := by
  refine ok_is ?_
  have e : setM m 31 r v 0 45 = r := by rw [setM_ne (by omega)]; exact hr
  have e2 : ((r : Int) + 1).toNat = r + 1 := by omega
  unfold M_told
  rw [hr, Int.toNat_natCast]
  refine ok_ite (fun _ => by omega) (fun _ => ok_ite (fun _ => by omega) (fun _ => ok_grd (by omega) (ok_ltv ?_)))
  rw [e]
  refine ok_grd (by unfold InR; omega) (ok_ltv (ok_ite (fun _ => ?_) (fun q => absurd hs q)))
  rw [setM_same, e2]
  refine ok_grd (by omega) (ok_ltv ?_)
  rw [setM_ne (by omega), setM_same]
  refine ok_grd (by unfold InR; omega) (ok_ltv (ok_some ?_))
  rw [show (r : Int) + 1 + 1 = (r : Int) + 2 by omega]
theorem told_four {r : Nat} {v : Int} (hr : m 0 45 = r) (h1 : 1 ≤ r) (h26 : r ≤ 26) : M_told 4 v m = some (setM m 31 (r - 1) v) := by
  refine ok_is ?_
  have e2 : ((r : Int) - 1).toNat = r - 1 := by omega
  unfold M_told
  rw [hr, e2]
  exact ok_ite (fun _ => by omega) (fun _ => ok_ite (fun _ => ok_grd (by unfold InR; omega) (ok_ltv (ok_some rfl))) (fun q => absurd rfl q))
theorem told_skip {v : Int} (hr : 26 < m 0 45) : M_told st v m = some m := by
  unfold M_told
  rw [if_pos hr]
/-- the rows of calls that are whole -/
def RoE (c : Nat) (S : Int) (P A D : Nat → Int) (m : Mem) : Prop := m 31 0 = S ∧ (c ≤ 9 → m 0 45 = 1 + 3 * (c : Int)) ∧ (9 ≤ c → m 0 45 = 28) ∧ ∀ i, i < c → i < 8 → m 31 (1 + 3 * i) = P i ∧ m 31 (2 + 3 * i) = A i ∧ m 31 (3 + 3 * i) = D i
theorem ro_next {c : Nat} {S p a : Int} {P A D : Nat → Int} (hc : 1 ≤ c) (h : RoE c S P A D m) : ∃ m3 m4, M_told 1 p m = some m3 ∧ ¬ m3 0 45 = 2 ∧ M_told 3 a m3 = some m4 ∧ FrRd m m3 ∧ FrRd m m4 ∧ (∀ P' A' D' : Nat → Int, (∀ i, i < 8 → i ≠ c → P' i = P i ∧ A' i = A i ∧ D' i = D i) → (c < 8 → P' c = p ∧ A' c = a ∧ D' c = a) → RoE (c + 1) S P' A' D' m4) ∧ ∀ d : Int, ∃ m5, M_told 4 d m4 = some m5 ∧ FrRd m m5 ∧ ∀ P' A' D' : Nat → Int, (∀ i, i < 8 → i ≠ c → P' i = P i ∧ A' i = A i ∧ D' i = D i) → (c < 8 → P' c = p ∧ A' c = a ∧ D' c = d) → RoE (c + 1) S P' A' D' m5 := by
  obtain ⟨h1, h2, h3, h4⟩ := h
  by_cases hc9 : 9 ≤ c
  · have r := h3 hc9
    have sk : ∀ (st v : Int), M_told st v m = some m := fun st v => told_skip (by omega)
    refine ⟨m, m, sk 1 p, by omega, sk 3 a, fun _ _ _ _ => rfl, fun _ _ _ _ => rfl, fun P' A' D' hP _ => ⟨h1, fun q => by omega, fun _ => r, fun i hi h8 => ?_⟩, fun d => ⟨m, sk 4 d, fun _ _ _ _ => rfl, fun P' A' D' hP _ => ⟨h1, fun q => by omega, fun _ => r, fun i hi h8 => ?_⟩⟩⟩
    · have e := hP i h8 (by omega)
      rw [e.1, e.2.1, e.2.2]
      exact h4 i (by omega) h8
    · have e := hP i h8 (by omega)
      rw [e.1, e.2.1, e.2.2]
      exact h4 i (by omega) h8
  · have r : m 0 45 = ((1 + 3 * c : Nat) : Int) := by rw [h2 (by omega)]; omega
    have t1 := told_one (m := m) (st := 1) (v := p) (Or.inr rfl) r (by omega)
    obtain ⟨m3, hm3⟩ : ∃ m3, m3 = setM (setM m 31 (1 + 3 * c) p) 0 45 (((1 + 3 * c : Nat) : Int) + 1) := ⟨_, rfl⟩
    rw [← hm3] at t1
    have r3 : m3 0 45 = ((2 + 3 * c : Nat) : Int) := by rw [hm3, setM_same]; omega
    have v3 : ∀ i, m3 31 i = if i = 1 + 3 * c then p else m 31 i := fun i => by
      rw [hm3, setM_ne (by omega)]
      by_cases e : i = 1 + 3 * c
      · rw [if_pos e, e, setM_same]
      · rw [if_neg e, setM_ne (by omega)]
    have f3 : FrRd m m3 := fun c i x y => by rw [hm3, setM_ne (by omega), setM_ne (by omega)]
    have t2 := told_two (m := m3) (st := 3) (v := a) (Or.inr rfl) r3 (by omega)
    obtain ⟨m4, hm4⟩ : ∃ m4, m4 = setM (setM (setM (setM m3 31 (2 + 3 * c) a) 0 45 (((2 + 3 * c : Nat) : Int) + 1)) 31 (2 + 3 * c + 1) a) 0 45 (((2 + 3 * c : Nat) : Int) + 2) := ⟨_, rfl⟩
    rw [← hm4] at t2
    have r4 : m4 0 45 = ((4 + 3 * c : Nat) : Int) := by rw [hm4, setM_same]; omega
    have v4 : ∀ i, m4 31 i = if i = 2 + 3 * c ∨ i = 3 + 3 * c then a else m3 31 i := fun i => by
      rw [hm4, setM_ne (by omega)]
      by_cases e : i = 3 + 3 * c
      · rw [if_pos (Or.inr e), setM_hit ⟨rfl, by omega⟩]
      · rw [setM_ne (by omega), setM_ne (by omega)]
        by_cases e2 : i = 2 + 3 * c
        · rw [if_pos (Or.inl e2), setM_hit ⟨rfl, e2⟩]
        · rw [if_neg (by omega), setM_ne (by omega)]
    have f4 : FrRd m m4 := fun c i x y => by
      rw [hm4, setM_ne (by omega), setM_ne (by omega), setM_ne (by omega), setM_ne (by omega)]
      exact f3 c i x y
    refine ⟨m3, m4, t1, by omega, t2, f3, f4, fun P' A' D' hP hC => ⟨?_, fun q => by omega, fun q => by omega, fun i hi h8 => ?_⟩, fun d => ?_⟩
    · rw [v4, if_neg (by omega), v3, if_neg (by omega)]
      exact h1
    · by_cases hic : i = c
      · have e := hC (by omega)
        rw [hic, e.1, e.2.1, e.2.2, v4, if_neg (by omega), v3, if_pos rfl, v4, if_pos (Or.inl rfl), v4, if_pos (Or.inr rfl)]
        exact ⟨rfl, rfl, rfl⟩
      · have e := hP i h8 hic
        rw [e.1, e.2.1, e.2.2, v4, if_neg (by omega), v3, if_neg (by omega), v4, if_neg (by omega), v3, if_neg (by omega), v4, if_neg (by omega), v3, if_neg (by omega)]
        exact h4 i (by omega) h8
    · by_cases hc8 : c = 8
      · refine ⟨m4, told_skip (by omega), f4, fun P' A' D' hP hC => ⟨?_, fun q => by omega, fun q => by omega, fun i hi h8 => ?_⟩⟩
        · rw [v4, if_neg (by omega), v3, if_neg (by omega)]
          exact h1
        · have e := hP i h8 (by omega)
          rw [e.1, e.2.1, e.2.2, v4, if_neg (by omega), v3, if_neg (by omega), v4, if_neg (by omega), v3, if_neg (by omega), v4, if_neg (by omega), v3, if_neg (by omega)]
          exact h4 i (by omega) h8
      · have t4 := told_four (m := m4) (v := d) r4 (by omega) (by omega)
        obtain ⟨m5, hm5⟩ : ∃ m5, m5 = setM m4 31 (4 + 3 * c - 1) d := ⟨_, rfl⟩
        rw [← hm5] at t4
        have v5 : ∀ i, m5 31 i = if i = 3 + 3 * c then d else m4 31 i := fun i => by
          rw [hm5]
          by_cases e : i = 3 + 3 * c
          · rw [if_pos e, setM_hit ⟨rfl, by omega⟩]
          · rw [if_neg e, setM_ne (by omega)]
        have r5 : m5 0 45 = ((4 + 3 * c : Nat) : Int) := by rw [hm5, setM_ne (by omega)]; exact r4
        refine ⟨m5, t4, fun c i x y => by rw [hm5, setM_ne (by omega)]; exact f4 c i x y, fun P' A' D' hP hC => ⟨?_, fun q => by omega, fun q => by omega, fun i hi h8 => ?_⟩⟩
        · rw [v5, if_neg (by omega), v4, if_neg (by omega), v3, if_neg (by omega)]
          exact h1
        · by_cases hic : i = c
          · have e := hC (by omega)
            rw [hic, e.1, e.2.1, e.2.2, v5, if_neg (by omega), v4, if_neg (by omega), v3, if_pos rfl, v5, if_neg (by omega), v4, if_pos (Or.inl rfl), v5, if_pos rfl]
            exact ⟨rfl, rfl, rfl⟩
          · have e := hP i h8 hic
            rw [e.1, e.2.1, e.2.2, v5, if_neg (by omega), v4, if_neg (by omega), v3, if_neg (by omega), v5, if_neg (by omega), v4, if_neg (by omega), v3, if_neg (by omega), v5, if_neg (by omega), v4, if_neg (by omega), v3, if_neg (by omega)]
            exact h4 i (by omega) h8
end RRR
