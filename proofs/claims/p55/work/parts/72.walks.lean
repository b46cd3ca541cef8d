/-! ===== the reference's walks ===== -/
def toldM (m : Mem) : Nat → Nat → Int := fun a b => m 2 (12 * a + b)
/-- zero on the diagonal -/
def dg (W : Nat → Nat → Int) (a b : Nat) : Int := if a = b then 0 else W a b
section WALKS
variable {m0 : Mem} {n : Nat}
def Fr3 (m0 m : Mem) : Prop := ∀ c i, ¬ c = 3 → m c i = m0 c i
theorem i12 (a b : Nat) : (12 * (a : Int) + (b : Int)).toNat = 12 * a + b := by omega
theorem walks_ok (hn : m0 0 1 = n) (hn2 : n ≤ 12) (hT : TB (toldM m0)) : Ok (M_walks m0) (fun m => Fr3 m0 m ∧ ∀ a b : Nat, a < n → b < n → m 3 (12 * a + b) = dg (fw (toldM m0) (m0 0 5) n) a b) := by
  unfold M_walks
  refine ok_ltv (ok_bq2 (Q := fun r => Fr3 m0 r.2 ∧ ∀ a b : Nat, a < n → b < n → r.2 3 (12 * a + b) = dg (fw (toldM m0) (m0 0 5) 0) a b) (ok_for0 (n := n) (fun s m => Fr3 m0 m ∧ ∀ a b : Nat, a < s → b < n → m 3 (12 * a + b) = dg (fw (toldM m0) (m0 0 5) 0) a b) ⟨fun _ _ _ => rfl, fun a b ha _ => by omega⟩ ?_ ?_) (fun _ m2 h => ok_ltv (ok_bq2 (ok_for0 (n := n) (fun k m => Fr3 m0 m ∧ ∀ a b : Nat, a < n → b < n → m 3 (12 * a + b) = dg (fw (toldM m0) (m0 0 5) k) a b) h ?_ ?_) (fun _ m3 h3 => ok_some h3))))
  · rintro s m hs ⟨f1, f2⟩
    have e0 : m 0 1 = n := by rw [f1 0 1 (by omega)]; exact hn
    unfold M_walks_b1
    rw [e0]
    refine ok_ite (fun _ => ok_ltv (ok_bq2 (ok_for0 (n := n) (fun o m' => Fr3 m0 m' ∧ ∀ a b : Nat, a < n → b < n → (a < s ∨ (a = s ∧ b < o)) → m' 3 (12 * a + b) = dg (fw (toldM m0) (m0 0 5) 0) a b) ⟨f1, fun a b ha hb q => f2 a b (by omega) hb⟩ ?_ ?_) (fun _ m' h => ok_grd (by unfold InR; omega) (ok_ltv (ok_some ⟨_, rfl, h.1, fun a b ha hb => h.2 a b (by omega) hb (by omega)⟩))))) (fun h => by omega)
    · rintro o m' ho ⟨p1, p2⟩
      have e0 : m' 0 1 = n := by rw [p1 0 1 (by omega)]; exact hn
      have e4 : m' 0 5 = m0 0 5 := p1 0 5 (by omega)
      have e5 : m' 2 (12 * s + o) = toldM m0 s o := p1 2 (12 * s + o) (by omega)
      have tb := hT s o (by omega) (by omega)
      unfold M_walks_b2
      rw [e0, i12, e4, e5]
      refine ok_ite (fun _ => ok_grd (by unfold InR; omega) (ok_ltv (ok_ltv (ok_grd (by unfold InR; omega) (ok_ltv (ok_some ⟨_, rfl, fun c i hc => ?_, fun a b ha hb q => ?_⟩)))))) (fun h => by omega)
      · rw [setM_ne (by omega)]
        exact p1 c i hc
      · by_cases hh : a = s ∧ b = o
        · rw [setM_hit (by omega), hh.1, hh.2]
          unfold dg
          by_cases z : s = o
          · rw [if_pos (by omega), if_pos z]
          · rw [if_neg (by omega), if_neg z, fw_zero]
            by_cases z2 : (toldM m0 s o = 0 ∨ (s : Int) = m0 0 5) ∨ (o : Int) = m0 0 5
            · rw [if_pos z2, if_pos (by omega)]
            · rw [if_neg z2, if_neg (by omega)]
        · rw [setM_ne (by omega)]
          exact p2 a b ha hb (by omega)
    · rintro m' ⟨p1, p2⟩
      have e0 : m' 0 1 = n := by rw [p1 0 1 (by omega)]; exact hn
      unfold M_walks_b2
      rw [e0, if_neg (by omega)]
  · rintro m ⟨f1, f2⟩
    have e0 : m 0 1 = n := by rw [f1 0 1 (by omega)]; exact hn
    unfold M_walks_b1
    rw [e0, if_neg (by omega)]
  · rintro k m hk ⟨f1, f2⟩
    have e0 : m 0 1 = n := by rw [f1 0 1 (by omega)]; exact hn
    unfold M_walks_b3
    rw [e0]
    refine ok_ite (fun _ => ok_ltv (ok_bq2 (ok_for0 (n := n) (fun s m' => Fr3 m0 m' ∧ ∀ a b : Nat, a < n → b < n → m' 3 (12 * a + b) = if a < s then dg (fw (toldM m0) (m0 0 5) (k + 1)) a b else dg (fw (toldM m0) (m0 0 5) k) a b) ⟨f1, fun a b ha hb => ?_⟩ ?_ ?_) (fun _ m' h => ok_grd (by unfold InR; omega) (ok_ltv (ok_some ⟨_, rfl, h.1, fun a b ha hb => ?_⟩))))) (fun h => by omega)
    · rw [f2 a b ha hb, if_neg (by omega)]
    · rintro s m' hs ⟨p1, p2⟩
      have e0 : m' 0 1 = n := by rw [p1 0 1 (by omega)]; exact hn
      unfold M_walks_b4
      rw [e0]
      refine ok_ite (fun _ => ok_ltv (ok_bq2 (ok_for0 (n := n) (fun o m'' => Fr3 m0 m'' ∧ ∀ a b : Nat, a < n → b < n → m'' 3 (12 * a + b) = if a < s ∨ (a = s ∧ b < o) then dg (fw (toldM m0) (m0 0 5) (k + 1)) a b else dg (fw (toldM m0) (m0 0 5) k) a b) ⟨p1, fun a b ha hb => ?_⟩ ?_ ?_) (fun _ m'' h => ok_grd (by unfold InR; omega) (ok_ltv (ok_some ⟨_, rfl, h.1, fun a b ha hb => ?_⟩))))) (fun h => by omega)
      · rw [p2 a b ha hb]
        by_cases q : a < s
        · rw [if_pos q, if_pos (Or.inl q)]
        · rw [if_neg q, if_neg (by omega)]
      · rintro o m'' ho ⟨f1, f2⟩
        have e0 : m'' 0 1 = n := by rw [f1 0 1 (by omega)]; exact hn
        have b1 := fw_bd (cut := m0 0 5) hT k s k (by omega) (by omega) (by omega)
        have b2 := fw_bd (cut := m0 0 5) hT k k o (by omega) (by omega) (by omega)
        have b3 := fw_bd (cut := m0 0 5) hT k s o (by omega) (by omega) (by omega)
        have r1 : m'' 3 (12 * s + k) = dg (fw (toldM m0) (m0 0 5) k) s k := by
          rw [f2 s k hs hk]
          split
          · unfold dg
            rw [fw_col]
          · rfl
        have r2 : m'' 3 (12 * k + o) = dg (fw (toldM m0) (m0 0 5) k) k o := by
          rw [f2 k o hk ho]
          split
          · unfold dg
            rw [fw_row]
          · rfl
        have r3 : m'' 3 (12 * s + o) = dg (fw (toldM m0) (m0 0 5) k) s o := by
          rw [f2 s o hs ho, if_neg (by omega)]
        have c1 : 0 ≤ dg (fw (toldM m0) (m0 0 5) k) s k ∧ dg (fw (toldM m0) (m0 0 5) k) s k ≤ 1000000 := by unfold dg; split <;> omega
        have c2 : 0 ≤ dg (fw (toldM m0) (m0 0 5) k) k o ∧ dg (fw (toldM m0) (m0 0 5) k) k o ≤ 1000000 := by unfold dg; split <;> omega
        have c3 : (dg (fw (toldM m0) (m0 0 5) k) s k + dg (fw (toldM m0) (m0 0 5) k) k o < dg (fw (toldM m0) (m0 0 5) k) s o) ↔ (¬ s = o ∧ ¬ s = k ∧ ¬ o = k ∧ fw (toldM m0) (m0 0 5) k s k + fw (toldM m0) (m0 0 5) k k o < fw (toldM m0) (m0 0 5) k s o) := by
          unfold dg
          by_cases z1 : s = o
          · rw [if_pos z1]
            constructor
            · intro h
              split at h <;> split at h <;> omega
            · exact fun h => absurd z1 h.1
          · by_cases z2 : s = k
            · rw [if_pos z2, if_neg z1, z2]
              constructor
              · intro h
                split at h <;> omega
              · exact fun h => absurd rfl h.2.1
            · by_cases z3 : o = k
              · rw [if_pos z3.symm, if_neg z1, if_neg z2, z3]
                constructor
                · intro h
                  omega
                · exact fun h => absurd rfl h.2.2.1
              · rw [if_neg z1, if_neg z2, if_neg (fun q => z3 q.symm)]
                exact ⟨fun h => ⟨z1, z2, z3, h⟩, fun h => h.2.2.2⟩
        unfold M_walks_b5
        rw [e0, i12, i12, i12, r1, r2, r3]
        refine ok_ite (fun _ => ok_grd (by unfold InR; omega) (ok_ltv (ok_grd (by unfold InR; omega) (ok_ite (fun h => ok_ltv (ok_grd (by unfold InR; omega) (ok_ltv (ok_some ⟨_, rfl, fun c i hc => ?_, fun a b ha hb => ?_⟩)))) (fun h => ok_grd (by unfold InR; omega) (ok_ltv (ok_some ⟨_, rfl, f1, fun a b ha hb => ?_⟩))))))) (fun h => by omega)
        · rw [setM_ne (by omega)]
          exact f1 c i hc
        · have z := c3.mp h
          by_cases hh : a = s ∧ b = o
          · rw [setM_hit (by omega), if_pos (by omega), hh.1, hh.2]
            unfold dg
            rw [if_neg z.1, if_neg z.2.1, if_neg (fun q => z.2.2.1 q.symm), fw_succ, if_pos z]
          · rw [setM_ne (by omega), f2 a b ha hb]
            by_cases q : a < s ∨ (a = s ∧ b < o)
            · rw [if_pos q, if_pos (by omega)]
            · rw [if_neg q, if_neg (by omega)]
        · rw [f2 a b ha hb]
          by_cases q : a < s ∨ (a = s ∧ b < o)
          · rw [if_pos q, if_pos (by omega)]
          · rw [if_neg q]
            by_cases hh : a = s ∧ b = o
            · rw [if_pos (by omega), hh.1, hh.2]
              unfold dg
              rw [fw_succ, if_neg (fun z => h (c3.mpr z))]
            · rw [if_neg (by omega)]
      · rintro m'' ⟨f1, f2⟩
        have e0 : m'' 0 1 = n := by rw [f1 0 1 (by omega)]; exact hn
        unfold M_walks_b5
        rw [e0, if_neg (by omega)]
      · dsimp only at h
        rw [h.2 a b ha hb]
        by_cases q : a < s + 1
        · rw [if_pos q, if_pos (by omega)]
        · rw [if_neg q, if_neg (by omega)]
    · rintro m' ⟨p1, p2⟩
      have e0 : m' 0 1 = n := by rw [p1 0 1 (by omega)]; exact hn
      unfold M_walks_b4
      rw [e0, if_neg (by omega)]
    · dsimp only at h
      rw [h.2 a b ha hb, if_pos ha]
  · rintro m ⟨f1, f2⟩
    have e0 : m 0 1 = n := by rw [f1 0 1 (by omega)]; exact hn
    unfold M_walks_b3
    rw [e0, if_neg (by omega)]
end WALKS
