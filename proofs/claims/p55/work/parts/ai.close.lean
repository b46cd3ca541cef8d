/-! ===== P55: the law closes its walks as the reference does ===== -/
section CLW
variable {m m0 : Mem} {n : Nat} {T : Nat → Nat → Int}
def FrY7 (m0 m : Mem) : Prop := ∀ c i, ¬ c = 457 → m c i = m0 c i
theorem fw_fin {N : Nat} (hT : TB T) (h20 : ∀ a b, a < N → b < N → T a b ≤ 20) (hN : N ≤ 12) : ∀ (k a b : Nat), k ≤ N → a < N → b < N → fw T (-1) k a b = 1000000 ∨ fw T (-1) k a b ≤ 20 * 2 ^ k := by
  intro k
  induction k with
  | zero =>
    intro a b _ ha hb
    rw [fw_zero]
    split
    · exact Or.inl rfl
    · right
      have := h20 a b ha hb
      omega
  | succ k ih =>
    intro a b hk ha hb
    rw [fw_succ]
    have i1 := ih a k (by omega) ha (by omega)
    have i2 := ih k b (by omega) (by omega) hb
    have i3 := ih a b (by omega) ha hb
    have b1 := fw_bd (cut := -1) hT k a k (by omega) (by omega) (by omega)
    have b2 := fw_bd (cut := -1) hT k k b (by omega) (by omega) (by omega)
    have b3 := fw_bd (cut := -1) hT k a b (by omega) (by omega) (by omega)
    have e : (2 : Int) ^ (k + 1) = 2 * 2 ^ k := by rw [Int.pow_succ]; omega
    have p : (0 : Int) < 2 ^ k := Int.pow_pos (by omega)
    rw [e]
    split
    · rename_i h
      right
      omega
    · omega
theorem closeW_ok (hn : n ≤ 6) (hT : TB T) (h0 : ∀ a b : Nat, a < n → b < n → m0 457 (6 * a + b) = dg (fw T (-1) 0) a b) : Ok (W_close n m0) (fun m => FrY7 m0 m ∧ ∀ a b : Nat, a < n → b < n → m 457 (6 * a + b) = dg (fw T (-1) n) a b) := by
  unfold W_close
  refine ok_ltv (ok_bq2 (ok_for0 (b := W_close_b1 n) (n := n) (fun k m => FrY7 m0 m ∧ ∀ a b : Nat, a < n → b < n → m 457 (6 * a + b) = dg (fw T (-1) k) a b) ⟨fun _ _ _ => rfl, h0⟩ ?_ ?_) (fun _ m3 h3 => ok_some h3))
  · rintro k m hk ⟨f1, f2⟩
    unfold W_close_b1
    refine ok_ite (fun _ => ok_ltv (ok_bq2 (ok_for0 (b := W_close_b2 n k) (n := n) (fun s m' => FrY7 m0 m' ∧ ∀ a b : Nat, a < n → b < n → m' 457 (6 * a + b) = if a < s then dg (fw T (-1) (k + 1)) a b else dg (fw T (-1) k) a b) ⟨f1, fun a b ha hb => ?_⟩ ?_ ?_) (fun _ m' h => ok_grd (by unfold InR; omega) (ok_ltv (ok_some ⟨_, rfl, h.1, fun a b ha hb => ?_⟩))))) (fun h => by omega)
    · rw [f2 a b ha hb, if_neg (by omega)]
    · rintro s m' hs ⟨p1, p2⟩
      unfold W_close_b2
      refine ok_ite (fun _ => ok_ltv (ok_bq2 (ok_for0 (b := W_close_b3 n k s) (n := n) (fun o m'' => FrY7 m0 m'' ∧ ∀ a b : Nat, a < n → b < n → m'' 457 (6 * a + b) = if a < s ∨ (a = s ∧ b < o) then dg (fw T (-1) (k + 1)) a b else dg (fw T (-1) k) a b) ⟨p1, fun a b ha hb => ?_⟩ ?_ ?_) (fun _ m'' h => ok_grd (by unfold InR; omega) (ok_ltv (ok_some ⟨_, rfl, h.1, fun a b ha hb => ?_⟩))))) (fun h => by omega)
      · rw [p2 a b ha hb]
        by_cases q : a < s
        · rw [if_pos q, if_pos (Or.inl q)]
        · rw [if_neg q, if_neg (by omega)]
      · rintro o m'' ho ⟨f1, f2⟩
        have b1 := fw_bd (cut := -1) hT k s k (by omega) (by omega) (by omega)
        have b2 := fw_bd (cut := -1) hT k k o (by omega) (by omega) (by omega)
        have b3 := fw_bd (cut := -1) hT k s o (by omega) (by omega) (by omega)
        have r1 : m'' 457 (6 * s + k) = dg (fw T (-1) k) s k := by
          rw [f2 s k hs hk]
          split
          · unfold dg
            rw [fw_col]
          · rfl
        have r2 : m'' 457 (6 * k + o) = dg (fw T (-1) k) k o := by
          rw [f2 k o hk ho]
          split
          · unfold dg
            rw [fw_row]
          · rfl
        have r3 : m'' 457 (6 * s + o) = dg (fw T (-1) k) s o := by
          rw [f2 s o hs ho, if_neg (by omega)]
        have c1 : 0 ≤ dg (fw T (-1) k) s k ∧ dg (fw T (-1) k) s k ≤ 1000000 := by unfold dg; split <;> omega
        have c2 : 0 ≤ dg (fw T (-1) k) k o ∧ dg (fw T (-1) k) k o ≤ 1000000 := by unfold dg; split <;> omega
        have c3 : (dg (fw T (-1) k) s k + dg (fw T (-1) k) k o < dg (fw T (-1) k) s o) ↔ (¬ s = o ∧ ¬ s = k ∧ ¬ o = k ∧ fw T (-1) k s k + fw T (-1) k k o < fw T (-1) k s o) := by
          unfold dg
          by_cases z1 : s = o
          · rw [if_pos z1]
            constructor
            · intro h
              split at h <;> split at h <;> omega
            · exact fun h => absurd z1 h.1
          · by_cases z2 : s = k
            · rw [if_pos z2, if_neg z1, z2]
              constructor
              · intro h
                split at h <;> omega
              · exact fun h => absurd rfl h.2.1
            · by_cases z3 : o = k
              · rw [if_pos z3.symm, if_neg z1, if_neg z2, z3]
                constructor
                · intro h
                  omega
                · exact fun h => absurd rfl h.2.2.1
              · rw [if_neg z1, if_neg z2, if_neg (fun q => z3 q.symm)]
                exact ⟨fun h => ⟨z1, z2, z3, h⟩, fun h => h.2.2.2⟩
        unfold W_close_b3
        rw [i6, i6, i6, r1, r2, r3]
        refine ok_ite (fun _ => ok_grd (by unfold InR; omega) (ok_ltv (ok_grd (by unfold InR; omega) (ok_ltv (ok_grd (by unfold InR; omega) (ok_ltv (ok_some ⟨_, rfl, fun c i hc => ?_, fun a b ha hb => ?_⟩))))))) (fun h => by omega)
        · rw [setM_ne (by omega)]
          exact f1 c i hc
        · by_cases hh : a = s ∧ b = o
          · rw [setM_hit (by omega), hh.1, hh.2, if_pos (show s < s ∨ s = s ∧ o < o + 1 by omega)]
            by_cases z : dg (fw T (-1) k) s k + dg (fw T (-1) k) k o < dg (fw T (-1) k) s o
            · have z9 := c3.mp z
              rw [if_pos z]
              unfold dg
              rw [if_neg z9.1, if_neg z9.2.1, if_neg (fun q => z9.2.2.1 q.symm), fw_succ, if_pos z9]
            · rw [if_neg z]
              unfold dg
              rw [fw_succ, if_neg (fun q => z (c3.mpr q))]
          · rw [setM_ne (by omega), f2 a b ha hb]
            by_cases q : a < s ∨ (a = s ∧ b < o)
            · rw [if_pos q, if_pos (by omega)]
            · rw [if_neg q, if_neg (by omega)]
      · rintro m'' ⟨f1, f2⟩
        unfold W_close_b3
        rw [if_neg (by omega)]
      · dsimp only at h
        rw [h.2 a b ha hb]
        by_cases q : a < s + 1
        · rw [if_pos q, if_pos (by omega)]
        · rw [if_neg q, if_neg (by omega)]
    · rintro m' ⟨p1, p2⟩
      unfold W_close_b2
      rw [if_neg (by omega)]
    · dsimp only at h
      rw [h.2 a b ha hb, if_pos ha]
  · rintro m ⟨f1, f2⟩
    unfold W_close_b1
    rw [if_neg (by omega)]
end CLW
