/-! ===== walks: both make the same ones ===== -/
theorem ok_for0 {b : Int → Mem → Option ((Int × Mem) ⊕ (Int × Mem))} {n : Nat} {m0 : Mem} (Inv : Nat → Mem → Prop) (h0 : Inv 0 m0) (step : ∀ (i : Nat) (m : Mem), i < n → Inv i m → Ok (b i m) (fun x => ∃ m', x = .inl ((i : Int) + 1, m') ∧ Inv (i + 1) m')) (stop : ∀ m, Inv n m → b n m = some (.inr ((n : Int), m))) : Ok (loop (fun s => b s.1 s.2) ((0 : Int), m0)) (fun r => Inv n r.2) := by
  refine ok_loop (fun s => ∃ i : Nat, s.1 = i ∧ i ≤ n ∧ Inv i s.2) (fun s => n - s.1.toNat) ⟨0, rfl, Nat.zero_le _, h0⟩ ?_
  rintro ⟨i, m⟩ ⟨k, h1, h2, h3⟩
  dsimp only at h1 h3 ⊢
  subst h1
  by_cases hk : k < n
  · obtain ⟨x, e, m', rfl, h4⟩ := step k m hk h3
    refine ⟨_, e, ⟨k + 1, by dsimp only; omega, by omega, h4⟩, ?_⟩
    dsimp only
    omega
  · have hn : k = n := by omega
    subst hn
    exact ⟨_, stop m h3, h3⟩
section FW
variable {T : Nat → Nat → Int} {cut : Int}
def TB (T : Nat → Nat → Int) : Prop := ∀ a b : Nat, a < 12 → b < 12 → 0 ≤ T a b ∧ T a b ≤ 60 ∧ (a = b → T a b = 0)
theorem fw_succ (k a b : Nat) : fw T cut (k + 1) a b = if ¬ a = b ∧ ¬ a = k ∧ ¬ b = k ∧ fw T cut k a k + fw T cut k k b < fw T cut k a b then fw T cut k a k + fw T cut k k b else fw T cut k a b := rfl
theorem fw_zero (a b : Nat) : fw T cut 0 a b = if T a b = 0 ∨ (a : Int) = cut ∨ (b : Int) = cut then 1000000 else T a b := rfl
theorem fw_bd (h : TB T) : ∀ (k a b : Nat), k ≤ 12 → a < 12 → b < 12 → 1 ≤ fw T cut k a b ∧ fw T cut k a b ≤ 1000000 := by
  intro k
  induction k with
  | zero =>
    intro a b _ ha hb
    have := h a b ha hb
    simp only [fw]
    split <;> omega
  | succ k ih =>
    intro a b hk ha hb
    have h1 := ih a b (by omega) ha hb
    have h2 := ih a k (by omega) ha (by omega)
    have h3 := ih k b (by omega) (by omega) hb
    simp only [fw]
    split <;> omega
theorem fw_diag (h : TB T) : ∀ (k a : Nat), a < 12 → fw T cut k a a = 1000000 := by
  intro k
  induction k with
  | zero =>
    intro a ha
    rw [fw_zero, if_pos (Or.inl ((h a a ha ha).2.2 rfl))]
  | succ k ih =>
    intro a ha
    rw [fw_succ, if_neg (fun q => q.1 rfl)]
    exact ih a ha
theorem fw_col (k a : Nat) : fw T cut (k + 1) a k = fw T cut k a k := by
  rw [fw_succ, if_neg (fun q => q.2.2.1 rfl)]
theorem fw_row (k b : Nat) : fw T cut (k + 1) k b = fw T cut k k b := by
  rw [fw_succ, if_neg (fun q => q.2.1 rfl)]
end FW
section LINK
variable {m0 : Mem} {n : Nat}
def FrL (m0 m : Mem) : Prop := ∀ c i, ¬ (17 ≤ c ∧ c ≤ 28) → m c i = m0 c i
theorem linkVia_ok {s k : Nat} {m1 : Mem} (hn : m0 1 0 = n) (hn2 : n ≤ 12) (hT : TB (told m0)) (hs : s < n) (hk : k < n) (hsk : s ≠ k) (h1 : FrL m0 m1) (h2 : ∀ a b : Nat, a < n → b < n → m1 (17 + a) b = if a < s then fw (told m0) (m0 1 4) (k + 1) a b else fw (told m0) (m0 1 4) k a b) : Ok (C_Stops_linkVia s k m1) (fun m => FrL m0 m ∧ ∀ a b : Nat, a < n → b < n → m (17 + a) b = if a < s + 1 then fw (told m0) (m0 1 4) (k + 1) a b else fw (told m0) (m0 1 4) k a b) := by
  unfold C_Stops_linkVia
  refine ok_ltv (ok_bq2 (ok_for0 (n := n) (fun o m => FrL m0 m ∧ ∀ a b : Nat, a < n → b < n → m (17 + a) b = if a < s ∨ (a = s ∧ b < o) then fw (told m0) (m0 1 4) (k + 1) a b else fw (told m0) (m0 1 4) k a b) ⟨h1, fun a b ha hb => ?_⟩ ?_ ?_) (fun _ m h => ok_some ?_))
  · rw [h2 a b ha hb]
    by_cases q : a < s
    · rw [if_pos q, if_pos (Or.inl q)]
    · rw [if_neg q, if_neg (by omega)]
  · rintro o m ho ⟨f1, f2⟩
    have e0 : m 1 0 = n := by rw [f1 1 0 (by omega)]; exact hn
    have b1 := fw_bd (cut := m0 1 4) hT k s k (by omega) (by omega) (by omega)
    have b2 := fw_bd (cut := m0 1 4) hT k k o (by omega) (by omega) (by omega)
    have b3 := fw_bd (cut := m0 1 4) hT k s o (by omega) (by omega) (by omega)
    have r1 : m (17 + s) k = fw (told m0) (m0 1 4) k s k := by
      rw [f2 s k hs hk]
      split
      · exact fw_col _ _
      · rfl
    have r2 : m (17 + k) o = fw (told m0) (m0 1 4) k k o := by
      rw [f2 k o hk ho]
      split
      · exact fw_row _ _
      · rfl
    have r3 : m (17 + s) o = fw (told m0) (m0 1 4) k s o := by
      rw [f2 s o hs ho, if_neg (by omega)]
    unfold C_Stops_linkVia_b1
    have q1 : ((s : Nat) : Int).toNat = s := by omega
    have q2 : ((k : Nat) : Int).toNat = k := by omega
    have q3 : ((o : Nat) : Int).toNat = o := by omega
    rw [e0, q1, q2, q3, r1, r2, r3]
    refine ok_ite (fun _ => ok_grd (by unfold InR; omega) (ok_ltv (ok_ite (fun h => ok_ltv (ok_grd (by unfold InR; omega) (ok_ltv (ok_some ⟨_, rfl, fun c i hc => ?_, fun a b ha hb => ?_⟩)))) (fun h => ok_grd (by unfold InR; omega) (ok_ltv (ok_some ⟨_, rfl, f1, fun a b ha hb => ?_⟩)))))) (fun h => by omega)
    · rw [setM_ne (by omega)]
      exact f1 c i hc
    · by_cases hh : a = s ∧ b = o
      · rw [setM_hit (by omega), if_pos (by omega), hh.1, hh.2]
        have hok : ¬ o = k := by
          intro q
          subst q
          have := fw_diag (cut := m0 1 4) hT o o (by omega)
          omega
        rw [fw_succ, if_pos ⟨by omega, by omega, hok, h.2⟩]
      · rw [setM_ne (by omega), f2 a b ha hb]
        by_cases q : a < s ∨ (a = s ∧ b < o)
        · rw [if_pos q, if_pos (by omega)]
        · rw [if_neg q, if_neg (by omega)]
    · rw [f2 a b ha hb]
      by_cases q : a < s ∨ (a = s ∧ b < o)
      · rw [if_pos q, if_pos (by omega)]
      · rw [if_neg q]
        by_cases hh : a = s ∧ b = o
        · rw [if_pos (by omega), hh.1, hh.2]
          rw [fw_succ, if_neg]
          intro z
          apply h
          exact ⟨fun y => z.1 (by omega), z.2.2.2⟩
        · rw [if_neg (by omega)]
  · rintro m ⟨f1, f2⟩
    have e0 : m 1 0 = n := by rw [f1 1 0 (by omega)]; exact hn
    unfold C_Stops_linkVia_b1
    rw [e0, if_neg (by omega)]
  · dsimp only at h
    refine ⟨h.1, fun a b ha hb => ?_⟩
    rw [h.2 a b ha hb]
    by_cases q : a < s + 1
    · rw [if_pos q, if_pos (by omega)]
    · rw [if_neg q, if_neg (by omega)]
theorem link_ok {without : Int} (hn : m0 1 0 = n) (hn2 : n ≤ 12) (hT : TB (told m0)) : Ok (C_Stops_link without m0) (fun m => (∀ c i, ¬ (17 ≤ c ∧ c ≤ 28) → ¬ (c = 1 ∧ i = 4) → m c i = m0 c i) ∧ m 1 4 = without ∧ ∀ a b : Nat, a < n → b < n → m (17 + a) b = fw (told m0) without n a b) := by
  unfold C_Stops_link
  refine ok_ltv ?_
  obtain ⟨m1, hm1⟩ : ∃ m1, m1 = setM m0 1 4 without := ⟨_, rfl⟩
  rw [← hm1]
  have g1 : ∀ c i, ¬ (c = 1 ∧ i = 4) → m1 c i = m0 c i := fun c i h => by rw [hm1]; exact setM_ne h
  have g2 : m1 1 4 = without := by rw [hm1]; exact setM_same _ _ _ _
  have g3 : told m1 = told m0 := by
    funext a b
    unfold told
    exact g1 _ _ (by omega)
  have hn1 : m1 1 0 = n := by rw [g1 1 0 (by omega)]; exact hn
  have hT1 : TB (told m1) := by rw [g3]; exact hT
  refine ok_ltv (ok_bq2 (Q := fun r => FrL m1 r.2 ∧ ∀ a b : Nat, a < n → b < n → r.2 (17 + a) b = fw (told m1) (m1 1 4) 0 a b) (ok_for0 (n := n) (fun s m => FrL m1 m ∧ ∀ a b : Nat, a < s → b < n → m (17 + a) b = fw (told m1) (m1 1 4) 0 a b) ⟨fun _ _ _ => rfl, fun a b ha _ => by omega⟩ ?_ ?_) (fun _ m2 h => ok_ltv (ok_bq2 (ok_for0 (n := n) (fun k m => FrL m1 m ∧ ∀ a b : Nat, a < n → b < n → m (17 + a) b = fw (told m1) (m1 1 4) k a b) h ?_ ?_) (fun _ m3 h3 => ok_some ?_))))
  · rintro s m hs ⟨f1, f2⟩
    have e0 : m 1 0 = n := by rw [f1 1 0 (by omega)]; exact hn1
    unfold C_Stops_link_b1
    rw [e0]
    refine ok_ite (fun _ => ok_ltv (ok_bq2 (ok_for0 (n := n) (fun o m' => FrL m1 m' ∧ ∀ a b : Nat, a < n → b < n → (a < s ∨ (a = s ∧ b < o)) → m' (17 + a) b = fw (told m1) (m1 1 4) 0 a b) ⟨f1, fun a b ha hb q => f2 a b (by omega) hb⟩ ?_ ?_) (fun _ m' h => ok_grd (by unfold InR; omega) (ok_ltv (ok_some ⟨_, rfl, h.1, fun a b ha hb => h.2 a b (by omega) hb (by omega)⟩))))) (fun h => by omega)
    · rintro o m' ho ⟨p1, p2⟩
      have e0 : m' 1 0 = n := by rw [p1 1 0 (by omega)]; exact hn1
      have e4 : m' 1 4 = m1 1 4 := p1 1 4 (by omega)
      have e5 : m' (4 + s) o = told m1 s o := p1 (4 + s) o (by omega)
      have q1 : ((s : Nat) : Int).toNat = s := by omega
      have q3 : ((o : Nat) : Int).toNat = o := by omega
      have tb := hT1 s o (by omega) (by omega)
      unfold C_Stops_link_b2
      rw [e0, q1, q3, e4, e5]
      refine ok_ite (fun _ => ok_grd (by omega) (ok_ltv (ok_grd (by omega) (ok_ltv (ok_grd (by unfold InR; omega) (ok_ltv (ok_some ⟨_, rfl, fun c i hc => ?_, fun a b ha hb q => ?_⟩))))))) (fun h => by omega)
      · rw [setM_ne (by omega)]
        exact p1 c i hc
      · by_cases hh : a = s ∧ b = o
        · rw [setM_hit (by omega), hh.1, hh.2]
          rw [fw_zero]
          by_cases z : (0 < told m1 s o ∧ ¬ (s : Int) = m1 1 4) ∧ ¬ (o : Int) = m1 1 4
          · rw [if_pos z, if_pos (by decide), if_neg (by omega)]
          · rw [if_neg z, if_neg (by decide), if_pos (by omega)]
        · rw [setM_ne (by omega)]
          exact p2 a b ha hb (by omega)
    · rintro m' ⟨p1, p2⟩
      have e0 : m' 1 0 = n := by rw [p1 1 0 (by omega)]; exact hn1
      unfold C_Stops_link_b2
      rw [e0, if_neg (by omega)]
  · rintro m ⟨f1, f2⟩
    have e0 : m 1 0 = n := by rw [f1 1 0 (by omega)]; exact hn1
    unfold C_Stops_link_b1
    rw [e0, if_neg (by omega)]
  · rintro k m hk ⟨f1, f2⟩
    have e0 : m 1 0 = n := by rw [f1 1 0 (by omega)]; exact hn1
    unfold C_Stops_link_b3
    rw [e0]
    refine ok_ite (fun _ => ok_ltv (ok_bq2 (ok_for0 (n := n) (fun s m' => FrL m1 m' ∧ ∀ a b : Nat, a < n → b < n → m' (17 + a) b = if a < s then fw (told m1) (m1 1 4) (k + 1) a b else fw (told m1) (m1 1 4) k a b) ⟨f1, fun a b ha hb => ?_⟩ ?_ ?_) (fun _ m' h => ok_grd (by unfold InR; omega) (ok_ltv (ok_some ⟨_, rfl, h.1, fun a b ha hb => ?_⟩))))) (fun h => by omega)
    · rw [f2 a b ha hb, if_neg (by omega)]
    · rintro s m' hs ⟨p1, p2⟩
      have e0 : m' 1 0 = n := by rw [p1 1 0 (by omega)]; exact hn1
      have q1 : ((s : Nat) : Int).toNat = s := by omega
      have q2 : ((k : Nat) : Int).toNat = k := by omega
      have e6 : m' (17 + s) k = fw (told m1) (m1 1 4) k s k := by rw [p2 s k hs hk, if_neg (by omega)]
      unfold C_Stops_link_b4
      rw [e0, q1, q2, e6]
      refine ok_ite (fun _ => ok_grd (by omega) (ok_ite (fun h => ok_bind (linkVia_ok hn1 hn2 hT1 hs hk ?_ p1 p2) (fun m'' h2 => ok_grd (by unfold InR; omega) (ok_ltv (ok_some ⟨_, rfl, h2⟩)))) (fun h => ok_grd (by unfold InR; omega) (ok_ltv (ok_some ⟨_, rfl, p1, fun a b ha hb => ?_⟩))))) (fun h => by omega)
      · intro q
        rw [q, fw_diag hT1 k k (by omega)] at h
        omega
      · rw [p2 a b ha hb]
        by_cases q : a < s
        · rw [if_pos q, if_pos (by omega)]
        · rw [if_neg q]
          by_cases q2 : a = s
          · rw [if_pos (by omega), q2]
            rw [fw_succ]
            have b1 := fw_bd (cut := m1 1 4) hT1 k k b (by omega) (by omega) (by omega)
            have b2 := fw_bd (cut := m1 1 4) hT1 k s b (by omega) (by omega) (by omega)
            rw [if_neg (by omega)]
          · rw [if_neg (by omega)]
    · rintro m' ⟨p1, p2⟩
      have e0 : m' 1 0 = n := by rw [p1 1 0 (by omega)]; exact hn1
      unfold C_Stops_link_b4
      rw [e0, if_neg (by omega)]
    · dsimp only at h
      rw [h.2 a b ha hb, if_pos ha]
  · rintro m ⟨f1, f2⟩
    have e0 : m 1 0 = n := by rw [f1 1 0 (by omega)]; exact hn1
    unfold C_Stops_link_b3
    rw [e0, if_neg (by omega)]
  · dsimp only at h3
    refine ⟨fun c i h1 h2 => ?_, ?_, fun a b ha hb => ?_⟩
    · rw [h3.1 c i h1, g1 c i h2]
    · rw [h3.1 1 4 (by omega), g2]
    · rw [h3.2 a b ha hb, g2, g3]
end LINK
