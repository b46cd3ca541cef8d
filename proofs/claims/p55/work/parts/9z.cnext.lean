/-! ===== the class reads on ===== -/
section CRN
variable {n : Nat} {sg : Nat → Int} {m m' m0 m1 mm : Mem}
theorem readNext_ok {k c : Nat} (h : SgC n sg m0) (hn : n ≤ 80) (hsg : ∀ i, i < n → 0 ≤ sg i ∧ sg i ≤ 65535) (hM : RdM n sg mm) (hC : CkP mm n sg m0 k c) (hkn : k < n) : Ok (C_Row_readNext m0) (fun r => FrRk m0 r.2 ∧ ((r.1 = 1 ∧ ∃ k', k < k' ∧ CkP mm n sg r.2 k' (c + 1)) ∨ (r.1 = 0 ∧ ∃ k', FlP mm n r.2 k'))) := by
  obtain ⟨a0, kn0, c1, ck, ⟨c4, S0, B0, E0⟩, st, nv, d, ma, m2c, hR, fa, f2c, dp, st2, st4, s0, dash, t0, ro⟩ := hC
  have Ra := FrRd_rd hM fa
  unfold C_Row_readNext
  refine ok_bq2 (readSign_ok (x := 44) h hn a0) (fun r m1 h1 => ?_)
  dsimp only at h1
  rcases h1 with ⟨rfl, -, sk, hm1⟩ | ⟨rfl, rfl, sk⟩
  case inr =>
    refine ok_ite (fun q => absurd rfl q) (fun _ => ok_some ⟨fun _ _ _ _ => rfl, Or.inr ⟨rfl, k, a0, kn0, ma, ?_, fa⟩⟩)
    rw [hR]
    refine Rr_fail Ra hn kn0 s0 (fun q _ => ?_) (fun q => by omega)
    have e1 := sk q
    intro z
    rcases z with ((z | z) | z) | z
    · omega
    · omega
    · exact e1 z.1
    · exact dash z.2 q z.1
  refine ok_ite (fun _ => ?_) (fun q => absurd Int.one_ne_zero q)
  rw [Rr_sep Ra hn hkn sk dp (by omega) t0, if_neg (by decide), if_neg (by decide), if_pos rfl] at hR
  have Rb := FrRd_rd hM f2c
  obtain ⟨m3, m4, t3, n3, t4, fr3, fr4, ro4, nx5⟩ := ro_next (p := 0) (a := 0) c1 ro
  clear m3 m4 t3 n3 t4 fr3 fr4 ro4 nx5
  have x1 : ∀ c i, ¬ (c = 114 ∧ i = 8) → m1 c i = m0 c i := fun c i q => by rw [hm1]; exact setM_ne q
  have a1 : m1 114 8 = ((k + 1 : Nat) : Int) := by rw [hm1, setM_same]; omega
  have F1 : FrRk m0 m1 := fun c i x y => x1 c i (by omega)
  refine ok_bq2 (readNumber_ok (k := k + 1) (FrRk_sg h F1) hn hsg a1 (by omega)) (fun r m2 h2 => ?_)
  dsimp only at h2
  obtain ⟨d2, p, rfl, f2, a2, v2, b2, b2', k2, s2, R2⟩ := h2
  have F2 : FrRk m0 m2 := fun c i x y => by rw [f2 c i (by omega)]; exact F1 c i x y
  rw [R2 1 m2c Rb] at hR
  refine ok_ite (fun hz => ok_ltv ?_) (fun hz => ok_some ⟨F2, Or.inr ⟨rfl, k + 1 + d2, a2, k2, m2c, ?_, f2c⟩⟩)
  case refine_2 =>
    have d0 : d2 = 0 := by rw [i01] at hz; omega
    rw [hR]
    exact Rr_fail Rb hn k2 s2 (fun _ q => by omega) (fun _ => Or.inl d0)
  have d2p : 0 < d2 := by rw [i01] at hz; omega
  rw [v2]
  refine ok_bq2 (readSign_ok (x := 64) (FrRk_sg h F2) hn a2) (fun r m3 h3 => ?_)
  dsimp only at h3
  rcases h3 with ⟨rfl, kn3, sk3, hm3⟩ | ⟨rfl, rfl, sk3⟩
  case inr =>
    refine ok_ite (fun q => absurd rfl q) (fun _ => ok_some ⟨F2, Or.inr ⟨rfl, k + 1 + d2, a2, k2, m2c, ?_, f2c⟩⟩)
    rw [hR]
    exact Rr_fail Rb hn k2 s2 (fun q _ => by have := sk3 q; omega) (fun _ => Or.inr (by omega))
  refine ok_ite (fun _ => ?_) (fun q => absurd Int.one_ne_zero q)
  have x3 : ∀ c i, ¬ (c = 114 ∧ i = 8) → m3 c i = m2 c i := fun c i q => by rw [hm3]; exact setM_ne q
  have a3 : m3 114 8 = ((k + 1 + d2 + 1 : Nat) : Int) := by rw [hm3, setM_same]; omega
  have F3 : FrRk m0 m3 := fun c i x y => by rw [x3 c i (by omega)]; exact F2 c i x y
  refine ok_bq2 (readNumber_ok (k := k + 1 + d2 + 1) (FrRk_sg h F3) hn hsg a3 (by omega)) (fun r m4 h4 => ?_)
  dsimp only at h4
  obtain ⟨d4, a, rfl, f4, a4, v4, b4, b4', k4, s4, R4⟩ := h4
  have F4 : FrRk m0 m4 := fun c i x y => by rw [f4 c i (by omega)]; exact F3 c i x y
  obtain ⟨mS, mA, tS, nS, tA, frS, frA, roA, nxD⟩ := ro_next (p := p) (a := a) c1 ro
  have fS := FrRd_tr f2c frS
  have fA := FrRd_tr f2c frA
  have RS := FrRd_rd hM fS
  have RA := FrRd_rd hM fA
  rw [Rr_sep Rb hn kn3 sk3 d2p (by omega) tS, if_neg (by decide), if_pos rfl, if_neg nS, R4 3 mS RS] at hR
  refine ok_ite (fun hz => ok_ltv ?_) (fun hz => ok_some ⟨F4, Or.inr ⟨rfl, k + 1 + d2 + 1 + d4, a4, k4, mS, ?_, fS⟩⟩)
  case refine_2 =>
    have d0 : d4 = 0 := by rw [i01] at hz; omega
    rw [hR]
    exact Rr_fail RS hn k4 s4 (fun _ q => by omega) (fun _ => Or.inl d0)
  have d4p : 0 < d4 := by rw [i01] at hz; omega
  rw [v4]
  -- what was read ahead stays
  have keepC : ∀ (i : Nat), m4 114 3 = m0 114 3 ∧ m4 114 4 = m0 114 4 ∧ m4 116 i = m0 116 i ∧ m4 117 i = m0 117 i ∧ m4 118 i = m0 118 i := fun i => by
    refine ⟨?_, ?_, ?_, ?_, ?_⟩ <;> rw [f4 _ _ (by omega), x3 _ _ (by omega), f2 _ _ (by omega), x1 _ _ (by omega)]
  -- one call more is kept
  have fin : ∀ (m5 : Mem) (k5 dd : Nat) (st5 nv5 dp5 : Int) (mX mY : Mem), FrRk m0 m5 → (∀ i : Nat, m5 114 3 = m0 114 3 ∧ m5 114 4 = m0 114 4 ∧ m5 116 i = m0 116 i ∧ m5 117 i = m0 117 i ∧ m5 118 i = m0 118 i) → m5 114 8 = k5 → k5 ≤ n → k < k5 → 0 ≤ dp5 → M_read mm = Rr st5 dd nv5 k5 mX → FrRd mm mX → FrRd mm mY → 0 < dd → 2 ≤ st5 → st5 ≤ 4 → (k5 < n → ¬ (48 ≤ sg k5 ∧ sg k5 ≤ 57 ∧ dd < 4)) → (st5 = 3 → k5 < n → sg k5 ≠ 45) → M_told st5 nv5 mX = some mY → (∀ P' A' D' : Nat → Int, (∀ i, i < 8 → i ≠ c → P' i = m0 116 i ∧ A' i = m0 117 i ∧ D' i = m0 118 i) → (c < 8 → P' c = p ∧ A' c = a ∧ D' c = dp5) → RoE (c + 1) (m0 114 3) P' A' D' mY) → Ok ((C_Row_keep p a dp5 m5).bind fun m_7 => some ((1 : Int), m_7)) (fun r => FrRk m0 r.2 ∧ ((r.1 = 1 ∧ ∃ k', k < k' ∧ CkP mm n sg r.2 k' (c + 1)) ∨ (r.1 = 0 ∧ ∃ k', FlP mm n r.2 k'))) := by
    intro m5 k5 dd st5 nv5 dp5 mX mY F5 K5 a5 kn5 kk5 dp0 R5 fX fY dd0 s25 s45 ss5 da5 t5 ro5
    refine ok_bind (keep_ok (c := c) (by rw [(K5 0).2.1]; exact c4) (by omega)) (fun m6 h6 => ok_some ?_)
    obtain ⟨f6, c6, o6, w6⟩ := h6
    have F6 : FrRk m0 m6 := fun c i x y => by rw [f6 c i (by omega) y]; exact F5 c i x y
    have S6 : m6 114 3 = m0 114 3 := by rw [f6 114 3 (by omega) (by omega)]; exact (K5 0).1
    have o6' : ∀ i, i < 8 → i ≠ c → m6 116 i = m0 116 i ∧ m6 117 i = m0 117 i ∧ m6 118 i = m0 118 i := fun i h8 hne => by
      have e := o6 i h8 hne
      have e2 := K5 i
      rw [e.1, e.2.1, e.2.2]
      exact e2.2.2
    have CK : CkP mm n sg m6 k5 (c + 1) := by
      refine ⟨by rw [f6 114 8 (by omega) (by omega)]; exact a5, kn5, by omega, by omega, ⟨c6, by rw [S6]; exact S0, fun i hi h8 => ?_, ?_⟩, st5, nv5, dd, mX, mY, R5, fX, fY, dd0, s25, s45, ss5, da5, t5, ?_⟩
      · by_cases hic : i = c
        · have e := w6 (by omega)
          rw [hic]
          omega
        · have e := o6' i h8 hic
          have := B0 i (by omega) h8
          omega
      · have e := o6' 0 (by omega) (by omega)
        omega
      · rw [S6]
        exact ro5 _ _ _ o6' w6
    exact ⟨F6, Or.inl ⟨rfl, k5, kk5, CK⟩⟩
  refine ok_bq2 (readSign_ok (x := 45) (FrRk_sg h F4) hn a4) (fun r m5 h5 => ?_)
  dsimp only at h5
  rcases h5 with ⟨rfl, kn5, sk5, hm5⟩ | ⟨rfl, rfl, sk5⟩
  case inr =>
    refine ok_ite (fun q => absurd rfl q) (fun _ => ?_)
    rw [v4]
    exact fin m5 (k + 1 + d2 + 1 + d4) d4 3 a a mS mA F4 keepC a4 k4 (by omega) b4 hR fS fA d4p (by omega) (by omega) s4 (fun _ => sk5) tA (roA)
  refine ok_ite (fun _ => ?_) (fun q => absurd Int.one_ne_zero q)
  rw [Rr_sep RS hn kn5 sk5 d4p (by omega) tA, if_neg (by decide), if_neg (by decide), if_neg (by decide)] at hR
  have x5 : ∀ c i, ¬ (c = 114 ∧ i = 8) → m5 c i = m4 c i := fun c i q => by rw [hm5]; exact setM_ne q
  have a5 : m5 114 8 = ((k + 1 + d2 + 1 + d4 + 1 : Nat) : Int) := by rw [hm5, setM_same]; omega
  have F5 : FrRk m0 m5 := fun c i x y => by rw [x5 c i (by omega)]; exact F4 c i x y
  refine ok_bq2 (readNumber_ok (k := k + 1 + d2 + 1 + d4 + 1) (FrRk_sg h F5) hn hsg a5 (by omega)) (fun r m6 h6 => ?_)
  dsimp only at h6
  obtain ⟨d6, dv, rfl, f6, a6, v6, b6, b6', k6, s6, R6⟩ := h6
  have F6 : FrRk m0 m6 := fun c i x y => by rw [f6 c i (by omega)]; exact F5 c i x y
  rw [R6 4 mA RA] at hR
  refine ok_ite (fun hz => ?_) (fun hz => ok_some ⟨F6, Or.inr ⟨rfl, k + 1 + d2 + 1 + d4 + 1 + d6, a6, k6, mA, ?_, fA⟩⟩)
  case refine_2 =>
    have d0 : d6 = 0 := by rw [i01] at hz; omega
    rw [hR]
    exact Rr_fail RA hn k6 s6 (fun _ q => by omega) (fun _ => Or.inl d0)
  have d6p : 0 < d6 := by rw [i01] at hz; omega
  rw [v6]
  obtain ⟨mD, tD, frD, roD⟩ := nxD dv
  refine fin m6 (k + 1 + d2 + 1 + d4 + 1 + d6) d6 4 dv dv mA mD F6 (fun i => ?_) a6 k6 (by omega) b6 hR fA (FrRd_tr f2c frD) d6p (by omega) (by omega) s6 (fun q => absurd q (by decide)) tD roD
  have e := keepC i
  refine ⟨?_, ?_, ?_, ?_, ?_⟩ <;> rw [f6 _ _ (by omega), x5 _ _ (by omega)]
  · exact e.1
  · exact e.2.1
  · exact e.2.2.1
  · exact e.2.2.2.1
  · exact e.2.2.2.2
theorem read_ok (h : SgC n sg m0) (hn : n ≤ 80) (hsg : ∀ i, i < n → 0 ≤ sg i ∧ sg i ≤ 65535) (hM : RdM n sg mm) : Ok (C_Row_read m0) (fun r => (∀ c i, ¬ (c = 114 ∧ (i = 2 ∨ i = 3 ∨ i = 4 ∨ i = 8 ∨ i = 9)) → ¬ (116 ≤ c ∧ c ≤ 118) → r.2 c i = m0 c i) ∧ ((r.1 = 1 ∧ r.2 114 2 = m0 114 2 ∧ ∃ c m'', 1 ≤ c ∧ c ≤ 80 ∧ RoCc c r.2 ∧ M_read mm = some (-1, m'') ∧ FrRd mm m'' ∧ RoE c (r.2 114 3) (r.2 116) (r.2 117) (r.2 118) m'') ∨ (r.1 = 0 ∧ ∃ (k : Nat) (m'' : Mem), k ≤ n ∧ r.2 114 2 = k ∧ M_read mm = some ((k : Int), m'') ∧ FrRd mm m''))) := by
  obtain ⟨m2, hm2⟩ : ∃ m2, m2 = setM (setM m0 114 8 0) 114 4 0 := ⟨_, rfl⟩
  have x2 : ∀ c i, ¬ (c = 114 ∧ (i = 8 ∨ i = 4)) → m2 c i = m0 c i := fun c i q => by rw [hm2, setM_ne (by omega), setM_ne (by omega)]
  have F2 : FrRk m0 m2 := fun c i x y => x2 c i (by omega)
  unfold C_Row_read
  refine ok_ltv (ok_ltv ?_)
  rw [← hm2]
  refine ok_bq2 (readFirst_ok (FrRk_sg h F2) hn hsg hM (by rw [hm2, setM_ne (by omega), setM_same]) (by rw [hm2, setM_same])) (fun z m3 h3 => ok_ltv (ok_ltv ?_))
  dsimp only at h3
  obtain ⟨F3, h3⟩ := h3
  refine ok_bq3 (Q := fun (x : Int × Int × Mem) => FrRk m0 x.2.2 ∧ ((x.1 = 1 ∧ ∃ c, CkP mm n sg x.2.2 n c) ∨ (x.1 = 0 ∧ ∃ k, FlP mm n x.2.2 k))) ?_ (fun z4 _ m6 h6 => ok_ltv ?_)
  · refine ok_loop (fun x => ∃ t : Nat, x.2.1 = t ∧ FrRk m0 x.2.2 ∧ ((x.1 = 1 ∧ ∃ k c, t ≤ k ∧ CkP mm n sg x.2.2 k c) ∨ (x.1 = 0 ∧ ∃ k, FlP mm n x.2.2 k))) (fun x => 100 - x.2.1.toNat) ⟨0, rfl, FrRk_tr F2 F3, ?_⟩ ?_
    · rcases h3 with ⟨y1, k, y2⟩ | ⟨y1, y2⟩
      · exact Or.inl ⟨y1, k, 1, Nat.zero_le _, y2⟩
      · exact Or.inr ⟨y1, y2⟩
    · rintro ⟨z, tt, m4⟩ ⟨t, b1, F4, h4⟩
      dsimp only at b1 F4 h4 ⊢
      subst b1
      unfold C_Row_read_b1
      rcases h4 with ⟨rfl, k, c, tk, CK⟩ | ⟨rfl, k, FL⟩
      · have e1 := (FrRk_sg h F4).1
        have a4 := CK.1
        have kn := CK.2.1
        rw [a4, e1]
        refine ok_ite (fun q => ok_bq2 (readNext_ok (FrRk_sg h F4) hn hsg hM CK (by omega)) (fun r m5 h5 => ok_ltv (ok_grd (by unfold InR; omega) (ok_ltv (ok_some ⟨⟨t + 1, by dsimp only; omega, FrRk_tr F4 h5.1, ?_⟩, by dsimp only; omega⟩))))) (fun q => ok_some ⟨F4, Or.inl ⟨rfl, c, ?_⟩⟩)
        · dsimp only at h5 ⊢
          rcases h5.2 with ⟨y1, k', y2, y3⟩ | ⟨y1, y2⟩
          · exact Or.inl ⟨y1, k', c + 1, by omega, y3⟩
          · exact Or.inr ⟨y1, y2⟩
        · have : k = n := by
            apply Classical.byContradiction
            intro hne
            exact q ⟨⟨by omega, Int.one_ne_zero⟩, by omega⟩
          rw [this] at CK
          exact CK
      · rw [if_neg (fun q => q.1.2 rfl)]
        exact ok_some ⟨F4, Or.inr ⟨rfl, k, FL⟩⟩
  · dsimp only at h6
    obtain ⟨F6, h6⟩ := h6
    rcases h6 with ⟨rfl, c, CK⟩ | ⟨rfl, k, FL⟩
    · obtain ⟨a0, kn0, c1, ck, RC, st, nv, d, ma, m2c, hR, fa, f2c, dp, st2, st4, s0, dash, t0, ro⟩ := CK
      rw [Rr_done (FrRd_rd hM fa) dp st2 t0] at hR
      refine ok_ite (fun q => absurd q Int.one_ne_zero) (fun _ => ok_grd (Or.inr rfl) (ok_some ⟨fun c i x y => F6 c i (by omega) y, Or.inl ⟨rfl, F6 114 2 (by omega) (by omega), c, m2c, c1, by omega, RC, hR, f2c, ro⟩⟩))
    · obtain ⟨a0, kn0, m', hR, fa⟩ := FL
      refine ok_ite (fun _ => ok_ltv (ok_grd (Or.inl rfl) (ok_some ⟨fun c i x y => ?_, Or.inr ⟨rfl, k, m', kn0, ?_, hR, fa⟩⟩))) (fun q => absurd rfl q)
      · dsimp only
        rw [setM_ne (by omega)]
        exact F6 c i (by omega) y
      · dsimp only
        rw [setM_same]
        exact a0
end CRN
