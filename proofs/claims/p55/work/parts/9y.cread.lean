/-! ===== the class reads a row ===== -/
def FrRk (m0 m : Mem) : Prop := ∀ c i, ¬ (c = 114 ∧ (i = 3 ∨ i = 4 ∨ i = 8 ∨ i = 9)) → ¬ (116 ≤ c ∧ c ≤ 118) → m c i = m0 c i
def SgC (n : Nat) (sg : Nat → Int) (m : Mem) : Prop := m 114 1 = n ∧ ∀ i, i < n → m 115 i = sg i
def RoCc (c : Nat) (m : Mem) : Prop := m 114 4 = c ∧ 0 ≤ m 114 3 ∧ (∀ i, i < c → i < 8 → 0 ≤ m 116 i ∧ 0 ≤ m 117 i ∧ 0 ≤ m 118 i) ∧ m 117 0 = m 118 0
def CkP (mm : Mem) (n : Nat) (sg : Nat → Int) (m : Mem) (k c : Nat) : Prop := m 114 8 = k ∧ k ≤ n ∧ 1 ≤ c ∧ c ≤ k ∧ RoCc c m ∧ ∃ (st nv : Int) (d : Nat) (m' m'' : Mem), M_read mm = Rr st d nv k m' ∧ FrRd mm m' ∧ FrRd mm m'' ∧ 0 < d ∧ 2 ≤ st ∧ st ≤ 4 ∧ (k < n → ¬ (48 ≤ sg k ∧ sg k ≤ 57 ∧ d < 4)) ∧ (st = 3 → k < n → sg k ≠ 45) ∧ M_told st nv m' = some m'' ∧ RoE c (m 114 3) (m 116) (m 117) (m 118) m''
def FlP (mm : Mem) (n : Nat) (m : Mem) (k : Nat) : Prop := m 114 8 = k ∧ k ≤ n ∧ ∃ m', M_read mm = some ((k : Int), m') ∧ FrRd mm m'
section CRD
variable {n : Nat} {sg : Nat → Int} {m m' m0 m1 mm : Mem}
theorem FrRk_tr (a : FrRk m0 m) (b : FrRk m m') : FrRk m0 m' := fun c i h1 h2 => by rw [b c i h1 h2]; exact a c i h1 h2
theorem FrRk_sg (h : SgC n sg m) (f : FrRk m m') : SgC n sg m' := ⟨by rw [f 114 1 (by omega) (by omega)]; exact h.1, fun i hi => by rw [f 115 i (by omega) (by omega)]; exact h.2 i hi⟩
theorem readNumber_ok {k : Nat} (h : SgC n sg m0) (hn : n ≤ 80) (hsg : ∀ i, i < n → 0 ≤ sg i ∧ sg i ≤ 65535) (hk : m0 114 8 = k) (kn : k ≤ n) : Ok (C_Row_readNumber m0) (fun r => ∃ (d : Nat) (nv : Int), r.1 = (if (0 : Int) < d then 1 else 0) ∧ (∀ c i, ¬ (c = 114 ∧ (i = 8 ∨ i = 9)) → r.2 c i = m0 c i) ∧ r.2 114 8 = ((k + d : Nat) : Int) ∧ r.2 114 9 = nv ∧ 0 ≤ nv ∧ nv ≤ 9999 ∧ k + d ≤ n ∧ (k + d < n → ¬ (48 ≤ sg (k + d) ∧ sg (k + d) ≤ 57 ∧ d < 4)) ∧ ∀ st m', RdM n sg m' → Rr st 0 0 k m' = Rr st d nv ((k + d : Nat) : Int) m') := by
  unfold C_Row_readNumber
  refine ok_ltv (ok_ltv (ok_bq2 (Q := fun (x : Int × Mem) => ∃ (d : Nat) (nv : Int), x.1 = d ∧ (∀ c i, ¬ (c = 114 ∧ (i = 8 ∨ i = 9)) → x.2 c i = m0 c i) ∧ x.2 114 8 = ((k + d : Nat) : Int) ∧ x.2 114 9 = nv ∧ 0 ≤ nv ∧ nv ≤ 9999 ∧ k + d ≤ n ∧ (k + d < n → ¬ (48 ≤ sg (k + d) ∧ sg (k + d) ≤ 57 ∧ d < 4)) ∧ ∀ st m', RdM n sg m' → Rr st 0 0 k m' = Rr st d nv ((k + d : Nat) : Int) m') ?_ (fun _ m5 h5 => ok_some ?_)))
  · refine ok_loop (fun x => ∃ (d : Nat) (nv : Int), x.1 = d ∧ (∀ c i, ¬ (c = 114 ∧ (i = 8 ∨ i = 9)) → x.2 c i = m0 c i) ∧ x.2 114 8 = ((k + d : Nat) : Int) ∧ x.2 114 9 = nv ∧ 0 ≤ nv ∧ ((d = 0 ∧ nv = 0) ∨ (d = 1 ∧ nv ≤ 9) ∨ (d = 2 ∧ nv ≤ 99) ∨ (d = 3 ∧ nv ≤ 999) ∨ (d = 4 ∧ nv ≤ 9999)) ∧ k + d ≤ n ∧ ∀ st m', RdM n sg m' → Rr st 0 0 k m' = Rr st d nv ((k + d : Nat) : Int) m') (fun x => 5 - x.1.toNat) ⟨0, 0, rfl, fun c i hc => setM_ne (by omega), (by dsimp only; rw [setM_ne (by omega)]; exact hk), (by dsimp only; exact setM_same _ _ _ _), Int.le_refl _, Or.inl ⟨rfl, rfl⟩, kn, fun _ _ _ => rfl⟩ ?_
    rintro ⟨dd, m⟩ ⟨d, nv, a1, a2, a3, a4, a5, a6, a7, a8⟩
    dsimp only at a1 a2 a3 a4 ⊢
    subst a1
    have e1 : m 114 1 = n := by rw [a2 114 1 (by omega)]; exact h.1
    unfold C_Row_readNumber_b1
    rw [a3, e1, Int.toNat_natCast]
    refine ok_grd (by omega) (ok_ite (fun q => ?_) (fun q => ok_some ⟨d, nv, rfl, a2, a3, a4, a5, by omega, a7, fun hkn => ?_, a8⟩))
    · have es : m 115 (k + d) = sg (k + d) := by rw [a2 115 _ (by omega)]; exact h.2 _ (by omega)
      rw [es] at q ⊢
      rw [a4]
      have sb := hsg (k + d) (by omega)
      refine ok_grd (by unfold InR; omega) (ok_ltv ?_)
      rw [setM_ne (by omega), a3]
      refine ok_grd (by unfold InR; omega) (ok_ltv (ok_grd (by unfold InR; omega) (ok_ltv (ok_some ⟨⟨d + 1, 10 * nv + (sg (k + d) - 48), by dsimp only; omega, fun c i hc => ?_, ?_, ?_, by omega, by omega, by omega, fun st m' hm' => ?_⟩, by dsimp only; omega⟩))))
      · dsimp only
        rw [setM_ne (by omega), setM_ne (by omega)]
        exact a2 c i hc
      · dsimp only
        rw [setM_same]
        omega
      · dsimp only
        rw [setM_ne (by omega), setM_same]
      · rw [a8 st m' hm', Rr_digit hm' hn (by omega) (by omega) (by omega) (by omega)]
        rfl
    · have es : m 115 (k + d) = sg (k + d) := by rw [a2 115 _ (by omega)]; exact h.2 _ hkn
      rw [es] at q
      omega
  · dsimp only at h5
    obtain ⟨d, nv, b1, b2⟩ := h5
    refine ⟨d, nv, ?_, b2⟩
    rw [b1]
theorem readSign_ok {k : Nat} {x : Int} (h : SgC n sg m0) (hn : n ≤ 80) (hk : m0 114 8 = k) : Ok (C_Row_readSign x m0) (fun r => (r.1 = 1 ∧ k < n ∧ sg k = x ∧ r.2 = setM m0 114 8 ((k : Int) + 1)) ∨ (r.1 = 0 ∧ r.2 = m0 ∧ (k < n → sg k ≠ x))) := by
  unfold C_Row_readSign
  rw [hk, h.1, Int.toNat_natCast]
  refine ok_grd (by omega) (ok_ite (fun q => ok_some (Or.inr ⟨rfl, rfl, fun hkn => ?_⟩)) (fun q => ok_grd (by unfold InR; omega) (ok_ltv (ok_some (Or.inl ⟨rfl, by omega, ?_, rfl⟩)))))
  · have := h.2 k hkn
    omega
  · have := h.2 k (by omega)
    omega
theorem keep_ok {c : Nat} {p a d : Int} (hc : m0 114 4 = c) (c9 : c ≤ 1000) : Ok (C_Row_keep p a d m0) (fun m => (∀ c' i, ¬ (c' = 114 ∧ i = 4) → ¬ (116 ≤ c' ∧ c' ≤ 118) → m c' i = m0 c' i) ∧ m 114 4 = ((c + 1 : Nat) : Int) ∧ (∀ i, i < 8 → i ≠ c → m 116 i = m0 116 i ∧ m 117 i = m0 117 i ∧ m 118 i = m0 118 i) ∧ (c < 8 → m 116 c = p ∧ m 117 c = a ∧ m 118 c = d)) := by
  unfold C_Row_keep
  rw [hc, Int.toNat_natCast]
  refine ok_ltv (ok_ite (fun q => ok_grd (by omega) (ok_ltv ?_)) (fun q => ?_))
  · have e1 : setM m0 116 c p 114 4 = c := by rw [setM_ne (by omega)]; exact hc
    rw [e1, Int.toNat_natCast]
    refine ok_grd (by omega) (ok_ltv ?_)
    have e2 : setM (setM m0 116 c p) 117 c a 114 4 = c := by rw [setM_ne (by omega)]; exact e1
    rw [e2, Int.toNat_natCast]
    refine ok_grd (by omega) (ok_ltv ?_)
    have e3 : setM (setM (setM m0 116 c p) 117 c a) 118 c d 114 4 = c := by rw [setM_ne (by omega)]; exact e2
    dsimp only
    rw [e3]
    refine ok_grd (by unfold InR; omega) (ok_ltv (ok_some ⟨fun c' i h1 h2 => ?_, ?_, fun i hi hne => ?_, fun _ => ?_⟩))
    · rw [setM_ne (by omega), setM_ne (by omega), setM_ne (by omega), setM_ne (by omega)]
    · rw [setM_same]
      omega
    · simp (disch := omega) only [setM_ne, setM_hit, true_and, and_true]
    · simp (disch := omega) only [setM_ne, setM_hit, true_and, and_true]
  · dsimp only
    rw [hc]
    refine ok_grd (by unfold InR; omega) (ok_ltv (ok_some ⟨fun c' i h1 h2 => ?_, ?_, fun i hi hne => ?_, fun q2 => by omega⟩))
    · rw [setM_ne (by omega)]
    · rw [setM_same]
      omega
    · simp (disch := omega) only [setM_ne, setM_hit, true_and, and_true]
theorem readFirst_ok (h : SgC n sg m0) (hn : n ≤ 80) (hsg : ∀ i, i < n → 0 ≤ sg i ∧ sg i ≤ 65535) (hM : RdM n sg mm) (h8 : m0 114 8 = 0) (h4 : m0 114 4 = 0) : Ok (C_Row_readFirst m0) (fun r => FrRk m0 r.2 ∧ ((r.1 = 1 ∧ ∃ k, CkP mm n sg r.2 k 1) ∨ (r.1 = 0 ∧ ∃ k, FlP mm n r.2 k))) := by
  have hR : M_read mm = Rr 0 0 0 (0 : Nat) (setM mm 0 45 0) := rfl
  obtain ⟨ma, hma⟩ : ∃ ma, ma = setM mm 0 45 0 := ⟨_, rfl⟩
  rw [← hma] at hR
  have fa : FrRd mm ma := fun c i h1 h2 => by rw [hma, setM_ne (by omega)]
  have Ra := FrRd_rd hM fa
  have ra : ma 0 45 = ((0 : Nat) : Int) := by rw [hma, setM_same]; rfl
  unfold C_Row_readFirst
  refine ok_bq2 (readNumber_ok (k := 0) h hn hsg h8 (by omega)) (fun r m1 h1 => ?_)
  dsimp only at h1
  obtain ⟨d1, nv1, rfl, f1, a1, v1, b1, b1', k1, s1, R1⟩ := h1
  have F1 : FrRk m0 m1 := fun c i x y => f1 c i (by omega)
  rw [R1 0 ma Ra] at hR
  refine ok_ite (fun hz => ok_ltv ?_) (fun hz => ok_some ⟨F1, Or.inr ⟨rfl, 0 + d1, a1, k1, ma, ?_, fa⟩⟩)
  case refine_2 =>
    have d0 : d1 = 0 := by rw [i01] at hz; omega
    rw [hR]
    exact Rr_fail Ra hn k1 s1 (fun _ q => by omega) (fun _ => Or.inl d0)
  have d1p : 0 < d1 := by rw [i01] at hz; omega
  obtain ⟨m2, hm2⟩ : ∃ m2, m2 = setM m1 114 3 (m1 114 9) := ⟨_, rfl⟩
  rw [← hm2]
  have x2 : ∀ c i, ¬ (c = 114 ∧ i = 3) → m2 c i = m1 c i := fun c i q => by rw [hm2]; exact setM_ne q
  have S2 : m2 114 3 = nv1 := by rw [hm2, setM_same]; exact v1
  have F2 : FrRk m0 m2 := fun c i x y => by rw [x2 c i (by omega)]; exact F1 c i x y
  have G2 := FrRk_sg h F2
  have a2 : m2 114 8 = ((0 + d1 : Nat) : Int) := by rw [x2 114 8 (by omega)]; exact a1
  refine ok_bq2 (readSign_ok (x := 58) G2 hn a2) (fun r m3 h3 => ?_)
  dsimp only at h3
  rcases h3 with ⟨rfl, kn, sk, hm3⟩ | ⟨rfl, rfl, sk⟩
  case inr =>
    refine ok_ite (fun q => absurd rfl q) (fun _ => ok_some ⟨F2, Or.inr ⟨rfl, 0 + d1, a2, k1, ma, ?_, fa⟩⟩)
    rw [hR]
    exact Rr_fail Ra hn k1 s1 (fun q _ => by have := sk q; omega) (fun _ => Or.inr (by omega))
  refine ok_ite (fun _ => ?_) (fun q => absurd Int.one_ne_zero q)
  have t1 := told_one (m := ma) (st := 0) (v := nv1) (Or.inl rfl) ra (by omega)
  obtain ⟨mb, hmb⟩ : ∃ mb, mb = setM (setM ma 31 0 nv1) 0 45 (((0 : Nat) : Int) + 1) := ⟨_, rfl⟩
  rw [← hmb] at t1
  rw [Rr_sep Ra hn kn sk d1p (by omega) t1, if_pos rfl] at hR
  have fb : FrRd mm mb := fun c i x y => by rw [hmb, setM_ne (by omega), setM_ne (by omega)]; exact fa c i x y
  have Rb := FrRd_rd hM fb
  have rb : mb 0 45 = ((1 : Nat) : Int) := by rw [hmb, setM_same]; rfl
  have x3 : ∀ c i, ¬ (c = 114 ∧ i = 8) → m3 c i = m2 c i := fun c i q => by rw [hm3]; exact setM_ne q
  have a3 : m3 114 8 = ((0 + d1 + 1 : Nat) : Int) := by rw [hm3, setM_same]; omega
  have F3 : FrRk m0 m3 := fun c i x y => by rw [x3 c i (by omega)]; exact F2 c i x y
  refine ok_bq2 (readNumber_ok (k := 0 + d1 + 1) (FrRk_sg h F3) hn hsg a3 (by omega)) (fun r m4 h4' => ?_)
  dsimp only at h4'
  obtain ⟨d2, nv2, rfl, f4, a4, v4, b4, b4', k4, s4, R4⟩ := h4'
  have F4 : FrRk m0 m4 := fun c i x y => by rw [f4 c i (by omega)]; exact F3 c i x y
  rw [R4 1 mb Rb] at hR
  refine ok_ite (fun hz => ok_ltv ?_) (fun hz => ok_some ⟨F4, Or.inr ⟨rfl, 0 + d1 + 1 + d2, a4, k4, mb, ?_, fb⟩⟩)
  case refine_2 =>
    have d0 : d2 = 0 := by rw [i01] at hz; omega
    rw [hR]
    exact Rr_fail Rb hn k4 s4 (fun _ q => by omega) (fun _ => Or.inl d0)
  have d2p : 0 < d2 := by rw [i01] at hz; omega
  rw [v4]
  refine ok_bq2 (readSign_ok (x := 64) (FrRk_sg h F4) hn a4) (fun r m5 h5 => ?_)
  dsimp only at h5
  rcases h5 with ⟨rfl, kn2, sk2, hm5⟩ | ⟨rfl, rfl, sk2⟩
  case inr =>
    refine ok_ite (fun q => absurd rfl q) (fun _ => ok_some ⟨F4, Or.inr ⟨rfl, 0 + d1 + 1 + d2, a4, k4, mb, ?_, fb⟩⟩)
    rw [hR]
    exact Rr_fail Rb hn k4 s4 (fun q _ => by have := sk2 q; omega) (fun _ => Or.inr (by omega))
  refine ok_ite (fun _ => ?_) (fun q => absurd Int.one_ne_zero q)
  have t2 := told_one (m := mb) (st := 1) (v := nv2) (Or.inr rfl) rb (by omega)
  obtain ⟨mc', hmc⟩ : ∃ mc', mc' = setM (setM mb 31 1 nv2) 0 45 (((1 : Nat) : Int) + 1) := ⟨_, rfl⟩
  rw [← hmc] at t2
  have rc : mc' 0 45 = ((2 : Nat) : Int) := by rw [hmc, setM_same]; rfl
  rw [Rr_sep Rb hn kn2 sk2 d2p (by omega) t2, if_neg (by decide), if_pos rfl, if_pos (by rw [rc]; rfl)] at hR
  have fc : FrRd mm mc' := fun c i x y => by rw [hmc, setM_ne (by omega), setM_ne (by omega)]; exact fb c i x y
  have Rc := FrRd_rd hM fc
  have x5 : ∀ c i, ¬ (c = 114 ∧ i = 8) → m5 c i = m4 c i := fun c i q => by rw [hm5]; exact setM_ne q
  have a5 : m5 114 8 = ((0 + d1 + 1 + d2 + 1 : Nat) : Int) := by rw [hm5, setM_same]; omega
  have F5 : FrRk m0 m5 := fun c i x y => by rw [x5 c i (by omega)]; exact F4 c i x y
  refine ok_bq2 (readNumber_ok (k := 0 + d1 + 1 + d2 + 1) (FrRk_sg h F5) hn hsg a5 (by omega)) (fun r m6 h6 => ?_)
  dsimp only at h6
  obtain ⟨d3, nv3, rfl, f6, a6, v6, b6, b6', k6, s6, R6⟩ := h6
  have F6 : FrRk m0 m6 := fun c i x y => by rw [f6 c i (by omega)]; exact F5 c i x y
  rw [R6 2 mc' Rc] at hR
  refine ok_ite (fun hz => ?_) (fun hz => ok_some ⟨F6, Or.inr ⟨rfl, 0 + d1 + 1 + d2 + 1 + d3, a6, k6, mc', ?_, fc⟩⟩)
  case refine_2 =>
    have d0 : d3 = 0 := by rw [i01] at hz; omega
    rw [hR]
    exact Rr_fail Rc hn k6 s6 (fun _ q => by omega) (fun _ => Or.inl d0)
  have d3p : 0 < d3 := by rw [i01] at hz; omega
  rw [v6]
  have c6 : m6 114 4 = ((0 : Nat) : Int) := by
    rw [f6 114 4 (by omega), x5 114 4 (by omega), f4 114 4 (by omega), x3 114 4 (by omega), x2 114 4 (by omega), f1 114 4 (by omega)]
    exact h4
  have S6 : m6 114 3 = nv1 := by
    rw [f6 114 3 (by omega), x5 114 3 (by omega), f4 114 3 (by omega), x3 114 3 (by omega)]
    exact S2
  refine ok_bind (keep_ok (c := 0) c6 (by omega)) (fun m7 h7 => ok_some ?_)
  obtain ⟨f7, c7, o7, w7⟩ := h7
  have w7 := w7 (by omega)
  have F7 : FrRk m0 m7 := fun c i x y => by rw [f7 c i (by omega) y]; exact F6 c i x y
  have S7 : m7 114 3 = nv1 := by rw [f7 114 3 (by omega) (by omega)]; exact S6
  have t3 := told_two (m := mc') (st := 2) (v := nv3) (Or.inl rfl) rc (by omega)
  obtain ⟨md, hmd⟩ : ∃ md, md = setM (setM (setM (setM mc' 31 2 nv3) 0 45 (((2 : Nat) : Int) + 1)) 31 (2 + 1) nv3) 0 45 (((2 : Nat) : Int) + 2) := ⟨_, rfl⟩
  rw [← hmd] at t3
  have fd : FrRd mm md := fun c i x y => by
    rw [hmd, setM_ne (by omega), setM_ne (by omega), setM_ne (by omega), setM_ne (by omega)]
    exact fc c i x y
  suffices CK : CkP mm n sg m7 (0 + d1 + 1 + d2 + 1 + d3) 1 from ⟨F7, Or.inl ⟨rfl, _, CK⟩⟩
  refine ⟨by rw [f7 114 8 (by omega) (by omega)]; exact a6, k6, Nat.le_refl _, by omega, ⟨c7, by omega, fun i hi _ => ?_, by omega⟩, 2, nv3, d3, mc', md, hR, fc, fd, d3p, by omega, by omega, s6, fun q => absurd q (by decide), t3, ?_, fun _ => ?_, fun q => by omega, fun i hi _ => ?_⟩
  · have : i = 0 := by omega
    rw [this]
    omega
  · rw [S7, hmd, hmc, hmb]
    simp (disch := omega) only [setM_ne, setM_hit, true_and, and_true]
  · rw [hmd, setM_same]
    rfl
  · have : i = 0 := by omega
    rw [this, w7.1, w7.2.1, w7.2.2, hmd, hmc]
    simp (disch := omega) only [setM_ne, setM_hit, true_and, and_true]
end CRD
