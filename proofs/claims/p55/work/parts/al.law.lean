/-! ===== P55: the law answers 1 ===== -/
section LWP
variable {m m0 m1 mm A : Mem}
theorem AT_fr (h : AT m1) (f : ∀ c i, c = 456 ∨ c = 458 → m c i = m1 c i) : AT m ∧ nA m = nA m1 ∧ tkA m = tkA m1 := by
  have e6 : m 456 = m1 456 := funext fun i => f 456 i (Or.inl rfl)
  have e8 : m 458 = m1 458 := funext fun i => f 458 i (Or.inr rfl)
  refine ⟨?_, by unfold nA; rw [e6], by unfold tkA; rw [e8]⟩
  unfold AT ATt nA tkA svA lnA stA arA lvA at h ⊢
  rw [e6, e8]
  exact h
theorem LG0_arr (h : LG0 mm m1) (f : ∀ c i, c = 456 ∨ c = 458 → m c i = m1 c i) : LG0 mm m := by
  have e6 : m 456 = m1 456 := funext fun i => f 456 i (Or.inl rfl)
  have e8 : m 458 = m1 458 := funext fun i => f 458 i (Or.inr rfl)
  unfold LG0 LGt nA tkA svA lnA stA arA lvA at h ⊢
  rw [e6, e8]
  exact h
theorem GS_fr (h : GS A m) (f1 : ∀ c i, c < 455 → m1 c i = m c i) (f2 : ∀ c i, c = 456 ∨ c = 457 ∨ c = 458 → m1 c i = m c i) : GS A m1 := by
  obtain ⟨mm, I, g, hA⟩ := h
  exact ⟨mm, InvC_Inv m _ mm _ (fun c hc i => (f1 c i hc).symm) (fun _ _ _ => rfl) I, g, fun c i q => by rw [f2 c i q]; exact hA c i q⟩
theorem close_ok (I : Inv m mm) (t : AT m) (g : LG0 mm m) (wy : WYd (nA m) mm m) : Ok (W_close (nA m) m) (fun m2 => AT m2 ∧ AW m2 ∧ nA m2 = nA m ∧ Inv m2 mm ∧ LG mm m2 ∧ m2 456 6 = m 456 6) := by
  have n6 := t.1
  have n := n_tr I g
  have tb := mTB I
  have tld : ∀ a b : Nat, a < 12 → b < 12 → mm 2 (12 * a + b) = m (4 + a) b := fun a b ha hb => (I.1.2.2.2.2.2.2.1 a b ha hb).1
  refine (closeW_ok (T := toldM mm) n6.2.2 tb (fun a b ha hb => ?_)).mono (fun m2 h => ?_)
  · rw [(wy a b ha hb).1]
    unfold dg
    by_cases e : a = b
    · rw [if_pos e, if_pos e]
    · rw [if_neg e, if_neg e, fw_zero]
      unfold toldM
      by_cases q : mm 2 (12 * a + b) = 0
      · rw [if_pos q, if_pos (Or.inl q)]
      · rw [if_neg q, if_neg (by omega)]
  · obtain ⟨f, w⟩ := h
    have at2 := AT_fr t (m := m2) (fun c i q => f c i (by omega))
    refine ⟨at2.1, fun a b ha hb => ?_, at2.2.1, InvC_Inv m _ mm _ (fun c hc i => (f c i (by omega)).symm) (fun _ _ _ => rfl) I, ⟨LG0_arr g (fun c i q => f c i (by omega)), fun a b ha hb => ?_⟩, f 456 6 (by omega)⟩
    · rw [at2.2.1] at ha hb
      rw [w a b ha hb]
      unfold dg
      have bd := fw_bd (cut := -1) tb (nA m) a b (by omega) (by omega) (by omega)
      have fi := fw_fin (N := nA m) tb (fun a b ha hb => (wy a b ha hb).2) (by omega) (nA m) a b (Nat.le_refl _) ha hb
      have p : 20 * (2 : Int) ^ (nA m) ≤ 1280 := by
        obtain q | q | q : nA m = 4 ∨ nA m = 5 ∨ nA m = 6 := by omega
        · rw [q]; decide
        · rw [q]; decide
        · rw [q]; decide
      refine ⟨fun e => if_pos e, fun e => ?_⟩
      rw [if_neg e]
      refine ⟨bd.1, ?_⟩
      rcases fi with q | q
      · exact Or.inl q
      · right; omega
    · rw [at2.2.1] at ha hb
      rw [w a b ha hb]
      have h := I.1.2.2.2.2.2.2.2 a b (by rw [← I.1.1, g.1]; omega) (by rw [← I.1.1, g.1]; omega)
      have en : (m 1 0).toNat = nA m := n
      rw [h, en]
      unfold dg
      rw [fw_MC tld (by omega) (by omega) (by omega)]
theorem sI_eq {f g : Nat → Int} {n : Nat} (h : ∀ v, v < n → f v = g v) : sI f n = sI g n := Int.le_antisymm (sI_le (fun k hk => by rw [h k hk]; exact Int.le_refl _)) (sI_le (fun k hk => by rw [h k hk]; exact Int.le_refl _))
theorem otherW_ok {n a : Nat} {r : Int} (ha : a < n) (h0 : 0 ≤ r) (h1 : r < (n : Int) - 1) : ∃ o : Nat, ((a : Int) + 1 + r).tmod n = o ∧ o < n ∧ a ≠ o := by
  refine ⟨(a + 1 + r.toNat) % n, ?_, Nat.mod_lt _ (by omega), fun q => ?_⟩
  · rw [show (a : Int) + 1 + r = ((a + 1 + r.toNat : Nat) : Int) by omega, Int.tmod_eq_emod_of_nonneg (by omega)]
    rfl
  · have d := Nat.div_add_mod (a + 1 + r.toNat) n
    rw [← q] at d
    obtain ⟨z, hz⟩ : ∃ z, z = (a + 1 + r.toNat) / n := ⟨_, rfl⟩
    rw [← hz] at d
    rcases (by omega : z = 0 ∨ z = 1 ∨ 2 ≤ z) with e | e | e
    · rw [e, Nat.mul_zero] at d; omega
    · rw [e, Nat.mul_one] at d; omega
    · have := Nat.mul_le_mul_left n e
      omega
theorem askAll_ok {a : Nat} {z : Int} (t : AT A) (w : AW A) (ha : a < nA A) (hz : 0 ≤ z ∧ z ≤ 1439) (g : GS A m) (B : BestA A (ini (wA A) a z) (labW m)) (rg : RgW A m) : Ok (loop (fun s => W_law_b2 (nA A) a z s.1 s.2.1 s.2.2) ((1 : Int), (0 : Int), m)) (fun x => x.1 = 1 ∧ GS A x.2.2) := by
  have n6 := t.1
  refine ok_loop (fun x => ∃ b : Nat, x.2.1 = b ∧ b ≤ nA A ∧ x.1 = 1 ∧ GS A x.2.2 ∧ hiS m x.2.2) (fun x => nA A - x.2.1.toNat) ⟨0, rfl, Nat.zero_le _, rfl, g, fun _ _ _ => rfl⟩ ?_
  rintro ⟨is, bb, m9⟩ ⟨b, e1, e2, e3, g9, f9⟩
  try dsimp only at e1 e3 g9 f9 ⊢
  subst e1
  subst e3
  unfold W_law_b2
  refine ok_grd (by omega) (ok_ite (fun hb => ?_) (fun hb => ok_some ⟨rfl, g9⟩))
  refine ok_bq2 (asked_ok t w g9 ha (b := b) (by omega) hz (by rw [labW_hi f9]; exact B) (RgW_hi rg f9)) (fun r5 m10 h => ?_)
  obtain ⟨h1, h2, h3⟩ := h
  try dsimp only at h1 h2 h3
  rw [h1, j11]
  exact ok_ltv (ok_grd (by unfold InR; omega) (ok_ltv (ok_some ⟨⟨b + 1, by (try dsimp only); omega, by omega, rfl, h2, hiS_tr f9 h3⟩, by (try dsimp only); omega⟩)))
theorem law_ok (I : Inv m mm) (h1 : mm 0 1 = 0) (h6 : mm 0 6 = 0) (h8 : mm 0 8 = 0) (h14 : mm 0 14 = 0) (h2 : ∀ i, mm 2 i = 0) (h4 : ∀ i, mm 4 i = 0) : Ok (W_law m) (fun x => x.1 = 1) := by
  unfold W_law
  refine ok_bq2 (drawn_ok I h1 h6 h8 h14 h2 h4) (fun r m1 h => ?_)
  obtain ⟨e1, t1, mm1, J1, lg1, wy1⟩ := h
  try dsimp only at e1 t1 J1 lg1 wy1
  rw [e1, t1.1.1]
  refine ok_ltv (ok_ltv (ok_bind (close_ok J1 t1 lg1 wy1) (fun A h => ok_ltv ?_)))
  obtain ⟨t, w, en, JA, lgA, -⟩ := h
  rw [← en]
  have n6 := t.1
  have gA : GS A A := ⟨mm1, JA, lgA, fun _ _ _ => rfl⟩
  refine ok_bq3 (Q := fun x : Int × Int × Mem => x.1 = 1 ∧ GS A x.2.2) ?_ (fun is7 k4 m14 h => ?_)
  · refine ok_loop (fun x => ∃ j : Nat, x.2.1 = j ∧ j ≤ 3 ∧ x.1 = 1 ∧ GS A x.2.2) (fun x => 3 - x.2.1.toNat) ⟨0, rfl, by omega, rfl, gA⟩ ?_
    rintro ⟨is, kk, m3⟩ ⟨j, e1, e2, e3, g3⟩
    try dsimp only at e1 e3 g3 ⊢
    subst e1
    subst e3
    unfold W_law_b1
    refine ok_grd (by omega) (ok_ite (fun hj => ?_) (fun hj => ok_some ⟨rfl, g3⟩))
    refine ok_bq2 (draw_ok (m := m3) (n := nA A) (by omega)) (fun r2 m4 h4 => ok_ltv ?_)
    obtain ⟨r0, r1, f4⟩ := h4
    try dsimp only at r0 r1 f4
    obtain ⟨a, rfl⟩ : ∃ a : Nat, r2 = a := ⟨r2.toNat, by omega⟩
    have ha : a < nA A := by omega
    have g4 : GS A m4 := GS_fr g3 (fun c i q => f4 c i (by omega)) (fun c i q => f4 c i (by omega))
    refine ok_kjs (fun v m5 => 0 ≤ v ∧ v ≤ 1439 ∧ GS A m5) ?_ ?_
    · rintro z m5 ⟨z0, z1, g5⟩
      have hA5 := g5.choose_spec.2.2
      refine ok_ltv (ok_bind (reach_ok t w hA5 ha ⟨z0, by omega⟩) (fun m8 h8 => ok_ltv ?_))
      obtain ⟨f8, B8, rg8⟩ := h8
      have g8 : GS A m8 := GS_fr g5 (fun c i q => f8 c i (by omega)) (fun c i q => f8 c i (by omega))
      refine ok_bq3 (askAll_ok t w ha ⟨z0, z1⟩ g8 B8 rg8) (fun is5 to4 m11 h11 => ok_grd (by unfold InR; omega) ?_)
      obtain ⟨e5, g11⟩ := h11
      try dsimp only at e5 g11
      refine ok_bq2 (draw_ok (m := m11) (n := (nA A : Int) - 1) (by omega)) (fun r6 m12 h12 => ok_grd ?_ ?_)
      · have := h12.1
        have := h12.2.1
        try dsimp only at *
        unfold InR
        omega
      obtain ⟨s0, s1, f12⟩ := h12
      try dsimp only at s0 s1 f12
      obtain ⟨o, eo, on, ao⟩ := otherW_ok ha s0 s1
      rw [eo]
      have g12 : GS A m12 := GS_fr g11 (fun c i q => f12 c i (by omega)) (fun c i q => f12 c i (by omega))
      obtain ⟨mm12, I12, lg12, hA12⟩ := g12
      refine ok_ltv (ok_bq2 (rise_ok t w I12 lg12 hA12 ha on ao) (fun r7 m13 h13 => ?_))
      obtain ⟨e7, st, mm', J', kp⟩ := h13
      try dsimp only at e7 st J'
      have g13 : GS A m13 := ⟨mm', J', LG_fr lg12 (KeepP_T kp), fun c i q => by rw [st c i (by omega) (by omega) (by omega)]; exact hA12 c i q⟩
      rw [e5, e7, j11]
      exact ok_ltv (ok_grd (by unfold InR; omega) (ok_ltv (ok_some ⟨⟨j + 1, by (try dsimp only); omega, by omega, rfl, g13⟩, by (try dsimp only); omega⟩)))
    · intro kj hk
      refine ok_ite (fun _ => ok_bq2 (draw_ok (m := m4) (n := 1440) (by omega)) (fun r4 m7 h => hk _ _ ⟨h.1, by have := h.2.1; dsimp only at this; omega, GS_fr g4 (fun c i q => h.2.2 c i (by omega)) (fun c i q => h.2.2 c i (by omega))⟩)) (fun _ => ok_bq2 (draw_ok (m := m4) (n := 200) (by omega)) (fun r3 m6 h => ok_grd (by have := h.1; have := h.2.1; dsimp only at *; unfold InR; omega) (hk _ _ ⟨by have := h.1; dsimp only at this; omega, by have := h.2.1; dsimp only at this; omega, GS_fr g4 (fun c i q => h.2.2 c i (by omega)) (fun c i q => h.2.2 c i (by omega))⟩)))
  · obtain ⟨e7, mm14, I14, lg14, hA14⟩ := h
    try dsimp only at e7 I14 hA14
    refine ok_bq2 (pVeh I14 I14) (fun r8 m15 h15 => ok_ltv ?_)
    obtain ⟨f15, ⟨mm15, J15, kp15⟩, f, df, e8⟩ := h15
    try dsimp only at f15 J15 e8
    refine ok_ite (fun _ => ?_) (fun q => absurd (by rw [e7]; decide) q)
    refine ok_bq2 (pVehM J15 (keep_inv I14 kp15)) (fun r9 m16 h16 => ?_)
    obtain ⟨f16, ⟨mm16, J16, kp16⟩, f', df', e9⟩ := h16
    try dsimp only at f16 J16 e9
    have ev : r8 = r9 := by
      rw [e8, e9]
      exact sI_eq (fun v hv => DefP_uniq (df v hv) (df' v hv))
    have le : r8 ≤ m16 458 0 := by
      have v := veh_le df
      have e : m14 31 0 = tkA A := by rw [← I14.2.2.1.1]; exact lg14.1.2.2.1
      rw [f16 458 0 (by omega), f15 458 0 (by omega), hA14 458 0 (by omega), t.2.2.1.1, e8]
      rw [e] at v
      omega
    refine ok_ite (fun _ => ok_ite (fun _ => ?_) (fun q => absurd le q)) (fun q => absurd ev q)
    refine ok_bq2 (pSound J16) (fun r10 m17 h17 => ok_ite (fun _ => ok_some rfl) (fun q => absurd h17 q))
end LWP
