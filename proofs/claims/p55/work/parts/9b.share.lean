/-! ===== shares ===== -/
theorem share_t : ∀ n : Fin 13, ∀ r : Fin 145, 2 ≤ n.val → vf_n32 (FP.fdiv (FP.i2f (i32 (r.val : Int))) (FP.i2f (i32 ((n.val : Int) * ((n.val : Int) - 1))))) ∧ okF (FP.fdiv (FP.i2f (i32 (r.val : Int))) (FP.i2f (i32 ((n.val : Int) * ((n.val : Int) - 1))))) := by
  unfold okF vf_n32 vf_n64 dcmpI
  decide +kernel
theorem nn_t : ∀ n : Fin 13, 0 ≤ (n.val : Int) * ((n.val : Int) - 1) ∧ (n.val : Int) * ((n.val : Int) - 1) ≤ 132 ∧ ((n.val : Int) * ((n.val : Int) - 1) = 0 ↔ n.val < 2) := by decide
section SHA
variable {mc mm m m0 : Mem} {day : Int}
noncomputable def rsI (mc : Mem) (day : Int) (a b : Nat) : Int := if ¬ a = b ∧ arV mc day (-1) 0 (-1) 0 a b < 1000000 then 1 else 0
theorem rsI_01 (mc : Mem) (day : Int) (a b : Nat) : 0 ≤ rsI mc day a b ∧ rsI mc day a b ≤ 1 := by
  unfold rsI
  split <;> omega
theorem rs_bd (I : CI mc) (a : Nat) : 0 ≤ sI (rsI mc day a) (nC mc) ∧ sI (rsI mc day a) (nC mc) ≤ 12 := by
  have n := CI_n I
  have := sI_bd (h := rsI mc day a) (z := 1) (by omega) (n := nC mc) (fun k _ => rsI_01 mc day a k)
  omega
theorem rsC_ok (I : CI mc) (h1 : m 1 0 = nC mc) (hb : ∀ a b : Nat, a < nC mc → b < nC mc → m (443 + a) b = arV mc day (-1) 0 (-1) 0 a b) : Ok (loop (fun s => C_reachShare_b1 m s.1 s.2) ((0 : Int), (0 : Int))) (fun x => x.1 = sI (fun a => sI (rsI mc day a) (nC mc)) (nC mc)) := by
  have n := CI_n I
  refine ok_loop (fun x => ∃ k : Nat, x.2 = k ∧ k ≤ nC mc ∧ x.1 = sI (fun a => sI (rsI mc day a) (nC mc)) k) (fun x => 12 - x.2.toNat) ⟨0, rfl, Nat.zero_le _, rfl⟩ ?_
  rintro ⟨x, y⟩ ⟨k, e1, e2, e3⟩
  dsimp only at e1 e3 ⊢
  subst e1
  have bd := sI_bd (h := fun a => sI (rsI mc day a) (nC mc)) (z := 12) (by omega) (n := k) (fun k _ => rs_bd I k)
  rw [← e3] at bd
  unfold C_reachShare_b1
  rw [h1]
  refine ok_ite (fun hk => ok_ltv (ok_bq2 (Q := fun (z : Int × Int) => z.1 = x + sI (rsI mc day k) (nC mc)) ?_ (fun z _ hz => ok_grd (by unfold InR; omega) (ok_ltv (ok_some ⟨⟨k + 1, by dsimp only; omega, by omega, ?_⟩, by dsimp only; omega⟩))))) (fun hk => ok_some ?_)
  · have hk2 : k < nC mc := by omega
    refine ok_loop (fun z => ∃ j : Nat, z.2 = j ∧ j ≤ nC mc ∧ z.1 = x + sI (rsI mc day k) j) (fun z => 12 - z.2.toNat) ⟨0, rfl, Nat.zero_le _, by dsimp only [sI]; omega⟩ ?_
    rintro ⟨z, y⟩ ⟨j, q1, q2, q3⟩
    dsimp only at q1 q3 ⊢
    subst q1
    have bj := sI_bd (h := rsI mc day k) (z := 1) (by omega) (n := j) (fun i _ => rsI_01 mc day k i)
    unfold C_reachShare_b2
    simp only [Int.toNat_natCast]
    rw [h1]
    refine ok_ite (fun hj => ok_grd (by omega) ?_) (fun hj => ok_some ?_)
    · have hj2 : j < nC mc := by omega
      have step : ∀ u : Int, u = rsI mc day k j → z + u = x + sI (rsI mc day k) (j + 1) := fun u hu => by
        show _ = x + (sI _ j + rsI mc day k j)
        omega
      simp only [hb k j hk2 hj2]
      refine ok_ite (fun h => ok_grd (by unfold InR; omega) (ok_ltv (ok_grd (by unfold InR; omega) (ok_ltv (ok_some ⟨⟨j + 1, by dsimp only; omega, by omega, step 1 ?_⟩, by dsimp only; omega⟩))))) (fun h => ok_grd (by unfold InR; omega) (ok_ltv (ok_some ⟨⟨j + 1, by dsimp only; omega, by omega, ?_⟩, by dsimp only; omega⟩)))
      · unfold rsI
        rw [if_pos ⟨by omega, h.2⟩]
      · have := step 0 (by unfold rsI; rw [if_neg (fun q => h ⟨by omega, q.2⟩)])
        dsimp only
        rw [← this, Int.add_zero]
    · have : j = nC mc := by omega
      dsimp only
      rw [q3, this]
  · dsimp only at hz ⊢
    rw [hz, e3]
    rfl
  · have : k = nC mc := by omega
    dsimp only
    rw [e3, this]
theorem rsM_ok (I : CI mc) (h1 : m 0 1 = nC mc) (hb : ∀ a b : Nat, a < nC mc → b < nC mc → m 30 (12 * a + b) = arV mc day (-1) 0 (-1) 0 a b) : Ok (loop (fun s => M_reachShare_b1 m s.1 s.2) ((0 : Int), (0 : Int))) (fun x => x.1 = sI (fun a => sI (rsI mc day a) (nC mc)) (nC mc)) := by
  have n := CI_n I
  refine ok_loop (fun x => ∃ k : Nat, x.2 = k ∧ k ≤ nC mc ∧ x.1 = sI (fun a => sI (rsI mc day a) (nC mc)) k) (fun x => 12 - x.2.toNat) ⟨0, rfl, Nat.zero_le _, rfl⟩ ?_
  rintro ⟨x, y⟩ ⟨k, e1, e2, e3⟩
  dsimp only at e1 e3 ⊢
  subst e1
  have bd := sI_bd (h := fun a => sI (rsI mc day a) (nC mc)) (z := 12) (by omega) (n := k) (fun k _ => rs_bd I k)
  rw [← e3] at bd
  unfold M_reachShare_b1
  rw [h1]
  refine ok_ite (fun hk => ok_ltv (ok_bq2 (Q := fun (z : Int × Int) => z.1 = x + sI (rsI mc day k) (nC mc)) ?_ (fun z _ hz => ok_grd (by unfold InR; omega) (ok_ltv (ok_some ⟨⟨k + 1, by dsimp only; omega, by omega, ?_⟩, by dsimp only; omega⟩))))) (fun hk => ok_some ?_)
  · have hk2 : k < nC mc := by omega
    refine ok_loop (fun z => ∃ j : Nat, z.2 = j ∧ j ≤ nC mc ∧ z.1 = x + sI (rsI mc day k) j) (fun z => 12 - z.2.toNat) ⟨0, rfl, Nat.zero_le _, by dsimp only [sI]; omega⟩ ?_
    rintro ⟨z, y⟩ ⟨j, q1, q2, q3⟩
    dsimp only at q1 q3 ⊢
    subst q1
    have bj := sI_bd (h := rsI mc day k) (z := 1) (by omega) (n := j) (fun i _ => rsI_01 mc day k i)
    unfold M_reachShare_b2
    rw [h1, i12]
    refine ok_ite (fun hj => ?_) (fun hj => ok_some ?_)
    · have hj2 : j < nC mc := by omega
      have e : (if (¬ (k : Int) = (j : Int)) ∧ (m 30 (12 * k + j) < 1000000) then (1 : Int) else 0) = rsI mc day k j := by
        rw [hb k j hk2 hj2]
        unfold rsI
        by_cases h : ¬ k = j ∧ arV mc day (-1) 0 (-1) 0 k j < 1000000
        · rw [if_pos h, if_pos ⟨by omega, h.2⟩]
        · rw [if_neg h, if_neg (fun q => h ⟨by omega, q.2⟩)]
      have b1 := rsI_01 mc day k j
      rw [e]
      refine ok_grd (by unfold InR; omega) (ok_ltv (ok_grd (by unfold InR; omega) (ok_ltv (ok_some ⟨⟨j + 1, by dsimp only; omega, by omega, ?_⟩, by dsimp only; omega⟩))))
      show z + _ = x + (sI _ j + rsI mc day k j)
      omega
    · have : j = nC mc := by omega
      dsimp only
      rw [q3, this]
  · dsimp only at hz ⊢
    rw [hz, e3]
    rfl
  · have : k = nC mc := by omega
    dsimp only
    rw [e3, this]
theorem st_reachShare : ST_reachShare Inv := by
  intro mc mm p0 I _
  obtain ⟨i1, i2, i3, -⟩ := id I.1
  have CI0 : CI mc := ⟨_, I⟩
  have n := CI_n CI0
  have nn := nn_t ⟨nC mc, by omega⟩
  dsimp only at nn
  refine ag_of ?_
  unfold C_reachShare
  refine wp_bind (wp_needDay (fun h => ok_tbd_inr ?_) (fun k1 k2 => ok_tbd_inl ?_))
  · unfold M_reachShare
    refine wp_bq2 (wp_isNoDay (fun _ => ok_ite (fun _ => ok_some ?_) (fun q => absurd Int.one_ne_zero q)) (fun _ _ => by omega))
    (refine agp_er ?_ ?_ ?_); decide; (first | (rw [setM_same]; rfl) | (dsimp only; simp (disch := omega) only [setM_ne, setM_hit, true_and, and_true]; rfl))
    repeat (first | exact I | with_reducible refine Inv_thr ?_ _)
  · rw [n.1]
    refine ok_grd (by unfold InR; omega) (ok_ltv (ok_ite (fun h0 => ok_some ?_) (fun h0 => ?_)))
    · unfold M_reachShare
      refine wp_bq2 (wp_isNoDay (fun _ => by omega) (fun _ _ => ok_ite (fun q => absurd rfl q) (fun _ => ?_)))
      dsimp only
      have e : setM mm 0 0 0 0 1 = nC mc := by rw [setM_ne (by omega), i1, n.1]
      simp only [e]
      refine wp_bq2 (wp_isThrownI (fun _ => ok_ite (fun _ => ok_some ?_) (fun q => absurd Int.one_ne_zero q)) (fun q => by omega))
      (refine agp_er ?_ ?_ ?_); decide; (first | (rw [setM_same]; rfl) | (dsimp only; simp (disch := omega) only [setM_ne, setM_hit, true_and, and_true]; rfl))
      repeat (first | exact I | with_reducible refine Inv_thr ?_ _)
    · have hn2 : 2 ≤ nC mc := by omega
      refine (lay_ok (sh := -1) (mi := 0) CI0 (by omega) (by omega) (Ctx_self I)).mono (fun m1 l => ?_) |> fun h => ok_bind h (fun m1 h => h)
      refine ok_bind (fillArr_ok (t := 0) CI0 (by omega) ⟨l.2.1, l.2.2.1, l.2.2.2⟩ (by omega)) (fun m2 h2 => ok_ltv (ok_ltv ?_))
      have C2 : Ctx mc p0 (-1) 0 (-1) m2 := Ctx_fr CI0 ⟨l.2.1, l.2.2.1, l.2.2.2⟩ (fun c i h => h2.1 c i (by unfold cX pC at h; omega) (by unfold cX pC at h; omega))
      refine ok_bq2 (rsC_ok (day := p0) CI0 (CtL_of CI0 C2.1 C2.2.1).1 h2.2) (fun r _ hr => ?_)
      dsimp only at hr
      have bd := sI_bd (h := fun a => sI (rsI mc p0 a) (nC mc)) (z := 12) (by omega) (n := nC mc) (fun k _ => rs_bd CI0 k)
      rw [← hr] at bd
      have sh := share_t ⟨nC mc, by omega⟩ ⟨r.toNat, by omega⟩ hn2
      dsimp only at sh
      rw [show ((r.toNat : Nat) : Int) = r by omega] at sh
      refine ok_grd sh.1 (ok_some ?_)
      unfold M_reachShare
      refine wp_bq2 (wp_isNoDay (fun _ => by omega) (fun _ _ => ok_ite (fun q => absurd rfl q) (fun _ => ?_)))
      dsimp only
      have e : setM mm 0 0 0 0 1 = nC mc := by rw [setM_ne (by omega), i1, n.1]
      simp only [e]
      refine wp_bq2 (wp_isThrownI (fun q => by omega) (fun _ => ok_ite (fun q => absurd rfl q) (fun _ => ?_)))
      have J : Inv mc (setM (setM mm 0 0 0) 0 0 0) := Inv_thr (Inv_thr I 0) 0
      refine ok_bind (tellAll_ok (t := 0) CI0 (by omega) (by omega) (relM_set J) (by omega)) (fun m3 h3 => ok_ltv (ok_ltv ?_))
      dsimp only at h3
      have e01 : m3 0 1 = nC mc := by rw [h3.1 0 1 (by omega) (by omega), J.1.1, n.1]
      refine ok_bq2 (rsM_ok (day := p0) CI0 e01 h3.2) (fun r2 _ hr2 => ?_)
      dsimp only at hr2
      have err : r2 = r := by rw [hr2, hr]
      rw [err, e01]
      refine ok_grd ⟨by unfold InR; omega, by unfold InR; omega, sh.1⟩ (ok_some ⟨?_, rfl, sh.2, ?_⟩)
      · dsimp only
        rw [h3.1 0 0 (by omega) (by omega)]
        exact setM_same _ _ _ _
      · exact Inv_end (Inv_fr J (fun _ _ _ => rfl) (fun c i q => h3.1 c i (by unfold pM at q; omega) (by unfold pM at q; omega))) C2.1 C2.2.1.1 (fun _ _ _ => rfl)
end SHA
