/-! ===== the class keeps the chain ===== -/
def FrK (m0 m : Mem) : Prop := ∀ c i, ¬ (c = 355 ∧ i = 4) → ¬ (357 ≤ c ∧ c ≤ 360) → m c i = m0 c i
/-- how many rides the chain has -/
def Few (f : Nat → Int) (last K : Nat) : Prop := K ≤ last ∧ f K = f last ∧ ∀ j : Nat, j < K → f j ≠ f last
section KC
variable {mc m m0 : Mem} {day : Int}
theorem exC_rnd {sh mi : Int} {I0 : Lb} {last : Nat} (I : CI mc) (h : RoC mc day sh mi I0 m last) (k : Nat) : RndQ mc day sh mi (exC m last k) (exC m last (k + 1)) := by
  obtain ⟨A, a1, a2⟩ := exC_rw I h (k + 1)
  exact rnd_congr (RdQ_N I) a2 (rw_uniq (RdQ_N I) a1 (exC_rw I h k)) eqL_rfl
theorem exC_rg {sh mi : Int} {I0 : Lb} {last : Nat} (h : RoC mc day sh mi I0 m last) (k : Nat) : Rg (nC mc) (exC m last k) := (h.2.2.1 (min k last) (by omega)).2
theorem exC_wc {sh mi : Int} {a : Nat} {t : Int} {last : Nat} (I : CI mc) (ht : t ≤ 1000000) (h : RoC mc day sh mi (ini (wC mc (-1)) a t) m last) (k : Nat) : WCl (nC mc) (wC mc (-1)) (exC m last k) := rw_wc (und_ini (g := mc 2) (Rd := RdQ mc day sh mi (-1)) (CI_w0 I) ht eqL_rfl).2.1 (exC_rw I h k)
theorem fewest_ok {sh mi : Int} {I0 : Lb} {last b : Nat} (h : RoC mc day sh mi I0 m last) (hb : b < 12) : Ok (C_Rounds_fewestRides b m) (fun z => ∃ K : Nat, z = K ∧ Few (fun k => aR (exC m last k) b) last K) := by
  have l := h.2.1
  unfold C_Rounds_fewestRides
  have least : Ok (C_Rounds_least b m) (fun v => v = aR (exC m last last) b) := by
    unfold C_Rounds_least
    rw [h.1, Int.toNat_natCast]
    refine ok_grd (by omega) (ok_bind (atC_ok (s := b) hb) (fun v hv => ok_some ?_))
    rw [hv]
    unfold exC
    rw [Nat.min_self]
    rfl
  refine ok_ltv (ok_br1 (Q := fun z => match z with
    | .inl _ => ∀ j : Nat, j < last → aR (exC m last j) b ≠ aR (exC m last last) b
    | .inr z => ∃ K : Nat, z = K ∧ Few (fun k => aR (exC m last k) b) last K) ?_ (fun _ q => ok_some ⟨last, h.1, Nat.le_refl _, rfl, q⟩) (fun _ q => ok_some q))
  refine ok_loop (fun x => ∃ k : Nat, x = k ∧ k ≤ last ∧ ∀ j : Nat, j < k → aR (exC m last j) b ≠ aR (exC m last last) b) (fun x => 20 - x.toNat) ⟨0, rfl, Nat.zero_le _, fun j hj => by omega⟩ ?_
  rintro x ⟨k, rfl, e2, e3⟩
  unfold C_Rounds_fewestRides_b1
  rw [h.1, Int.toNat_natCast]
  refine ok_ite (fun hk => ok_grd (by omega) (ok_bind (atC_ok (s := b) hb) (fun v hv => ok_bind least (fun v2 hv2 => ?_)))) (fun hk => ok_some ?_)
  · have ev : v = aR (exC m last k) b := by
      rw [hv]
      unfold exC
      rw [Nat.min_eq_left e2]
      rfl
    refine ok_ite (fun q => ok_some ⟨k, rfl, e2, by dsimp only; omega, e3⟩) (fun q => ok_grd (by unfold InR; omega) (ok_ltv (ok_some ⟨⟨k + 1, by omega, by omega, fun j hj => ?_⟩, by omega⟩)))
    by_cases hh : j = k
    · rw [hh]; omega
    · exact e3 j (by omega)
  · have : k = last := by omega
    rw [← this]
    rw [this] at e3
    dsimp only
    rw [this]
    exact e3
theorem keepChain_ok {a last b : Nat} {t : Int} (I : CI mc) (C : Ctx mc day (-1) 0 (-1) m0) (ht : t ≤ 1000000) (h : RoC mc day (-1) 0 (ini (wC mc (-1)) a t) m0 last) (hb : b < nC mc) (hf : aR (exC m0 last last) b < 1000000) : Ok (C_Rounds_keepChain b m0) (fun m => FrK m0 m ∧ ∃ (K : Nat) (Q On Of : Nat → Nat), m 355 4 = K ∧ Few (fun k => aR (exC m0 last k) b) last K ∧ Seq mc day (exC m0 last) K b (aR (exC m0 last last) b) 0 Q On Of ∧ ∀ j : Nat, j < K → m 357 j = ((Q j % 24 : Nat) : Int) ∧ m 358 j = qd (Q j) ∧ m 359 j = On j ∧ m 360 j = Of j) := by
  have n := CI_n I
  have l12 := h.2.1
  obtain ⟨p, nw, R, H, r1, r2, r3, r4, r5, rk⟩ := id C
  have L0 : CtL mc (-1) m0 := CtL_of I p nw
  unfold C_Rounds_keepChain
  refine ok_bind (fewest_ok h (by omega)) (fun kk hK => ok_ltv (ok_ltv ?_))
  obtain ⟨K, rfl, few⟩ := hK
  have K12 : K ≤ 12 := by have := few.1; omega
  obtain ⟨m1, hm1⟩ : ∃ m1, m1 = setM m0 355 4 (K : Int) := ⟨_, rfl⟩
  rw [← hm1]
  have f1 : FrK m0 m1 := fun c i h1 h2 => by rw [hm1]; exact setM_ne h1
  -- what stands in all that follows
  have st : ∀ m, FrK m0 m → NetT mc day (-1) 0 m R 72 ∧ CtL mc (-1) m ∧ m 119 4 = R ∧ (∀ k, k ≤ last → labC (361 + 3 * k) m = exC m0 last k) := fun m f => by
    refine ⟨NetT_fr I r3 r5 (fun c i x y => f c i (by omega) (by omega)), CtL_fr I L0 (fun c i x => f c i (by omega) (by omega)), by rw [f 119 4 (by omega) (by omega)]; exact r1, fun k hk => ?_⟩
    unfold exC labC
    rw [Nat.min_eq_left hk]
    exact Prod.ext (funext fun v => f _ v (by omega) (by omega)) (funext fun v => f _ v (by omega) (by omega))
  have least : Ok (C_Rounds_least b m1) (fun v => v = aR (exC m0 last last) b) := by
    unfold C_Rounds_least
    rw [f1 355 3 (by omega) (by omega), h.1, Int.toNat_natCast]
    refine ok_grd (by omega) (ok_bind (atC_ok (s := b) (by omega)) (fun v hv => ok_some ?_))
    rw [hv, (st m1 f1).2.2.2 last (Nat.le_refl _)]
    rfl
  have e4 : m1 355 4 = K := by rw [hm1]; exact setM_same _ _ _ _
  refine ok_bind least (fun by0 hby => ok_ltv (ok_ltv ?_))
  subst hby
  rw [e4]
  refine ok_grd (by unfold InR; omega) (ok_ltv (ok_bq5 (Q := fun (x : Int × Int × Int × Int × Mem) => FrK m0 x.2.2.2.2 ∧ x.2.2.2.2 355 4 = K ∧ ∃ (Q On Of : Nat → Nat), Seq mc day (exC m0 last) K b (aR (exC m0 last last) b) 0 Q On Of ∧ ∀ j : Nat, j < K → x.2.2.2.2 357 j = ((Q j % 24 : Nat) : Int) ∧ x.2.2.2.2 358 j = qd (Q j) ∧ x.2.2.2.2 359 j = On j ∧ x.2.2.2.2 360 j = Of j) ?_ (fun _ _ _ _ m h => ok_some ⟨h.1, K, h.2.2.choose, h.2.2.choose_spec.choose, h.2.2.choose_spec.choose_spec.choose, h.2.1, few, h.2.2.choose_spec.choose_spec.choose_spec.1, h.2.2.choose_spec.choose_spec.choose_spec.2⟩)))
  refine ok_loop (fun x => ∃ (k s : Nat), x.2.2.2.1 = (k : Int) - 1 ∧ k ≤ K ∧ x.1 = s ∧ s < nC mc ∧ (0 ≤ x.2.2.1 ∧ x.2.2.1 ≤ 30) ∧ rch (exC m0 last k) s x.2.1 x.2.2.1 ∧ (1 ≤ k → ¬ rch (exC m0 last (k - 1)) s x.2.1 x.2.2.1) ∧ FrK m0 x.2.2.2.2 ∧ x.2.2.2.2 355 4 = K ∧ ∃ (Qr Or Fr : Nat → Nat), (∀ j : Nat, k ≤ j → j < K → x.2.2.2.2 357 j = ((Qr j % 24 : Nat) : Int) ∧ x.2.2.2.2 358 j = qd (Qr j) ∧ x.2.2.2.2 359 j = Or j ∧ x.2.2.2.2 360 j = Fr j) ∧ ∀ (Q On Of : Nat → Nat), (∀ j : Nat, k ≤ j → j < K → Q j = Qr j ∧ On j = Or j ∧ Of j = Fr j) → Seq mc day (exC m0 last) k s x.2.1 x.2.2.1 Q On Of → Seq mc day (exC m0 last) K b (aR (exC m0 last last) b) 0 Q On Of) (fun x => (x.2.2.2.1 + 1).toNat) ⟨K, b, rfl, Nat.le_refl _, rfl, hb, by dsimp only; omega, ?_, fun hk => ?_, f1, e4, fun _ => 0, fun _ => 0, fun _ => 0, fun j h1 h2 => by omega, fun Q On Of _ h => h⟩ ?_
  · have := few.2.1
    dsimp only at this ⊢
    unfold rch
    unfold aR at this ⊢
    omega
  · have a1 := few.2.2 (K - 1) (by omega)
    have a2 := exC_mono I h (K - 1) hb
    rw [show K - 1 + 1 = K by omega] at a2
    have a3 := few.2.1
    dsimp only at a1 a3 ⊢
    unfold rch
    unfold aR at a1 a2 a3 ⊢
    omega
  · rintro ⟨x1, by1, pa, x4, m⟩ ⟨k, s, e1, e2, e3, e5, e6, e7, e8, f2, f3, Qr, Or, Fr, g1, g2⟩
    dsimp only at e1 e3 e6 e7 e8 f2 f3 g1 g2 ⊢
    subst e1
    subst e3
    unfold C_Rounds_keepChain_b1
    refine ok_ite (fun hk => ?_) (fun hk => ok_some ⟨f2, f3, Qr, Or, Fr, g2 Qr Or Fr (fun j _ _ => ⟨rfl, rfl, rfl⟩) ?_, fun j hj => g1 j (by omega) hj⟩)
    · obtain ⟨k', rfl⟩ : ∃ k', k = k' + 1 := ⟨k - 1, by omega⟩
      have ek : ((k' + 1 : Nat) : Int) - 1 = (k' : Int) := by omega
      rw [ek]
      have hkl : k' ≤ last := by have := few.1; omega
      have nr : ¬ rch (exC m0 last k') s by1 pa := by have := e8 (by omega); rw [Nat.add_sub_cancel] at this; exact this
      obtain ⟨q, on, off, ch⟩ := ChR_is (ride_is I e5 (exC_wc I ht h k') (exC_rg h k') (exC_rnd I h k') e7 nr)
      have S := st m f2
      refine ok_bind (findRideC_ok (q := q) (on := on) (off := off) I S.1 r3 S.2.2.1 S.2.1 (by omega) e5 (S.2.2.2 k' hkl) (exC_rg h k') e6 ch) (fun rz hr => ok_ltv ?_)
      obtain ⟨r, rfl, rR, rq⟩ := hr
      simp only [Int.toNat_natCast]
      have tb := NetT_run I S.1 rR
      have t120 := (S.1.1 r rR).2.2.1
      have t121 := (S.1.1 r rR).2.2.2.1
      rw [rq] at t120 t121 tb
      refine ok_grd (by omega) (ok_ltv (ok_ltv ?_))
      rw [setM_ne (c' := 121) (by omega), t120, t121]
      obtain ⟨m4, hm4⟩ : ∃ m4, m4 = setM (setM m 357 k' ((q % 24 : Nat) : Int)) 358 k' (qd q) := ⟨_, rfl⟩
      rw [← hm4]
      have y4 : ∀ c i, ¬ ((c = 357 ∨ c = 358) ∧ i = k') → m4 c i = m c i := fun c i hh => by rw [hm4, setM_ne (by omega), setM_ne (by omega)]
      have y4a : m4 357 k' = ((q % 24 : Nat) : Int) := by rw [hm4, setM_ne (by omega), setM_same]
      have y4b : m4 358 k' = qd q := by rw [hm4, setM_same]
      have f4 : FrK m0 m4 := fun c i h1 h2 => by rw [y4 c i (by omega)]; exact f2 c i h1 h2
      have S4 := st m4 f4
      have ph4 : phi m4 r = phi m r := by unfold phi; rw [y4 121 r (by omega), y4 120 r (by omega)]
      refine ok_bind (offCall_ok (A := exC m0 last k') I S4.1 r3 S4.2.1 rR (by omega) e5 (S4.2.2.2 k' hkl) (exC_rg h k') e6) (fun oz ho => ok_ltv ?_)
      have eoz : oz = off := by
        rw [ph4, rq] at ho
        rcases ho with ⟨-, ho⟩ | ⟨o, o1, o2, o3⟩
        · exact absurd ch.2.2.1 (ho off)
        · rcases Nat.lt_trichotomy o off with z | z | z
          · exact absurd o2 (ch.2.2.2.1 o z)
          · omega
          · exact absurd ch.2.2.1 (o3 off z)
      subst eoz
      rw [setM_same]
      obtain ⟨m5, hm5⟩ : ∃ m5, m5 = setM m4 360 k' (off : Int) := ⟨_, rfl⟩
      rw [← hm5]
      have y5 : ∀ c i, ¬ (c = 360 ∧ i = k') → m5 c i = m4 c i := fun c i hh => by rw [hm5]; exact setM_ne hh
      have y5a : m5 360 k' = off := by rw [hm5, setM_same]
      have f5 : FrK m0 m5 := fun c i h1 h2 => by rw [y5 c i (by omega)]; exact f4 c i h1 h2
      have S5 := st m5 f5
      have ph5 : phi m5 r = q := by rw [← rq]; unfold phi; rw [y5 121 r (by omega), y5 120 r (by omega), y4 121 r (by omega), y4 120 r (by omega)]
      refine ok_bind (onCall_ok (A := exC m0 last k') (stop := s) (b := by1) (pause := pa) (off := off) I S5.1 r3 S5.2.1 rR ph5 (by omega) (S5.2.2.2 k' hkl) (exC_rg h k') ch) (fun nz hn => ok_ltv ?_)
      subst hn
      rw [setM_same]
      obtain ⟨m6, hm6⟩ : ∃ m6, m6 = setM m5 359 k' (on : Int) := ⟨_, rfl⟩
      rw [← hm6]
      have y6 : ∀ c i, ¬ (c = 359 ∧ i = k') → m6 c i = m5 c i := fun c i hh => by rw [hm6]; exact setM_ne hh
      have y6a : m6 359 k' = on := by rw [hm6, setM_same]
      have f6 : FrK m0 m6 := fun c i h1 h2 => by rw [y6 c i (by omega)]; exact f5 c i h1 h2
      have S6 := st m6 f6
      have onl : on < lenQ mc q := by have := ch.2.2.1.1; have := ch.2.2.2.2.2.1; omega
      have len8 := tb.2.2.2.2.1
      have ton := tb.2.2.2.2.2 on onl
      have e124 : m6 (124 + r) on = stQ mc q on := by rw [y6 _ _ (by omega), y5 _ _ (by omega), y4 _ _ (by omega)]; exact ton.1
      have e270 : m6 (270 + r) on = lvQ mc day (-1) 0 q on := by rw [y6 _ _ (by omega), y5 _ _ (by omega), y4 _ _ (by omega)]; exact ton.2.2.2
      simp only [Int.toNat_natCast, e124, e270]
      have gb := CI_g I ton.2.1
      have eg : m6 2 (stQ mc q on) = mc 2 (stQ mc q on) := S6.2.1.2.1 _ ton.2.1
      refine ok_grd (by omega) (ok_ltv (ok_ltv (ok_grd (by omega) (ok_ltv (ok_grd (by unfold InR; omega) (ok_ltv (ok_some ?_)))))))
      simp only [Int.toNat_natCast, eg]
      have recs : ∀ j : Nat, k' ≤ j → j < K → m6 357 j = (((if j = k' then q else Qr j) % 24 : Nat) : Int) ∧ m6 358 j = qd (if j = k' then q else Qr j) ∧ m6 359 j = ((if j = k' then on else Or j : Nat) : Int) ∧ m6 360 j = ((if j = k' then off else Fr j : Nat) : Int) := fun j h1 h2 => by
        by_cases hj : j = k'
        · subst hj
          rw [if_pos rfl, if_pos rfl, if_pos rfl]
          refine ⟨?_, ?_, y6a, ?_⟩
          · rw [y6 _ _ (by omega), y5 _ _ (by omega), y4a]
          · rw [y6 _ _ (by omega), y5 _ _ (by omega), y4b]
          · rw [y6 _ _ (by omega), y5a]
        · rw [if_neg hj, if_neg hj, if_neg hj]
          rw [y6 357 _ (by omega), y5 357 _ (by omega), y4 357 _ (by omega), y6 358 _ (by omega), y5 358 _ (by omega), y4 358 _ (by omega), y6 359 _ (by omega), y5 359 _ (by omega), y4 359 _ (by omega), y6 360 _ (by omega), y5 360 _ (by omega), y4 360 _ (by omega)]
          exact g1 j (by omega) h2
      have nextall : ∀ k2, k' = k2 + 1 → ¬ rch (exC m0 last k2) (stQ mc q on) (lvQ mc day (-1) 0 q on) (mc 2 (stQ mc q on)) := fun k2 hk2 => by
        subst hk2
        exact (ChR_next I e5 ch (exC_rnd I h k2) nr).2.2
      have cn := ch.2.2.2.2.2.2.1.2
      refine ⟨⟨k', stQ mc q on, rfl, by omega, rfl, ton.2.1, gb, cn, fun hk1 => nextall (k' - 1) (by omega), f6, ?_, fun j => if j = k' then q else Qr j, fun j => if j = k' then on else Or j, fun j => if j = k' then off else Fr j, recs, fun Q On Of hag hs => ?_⟩, ?_⟩
      · (try dsimp only)
        rw [y6 _ _ (by omega), y5 _ _ (by omega), y4 _ _ (by omega)]
        exact f3
      · have ak := hag k' (Nat.le_refl _) (by omega)
        dsimp only at ak
        rw [if_pos rfl, if_pos rfl, if_pos rfl] at ak
        refine g2 Q On Of (fun j h1 h2 => ?_) ⟨?_, ?_⟩
        · have := hag j (by omega) h2
          dsimp only at this
          rw [if_neg (by omega), if_neg (by omega), if_neg (by omega)] at this
          exact this
        · rw [ak.1, ak.2.1, ak.2.2]
          exact ch
        · rw [ak.1, ak.2.1]
          exact hs
      · (try dsimp only)
        omega
    · have : k = 0 := by omega
      rw [this]
      exact trivial
end KC
