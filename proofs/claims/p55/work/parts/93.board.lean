/-! ===== onBoard ===== -/
def nowL : Lb := (fun _ => 1000000, fun _ => 1000000)
/-- got off at each call behind one -/
def ob (mc : Mem) (day : Int) (q c : Nat) : Nat → Lb
  | 0 => nowL
  | k + 1 => gof (nC mc) (wC mc (-1)) (ob mc day q c k) (stQ mc q (c + 1 + k)) (arQ mc day (-1) 0 q (c + 1 + k))
section OB
variable {mc mm m m0 : Mem} {day : Int}
theorem gof_eqL {A B : Lb} {N s : Nat} {w : Nat → Nat → Int} {t : Int} (h : eqL N A B) (hs : s < N) : eqL N (gof N w A s t) (gof N w B s t) := by
  intro v hv
  have a := h v hv
  have b := h s hs
  rw [gof_1, gof_1, gof_2, gof_2, a.1, a.2, b.1]
  exact ⟨rfl, rfl⟩
theorem und_self {N : Nat} {g : Nat → Int} {w : Nat → Nat → Int} {Rd : RdT} {I L : Lb} (h : eqL N L I) (wc : WCl N w I) : Und N g w Rd I L := by
  refine ⟨eqL_le h, fun s v hs hv hn => ?_, fun L' _ h2 => leL_tr h2 (eqL_le (eqL_sym h))⟩
  have := wc s v hs hv hn; have := h s hs; have := h v hv; omega
theorem needRun_ok {t d : Int} {P : (Unit ⊕ Nat) × Mem → Prop} (h0 : 0 ≤ t) (h1 : t < 24) (s0 : 0 ≤ m 32 t.toNat) (s1 : m 32 t.toNat < 6) (hb : 0 ≤ m 30 (m 32 t.toNat).toNat ∧ m 30 (m 32 t.toNat).toNat < 268435456) (hd : 0 ≤ d ∧ d ≤ 27) (p1 : bit (m 30 (m 32 t.toNat).toNat) d.toNat = 0 → P (.inr 4, m)) (p2 : bit (m 30 (m 32 t.toNat).toNat) d.toNat = 1 → P (.inl (), m)) : Ok (C_needRun t d m) P := by
  unfold C_needRun
  have z := bit_01 (m 30 (m 32 t.toNat).toNat) d.toNat
  refine ok_grd ⟨h0, h1⟩ (ok_bind (isOn_ok s0 s1 hb) (fun r hr => ?_))
  rw [if_pos (by omega)] at hr
  exact ok_ite (fun h => ok_some (p2 (by omega))) (fun h => ok_some (p1 (by omega)))
theorem Inv_sv {t : Int} (I : Inv mc mm) (h0 : 0 ≤ t) (h1 : t < mc 31 0) : 0 ≤ mc 32 t.toNat ∧ mc 32 t.toNat < 6 ∧ 0 ≤ mc 30 (mc 32 t.toNat).toNat ∧ mc 30 (mc 32 t.toNat).toNat < 268435456 := by
  have b := I.2.2.1.2.2.2 t.toNat (by omega)
  have c := I.2.1.2.2.1
  have d := I.2.1.2.2.2.1 (mc 32 t.toNat).toNat (by omega)
  exact ⟨b.2.1, by omega, d.1, d.2.1⟩
theorem ob_facts {q c : Nat} (I : CI mc) (hq7 : q < 72) (hq : isQ mc day q) (hq0 : qd q = 0) (K : Nat) (hK : c + K < lenQ mc q) : WCl (nC mc) (wC mc (-1)) (ob mc day q c K) ∧ Rg (nC mc) (ob mc day q c K) := by
  induction K with
  | zero =>
    refine ⟨fun s v hs hv hn => ?_, fun v hv => ?_⟩
    · have := CI_w0 (cut := -1) I s v hs hv
      show (1000000 : Int) ≤ 1000000 + _
      omega
    · show (0 : Int) ≤ 1000000 ∧ (1000000 : Int) ≤ 1000000 ∧ (0 : Int) ≤ 1000000 ∧ (1000000 : Int) ≤ 1000000
      omega
  | succ K ih =>
    have i := ih (by omega)
    have cl := CI_call I hq.1 (c := c + 1 + K) (by omega)
    have a0 : 0 ≤ arQ mc day (-1) 0 q (c + 1 + K) := by
      have l := CI_late I (d := day + qd q) (t := ((q % 24 : Nat) : Int)) (c := ((c + 1 + K : Nat) : Int) - 1)
      unfold arQ mvQ
      rw [hq0] at l ⊢
      split <;> omega
    exact ⟨gof_wc i.1, gof_rg i.2 (fun v hv => CI_w0 I _ _ cl.2.1 hv) cl.2.1 a0⟩
theorem ob_ar {q c : Nat} (I : CI mc) (hq : isQ mc day q) (hq0 : qd q = 0) (hc : c < lenQ mc q) : 0 ≤ arQ mc day (-1) 0 q c := by
  have cl := CI_call I hq.1 hc
  have l := CI_late I (d := day + qd q) (t := ((q % 24 : Nat) : Int)) (c := (c : Int) - 1)
  unfold arQ mvQ
  rw [hq0] at l ⊢
  split <;> omega
theorem scanOnBoard_ok {q c : Nat} (I : CI mc) (C : Ctx mc day (-1) 0 (-1) m0) (hq7 : q < 72) (hq : isQ mc day q) (hq0 : qd q = 0) (hc : c + 1 < lenQ mc q) : Ok (C_Search_scanOnBoard ((q % 24 : Nat) : Int) c m0) (fun m => FrSc m0 m ∧ BestQ mc day (-1) 0 (-1) (ob mc day q c (lenQ mc q - (c + 1))) (labC 352 m)) := by
  have n := CI_n I
  have len := CI_len I hq.1
  obtain ⟨p, nw, R, H, r1, r2, r3, r4, r5, rk⟩ := id C
  obtain ⟨rq, rq1, rq2⟩ := r5.2.2 q hq7 hq
  have of := ob_facts (c := c) I hq7 hq hq0 (lenQ mc q - (c + 1)) (by omega)
  unfold C_Search_scanOnBoard
  refine ok_bind (clear_ok (x := 352) I (by omega) (CtL_of I p nw)) (fun m1 h1 => ok_ltv ?_)
  refine ok_bq2 (Q := fun x => FrLb 352 m0 x.2 ∧ eqL (nC mc) (labC 352 x.2) (ob mc day q c (lenQ mc q - (c + 1)))) ((ok_for0 (n := R) (fun r x => FrLb 352 m0 x ∧ eqL (nC mc) (labC 352 x) (if rq < r then ob mc day q c (lenQ mc q - (c + 1)) else nowL)) ⟨h1.1, ?_⟩ ?_ ?_).mono (fun x h => ⟨h.1, by have := h.2; rw [if_pos rq1] at this; exact this⟩)) (fun _ m2 h2 => ?_)
  · rw [if_neg (by omega)]
    exact fun v hv => h1.2 v hv
  · rintro r m hr ⟨f1, f2⟩
    have Cm : Ctx mc day (-1) 0 (-1) m := Ctx_fr I C (fun c i h => f1 c i (by unfold cX pC at h; omega))
    have nt : NetT mc day (-1) 0 m R 72 := NetT_fr I r3 r5 (fun c i a b => f1 c i (by omega))
    have tr := nt.1 r hr
    have tb := NetT_run I nt hr
    unfold C_Search_scanOnBoard_b1
    rw [f1 119 4 (by omega), r1, Int.toNat_natCast, tr.2.2.1, tr.2.2.2.1]
    have iff : ((phi m r % 24 : Nat) : Int) = ((q % 24 : Nat) : Int) ∧ qd (phi m r) = 0 ↔ r = rq := by
      have ph : phi m r = phi m0 r := by unfold phi; rw [f1 121 r (by omega), f1 120 r (by omega)]
      constructor
      · rintro ⟨a, b⟩
        have e : phi m r = q := by unfold qd at b hq0; omega
        rcases Nat.lt_trichotomy r rq with z | z | z
        · have := r5.2.1 r rq z rq1
          omega
        · exact z
        · have := r5.2.1 rq r z hr
          omega
      · intro e
        rw [ph, e, rq2]
        exact ⟨rfl, hq0⟩
    refine ok_ite (fun _ => ok_grd (by omega) (ok_ite (fun h => ok_grd (by unfold InR; omega) (ok_ltv ?_)) (fun h => ok_grd (by unfold InR; omega) (ok_ltv (ok_some ⟨_, rfl, f1, ?_⟩))))) (fun h => by omega)
    · have er := iff.mp h
      rw [if_neg (by omega)] at f2
      have eq : phi m r = q := by
        have ph : phi m r = phi m0 r := by unfold phi; rw [f1 121 r (by omega), f1 120 r (by omega)]
        rw [ph, er, rq2]
      rw [eq] at tb
      refine ok_bq2 (Q := fun (x : Int × Mem) => FrLb 352 m0 x.2 ∧ eqL (nC mc) (labC 352 x.2) (ob mc day q c (lenQ mc q - (c + 1)))) ?_ (fun _ m' z => ok_grd (by unfold InR; omega) (ok_ltv (ok_some ⟨_, rfl, z.1, by rw [if_pos (by omega)]; exact z.2⟩)))
      refine ok_loop (fun x => ∃ k : Nat, x.1 = ((c + 1 + k : Nat) : Int) ∧ c + 1 + k ≤ lenQ mc q ∧ FrLb 352 m0 x.2 ∧ eqL (nC mc) (labC 352 x.2) (ob mc day q c k)) (fun x => 9 - x.1.toNat) ⟨0, by dsimp only; omega, by omega, f1, f2⟩ ?_
      rintro ⟨x, m'⟩ ⟨k, e1, e2, g1, g2⟩
      dsimp only at e1 g1 g2 ⊢
      subst e1
      have Cm' : Ctx mc day (-1) 0 (-1) m' := Ctx_fr I C (fun c i h => g1 c i (by unfold cX pC at h; omega))
      unfold C_Search_scanOnBoard_b2
      simp only [Int.toNat_natCast]
      have e122 : m' 122 r = lenQ mc q := by rw [g1 122 r (by omega), ← f1 122 r (by omega)]; exact tb.2.2.1
      rw [e122]
      refine ok_grd (by omega) (ok_ite (fun hk => ok_grd (by omega) ?_) (fun hk => ok_some ⟨g1, ?_⟩))
      · have tk := tb.2.2.2.2.2 (c + 1 + k) (by omega)
        have est : m' (124 + r) (c + 1 + k) = stQ mc q (c + 1 + k) := by rw [g1 _ _ (by omega), ← f1 _ _ (by omega)]; exact tk.1
        have ear : m' (197 + r) (c + 1 + k) = arQ mc day (-1) 0 q (c + 1 + k) := by rw [g1 _ _ (by omega), ← f1 _ _ (by omega)]; exact tk.2.2.1
        rw [est, ear]
        have okf := ob_facts (c := c) I hq7 hq hq0 k (by omega)
        have a0 := ob_ar I hq hq0 (c := c + 1 + k) (by omega)
        refine ok_bq2 (getOff_ok (x := 352) I (by omega) (CtL_of I Cm'.1 Cm'.2.1) tk.2.1 (by omega) a0 (fun v hv => by have := g2 v hv; have := okf.2 v hv; omega)) (fun v m'' hv => ok_grd (by unfold InR; omega) (ok_ltv (ok_some ⟨⟨k + 1, by dsimp only; omega, by omega, fun c i hh => ?_, ?_⟩, by dsimp only; omega⟩)))
        · dsimp only at hv ⊢
          rw [hv.1 c i hh]
          exact g1 c i hh
        · dsimp only at hv ⊢
          rw [hv.2.1]
          exact gof_eqL g2 tk.2.1
      · have : k = lenQ mc q - (c + 1) := by omega
        rw [← this]
        exact g2
    · have ne : r ≠ rq := fun z => h (iff.mpr z)
      by_cases z : rq < r
      · rw [if_pos z] at f2
        rw [if_pos (by omega)]
        exact f2
      · rw [if_neg z] at f2
        rw [if_neg (by omega)]
        exact f2
  · rintro m ⟨f1, -⟩
    unfold C_Search_scanOnBoard_b1
    rw [f1 119 4 (by omega), r1, if_neg (by omega)]
  · dsimp only at h2
    have C2 : Ctx mc day (-1) 0 (-1) m2 := Ctx_fr I C (fun c i h => h2.1 c i (by unfold cX pC at h; omega))
    have rg : Rg (nC mc) (labC 352 m2) := fun v hv => by have := h2.2 v hv; have := of.2 v hv; omega
    refine ok_bind (readHops_ok I (by omega) C2 (und_self h2.2 of.1) rg (fun s hs => ⟨(rg s hs).1, (rg s hs).2.2.1⟩) (fun s _ h => by omega) (by omega)) (fun m3 h3 => ok_some ⟨fun c i h => ?_, h3.2.1⟩)
    rw [h3.1 c i h, h2.1 c i (by omega)]
theorem onBoardM_ok {q c : Nat} (I : CI mc) (hd : 0 ≤ day ∧ day ≤ 27) (r : RelM mc day (-1) 0 (-1) m0) (hq7 : q < 72) (hq : isQ mc day q) (hq0 : qd q = 0) (hc : c + 1 < lenQ mc q) (e : eqL (nC mc) (labM m0) nowL) : Ok (loop (fun s => M_onBoard_b1 ((q % 24 : Nat) : Int) s.1 s.2) ((c : Int) + 1, m0)) (fun x => FrG m0 x.2 ∧ eqL (nC mc) (labM x.2) (ob mc day q c (lenQ mc q - (c + 1)))) := by
  have n := CI_n I
  have len := CI_len I hq.1
  have tt := CI_t I
  refine ok_loop (fun x => ∃ k : Nat, x.1 = ((c + 1 + k : Nat) : Int) ∧ c + 1 + k ≤ lenQ mc q ∧ FrG m0 x.2 ∧ eqL (nC mc) (labM x.2) (ob mc day q c k)) (fun x => 9 - x.1.toNat) ⟨0, by dsimp only; omega, by omega, fun _ _ _ _ => rfl, e⟩ ?_
  rintro ⟨x, m⟩ ⟨k, e1, e2, g1, g2⟩
  dsimp only at e1 g1 g2 ⊢
  subst e1
  have rl := FrG_rel r g1
  have e6 : m 6 (q % 24) = lenQ mc q := by rw [(rl.2.2.2.2.1 (q % 24) hq.1).2.1]; exact len.1
  have e24 : 24 + ((q % 24 : Nat) : Int) = (q : Int) := by unfold qd at hq0; omega
  unfold M_onBoard_b1
  rw [Int.toNat_natCast, e6, e24]
  refine ok_grd (by omega) (ok_ite (fun hk => ok_grd (by unfold InR; omega) ?_) (fun hk => ok_some ⟨g1, ?_⟩))
  · have hk2 : c + 1 + k < lenQ mc q := by omega
    have cl := CI_call I hq.1 hk2
    have okf := ob_facts (c := c) I hq7 hq hq0 k (by omega)
    have a0 := ob_ar I hq hq0 hk2
    refine ok_bind (stopIn_ok I rl hq hk2) (fun s hs => ok_bind (comesAt_ok I rl hq7 hd (by omega) hq hk2) (fun t ht => ?_))
    subst hs
    subst ht
    refine ok_bind (getsOff_ok I rl cl.2.1 (by omega) a0 (fun v hv => by have := g2 v hv; have := okf.2 v hv; omega)) (fun m' hm => ok_grd (by unfold InR; omega) (ok_ltv (ok_some ⟨⟨k + 1, by dsimp only; omega, by omega, fun c i h1 h2 => ?_, ?_⟩, by dsimp only; omega⟩)))
    · dsimp only
      rw [hm.1 c i h1 h2]
      exact g1 c i h1 h2
    · dsimp only
      rw [hm.2.1]
      exact gof_eqL g2 cl.2.1
  · have : k = lenQ mc q - (c + 1) := by omega
    rw [← this]
    exact g2
theorem st_onBoard : ST_onBoard Inv := by
  intro mc mm p0 p1 p2 p3 I _ _ _ _
  obtain ⟨i1, i2, i3, -⟩ := id I.1
  obtain ⟨t1, t2, t3, t4⟩ := id I.2.2.1
  have CI0 : CI mc := ⟨_, I⟩
  have n := CI_n CI0
  refine ag_of ?_
  unfold C_onBoard
  by_cases h1 : 0 ≤ p1 ∧ p1 < mc 31 0 ∧ 0 ≤ p2 ∧ p2 < mc 33 p1.toNat
  case neg =>
    refine wp_bind (wp_needCall t3 (fun _ => ok_tbd_inr ?_) (fun _ _ _ _ => by omega))
    unfold M_onBoard
    refine wp_bq2 (wp_isNoCall (by omega) (by omega) (fun a b => by have := IT_get I.2.2.1 a (by omega); omega) (fun _ => ?_) (fun a b c d => by have := IT_get I.2.2.1 a (by omega); omega))
    repeat' (first
    | with_reducible refine ok_ltv ?_
    | with_reducible refine ok_tbd_inl ?_
    | with_reducible refine ok_tbd_inr ?_
    | with_reducible refine wp_bind ?_
    | with_reducible refine wp_bq1 ?_
    | with_reducible refine wp_bq2 ?_
    | (with_reducible refine wp_needNumber (fun _ => ?_) (fun _ _ => ?_)) <;> (try (exfalso; omega))
    | (with_reducible refine wp_needDay (fun _ => ?_) (fun _ _ => ?_)) <;> (try (exfalso; omega))
    | (with_reducible refine wp_needStop (fun _ => ?_) (fun _ _ => ?_)) <;> (try (exfalso; omega))
    | (with_reducible refine wp_needService (fun _ => ?_) (fun _ _ => ?_)) <;> (try (exfalso; omega))
    | (with_reducible refine wp_needTrip (fun _ => ?_) (fun _ _ => ?_)) <;> (try (exfalso; omega))
    | (with_reducible refine wp_needCall (by omega) (fun _ => ?_) (fun _ _ _ _ => ?_)) <;> (try (exfalso; omega))
    | (with_reducible refine wp_needUnlike (fun _ => ?_) (fun _ => ?_)) <;> (try (exfalso; omega))
    | (with_reducible refine wp_needFound (fun _ => ?_) (fun _ => ?_)) <;> (try (exfalso; omega))
    | (with_reducible refine wp_needRoomForTrip (fun _ => ?_) (fun _ => ?_)) <;> (try (exfalso; omega))
    | (with_reducible refine wp_needRoomForSigns (by unfold InR; omega) (fun _ => ?_) (fun _ => ?_)) <;> (try (exfalso; omega))
    | (with_reducible refine wp_isNoStop (by (try simp (disch := omega) only [setM_ne, setM_hit, true_and, and_true]); omega) (by (try simp (disch := omega) only [setM_ne, setM_hit, true_and, and_true]); omega) (fun h => ?_) (fun h1 h2 => ?_)) <;> (try simp (disch := omega) only [setM_ne, setM_hit, true_and, and_true] at h) <;> (try simp (disch := omega) only [setM_ne, setM_hit, true_and, and_true] at h1) <;> (try simp (disch := omega) only [setM_ne, setM_hit, true_and, and_true] at h2) <;> (try (exfalso; omega))
    | (with_reducible refine wp_isNoService (by (try simp (disch := omega) only [setM_ne, setM_hit, true_and, and_true]); omega) (by (try simp (disch := omega) only [setM_ne, setM_hit, true_and, and_true]); omega) (fun h => ?_) (fun h1 h2 => ?_)) <;> (try simp (disch := omega) only [setM_ne, setM_hit, true_and, and_true] at h) <;> (try simp (disch := omega) only [setM_ne, setM_hit, true_and, and_true] at h1) <;> (try simp (disch := omega) only [setM_ne, setM_hit, true_and, and_true] at h2) <;> (try (exfalso; omega))
    | (with_reducible refine wp_isNoTrip (by (try simp (disch := omega) only [setM_ne, setM_hit, true_and, and_true]); omega) (by (try simp (disch := omega) only [setM_ne, setM_hit, true_and, and_true]); omega) (fun h => ?_) (fun h1 h2 => ?_)) <;> (try simp (disch := omega) only [setM_ne, setM_hit, true_and, and_true] at h) <;> (try simp (disch := omega) only [setM_ne, setM_hit, true_and, and_true] at h1) <;> (try simp (disch := omega) only [setM_ne, setM_hit, true_and, and_true] at h2) <;> (try (exfalso; omega))
    | (with_reducible refine wp_isNoDay (fun h => ?_) (fun h1 h2 => ?_)) <;> (try (exfalso; omega))
    | with_reducible refine wp_isThrown1 ?_
    | with_reducible refine wp_isThrown0 ?_
    | (with_reducible refine wp_isThrownI (fun h => ?_) (fun h => ?_)) <;> (try simp (disch := omega) only [setM_ne, setM_hit, true_and, and_true] at h) <;> (try simp only [isIn0] at h) <;> (try (exfalso; omega))
    | with_reducible refine ok_grd (by (try simp (disch := omega) only [setM_ne, setM_hit, true_and, and_true]); (try unfold InR); omega) ?_
    | (with_reducible refine ok_some ?_) <;> (try dsimp only)
    | (with_reducible refine ok_ite (fun h => ?_) (fun h => ?_)) <;> (try dsimp only at h) <;> (try simp (disch := omega) only [setM_ne, setM_hit, true_and, and_true] at h) <;> (try simp only [isIn0, i01] at h) <;> (try (exfalso; first | exact h trivial | omega)))
    (refine agp_er ?_ ?_ ?_); decide; (first | (rw [setM_same]; rfl) | (dsimp only; simp (disch := omega) only [setM_ne, setM_hit, true_and, and_true]; rfl))
    repeat (first | exact I | with_reducible refine Inv_thr ?_ _)
  case pos =>
    have g1 := IT_get I.2.2.1 h1.1 h1.2.1
    have sv := Inv_sv I h1.1 h1.2.1
    refine wp_bind (wp_needCall t3 (fun _ => by omega) (fun _ _ _ _ => ok_tbd_inl ?_))
    -- the reference's head
    have hd : ∀ P : Int × Mem → Prop, Ok (M_onBoard p0 p1 p2 p3 mm) P ↔ Ok (M_onBoard p0 p1 p2 p3 mm) P := fun _ => Iff.rfl
    refine wp_bind (wp_needStop (fun h => ok_tbd_inr ?_) (fun k1 k2 => ok_tbd_inl (wp_bind (wp_needDay (fun h => ok_tbd_inr ?_) (fun k3 k4 => ok_tbd_inl ?_)))))
    · unfold M_onBoard
      refine wp_bq2 (wp_isNoCall (by omega) (by omega) (fun a b => by have := IT_get I.2.2.1 a (by omega); omega) (fun _ => by omega) (fun _ _ _ _ => ?_))
      repeat' (first
    | with_reducible refine ok_ltv ?_
    | with_reducible refine ok_tbd_inl ?_
    | with_reducible refine ok_tbd_inr ?_
    | with_reducible refine wp_bind ?_
    | with_reducible refine wp_bq1 ?_
    | with_reducible refine wp_bq2 ?_
    | (with_reducible refine wp_needNumber (fun _ => ?_) (fun _ _ => ?_)) <;> (try (exfalso; omega))
    | (with_reducible refine wp_needDay (fun _ => ?_) (fun _ _ => ?_)) <;> (try (exfalso; omega))
    | (with_reducible refine wp_needStop (fun _ => ?_) (fun _ _ => ?_)) <;> (try (exfalso; omega))
    | (with_reducible refine wp_needService (fun _ => ?_) (fun _ _ => ?_)) <;> (try (exfalso; omega))
    | (with_reducible refine wp_needTrip (fun _ => ?_) (fun _ _ => ?_)) <;> (try (exfalso; omega))
    | (with_reducible refine wp_needCall (by omega) (fun _ => ?_) (fun _ _ _ _ => ?_)) <;> (try (exfalso; omega))
    | (with_reducible refine wp_needUnlike (fun _ => ?_) (fun _ => ?_)) <;> (try (exfalso; omega))
    | (with_reducible refine wp_needFound (fun _ => ?_) (fun _ => ?_)) <;> (try (exfalso; omega))
    | (with_reducible refine wp_needRoomForTrip (fun _ => ?_) (fun _ => ?_)) <;> (try (exfalso; omega))
    | (with_reducible refine wp_needRoomForSigns (by unfold InR; omega) (fun _ => ?_) (fun _ => ?_)) <;> (try (exfalso; omega))
    | (with_reducible refine wp_isNoStop (by (try simp (disch := omega) only [setM_ne, setM_hit, true_and, and_true]); omega) (by (try simp (disch := omega) only [setM_ne, setM_hit, true_and, and_true]); omega) (fun h => ?_) (fun h1 h2 => ?_)) <;> (try simp (disch := omega) only [setM_ne, setM_hit, true_and, and_true] at h) <;> (try simp (disch := omega) only [setM_ne, setM_hit, true_and, and_true] at h1) <;> (try simp (disch := omega) only [setM_ne, setM_hit, true_and, and_true] at h2) <;> (try (exfalso; omega))
    | (with_reducible refine wp_isNoService (by (try simp (disch := omega) only [setM_ne, setM_hit, true_and, and_true]); omega) (by (try simp (disch := omega) only [setM_ne, setM_hit, true_and, and_true]); omega) (fun h => ?_) (fun h1 h2 => ?_)) <;> (try simp (disch := omega) only [setM_ne, setM_hit, true_and, and_true] at h) <;> (try simp (disch := omega) only [setM_ne, setM_hit, true_and, and_true] at h1) <;> (try simp (disch := omega) only [setM_ne, setM_hit, true_and, and_true] at h2) <;> (try (exfalso; omega))
    | (with_reducible refine wp_isNoTrip (by (try simp (disch := omega) only [setM_ne, setM_hit, true_and, and_true]); omega) (by (try simp (disch := omega) only [setM_ne, setM_hit, true_and, and_true]); omega) (fun h => ?_) (fun h1 h2 => ?_)) <;> (try simp (disch := omega) only [setM_ne, setM_hit, true_and, and_true] at h) <;> (try simp (disch := omega) only [setM_ne, setM_hit, true_and, and_true] at h1) <;> (try simp (disch := omega) only [setM_ne, setM_hit, true_and, and_true] at h2) <;> (try (exfalso; omega))
    | (with_reducible refine wp_isNoDay (fun h => ?_) (fun h1 h2 => ?_)) <;> (try (exfalso; omega))
    | with_reducible refine wp_isThrown1 ?_
    | with_reducible refine wp_isThrown0 ?_
    | (with_reducible refine wp_isThrownI (fun h => ?_) (fun h => ?_)) <;> (try simp (disch := omega) only [setM_ne, setM_hit, true_and, and_true] at h) <;> (try simp only [isIn0] at h) <;> (try (exfalso; omega))
    | with_reducible refine ok_grd (by (try simp (disch := omega) only [setM_ne, setM_hit, true_and, and_true]); (try unfold InR); omega) ?_
    | (with_reducible refine ok_some ?_) <;> (try dsimp only)
    | (with_reducible refine ok_ite (fun h => ?_) (fun h => ?_)) <;> (try dsimp only at h) <;> (try simp (disch := omega) only [setM_ne, setM_hit, true_and, and_true] at h) <;> (try simp only [isIn0, i01] at h) <;> (try (exfalso; first | exact h trivial | omega)))
      (refine agp_er ?_ ?_ ?_); decide; (first | (rw [setM_same]; rfl) | (dsimp only; simp (disch := omega) only [setM_ne, setM_hit, true_and, and_true]; rfl))
      repeat (first | exact I | with_reducible refine Inv_thr ?_ _)
    · unfold M_onBoard
      refine wp_bq2 (wp_isNoCall (by omega) (by omega) (fun a b => by have := IT_get I.2.2.1 a (by omega); omega) (fun _ => by omega) (fun _ _ _ _ => ?_))
      refine ok_ite (fun q => absurd rfl q) (fun _ => ?_)
      refine wp_bq2 (wp_isNoStop (by (try dsimp only); (first | omega | (simp (disch := omega) only [setM_ne, setM_hit, true_and, and_true]; done) | (simp (disch := omega) only [setM_ne, setM_hit, true_and, and_true]; omega))) (by (try dsimp only); (first | omega | (simp (disch := omega) only [setM_ne, setM_hit, true_and, and_true]; done) | (simp (disch := omega) only [setM_ne, setM_hit, true_and, and_true]; omega))) (fun h => by exfalso; dsimp only at h; simp (disch := omega) only [setM_ne, setM_hit, true_and, and_true] at h; omega) (fun _ _ => ?_))
      repeat' (first
    | with_reducible refine ok_ltv ?_
    | with_reducible refine ok_tbd_inl ?_
    | with_reducible refine ok_tbd_inr ?_
    | with_reducible refine wp_bind ?_
    | with_reducible refine wp_bq1 ?_
    | with_reducible refine wp_bq2 ?_
    | (with_reducible refine wp_needNumber (fun _ => ?_) (fun _ _ => ?_)) <;> (try (exfalso; omega))
    | (with_reducible refine wp_needDay (fun _ => ?_) (fun _ _ => ?_)) <;> (try (exfalso; omega))
    | (with_reducible refine wp_needStop (fun _ => ?_) (fun _ _ => ?_)) <;> (try (exfalso; omega))
    | (with_reducible refine wp_needService (fun _ => ?_) (fun _ _ => ?_)) <;> (try (exfalso; omega))
    | (with_reducible refine wp_needTrip (fun _ => ?_) (fun _ _ => ?_)) <;> (try (exfalso; omega))
    | (with_reducible refine wp_needCall (by omega) (fun _ => ?_) (fun _ _ _ _ => ?_)) <;> (try (exfalso; omega))
    | (with_reducible refine wp_needUnlike (fun _ => ?_) (fun _ => ?_)) <;> (try (exfalso; omega))
    | (with_reducible refine wp_needFound (fun _ => ?_) (fun _ => ?_)) <;> (try (exfalso; omega))
    | (with_reducible refine wp_needRoomForTrip (fun _ => ?_) (fun _ => ?_)) <;> (try (exfalso; omega))
    | (with_reducible refine wp_needRoomForSigns (by unfold InR; omega) (fun _ => ?_) (fun _ => ?_)) <;> (try (exfalso; omega))
    | (with_reducible refine wp_isNoStop (by (try simp (disch := omega) only [setM_ne, setM_hit, true_and, and_true]); omega) (by (try simp (disch := omega) only [setM_ne, setM_hit, true_and, and_true]); omega) (fun h => ?_) (fun h1 h2 => ?_)) <;> (try simp (disch := omega) only [setM_ne, setM_hit, true_and, and_true] at h) <;> (try simp (disch := omega) only [setM_ne, setM_hit, true_and, and_true] at h1) <;> (try simp (disch := omega) only [setM_ne, setM_hit, true_and, and_true] at h2) <;> (try (exfalso; omega))
    | (with_reducible refine wp_isNoService (by (try simp (disch := omega) only [setM_ne, setM_hit, true_and, and_true]); omega) (by (try simp (disch := omega) only [setM_ne, setM_hit, true_and, and_true]); omega) (fun h => ?_) (fun h1 h2 => ?_)) <;> (try simp (disch := omega) only [setM_ne, setM_hit, true_and, and_true] at h) <;> (try simp (disch := omega) only [setM_ne, setM_hit, true_and, and_true] at h1) <;> (try simp (disch := omega) only [setM_ne, setM_hit, true_and, and_true] at h2) <;> (try (exfalso; omega))
    | (with_reducible refine wp_isNoTrip (by (try simp (disch := omega) only [setM_ne, setM_hit, true_and, and_true]); omega) (by (try simp (disch := omega) only [setM_ne, setM_hit, true_and, and_true]); omega) (fun h => ?_) (fun h1 h2 => ?_)) <;> (try simp (disch := omega) only [setM_ne, setM_hit, true_and, and_true] at h) <;> (try simp (disch := omega) only [setM_ne, setM_hit, true_and, and_true] at h1) <;> (try simp (disch := omega) only [setM_ne, setM_hit, true_and, and_true] at h2) <;> (try (exfalso; omega))
    | (with_reducible refine wp_isNoDay (fun h => ?_) (fun h1 h2 => ?_)) <;> (try (exfalso; omega))
    | with_reducible refine wp_isThrown1 ?_
    | with_reducible refine wp_isThrown0 ?_
    | (with_reducible refine wp_isThrownI (fun h => ?_) (fun h => ?_)) <;> (try simp (disch := omega) only [setM_ne, setM_hit, true_and, and_true] at h) <;> (try simp only [isIn0] at h) <;> (try (exfalso; omega))
    | with_reducible refine ok_grd (by (try simp (disch := omega) only [setM_ne, setM_hit, true_and, and_true]); (try unfold InR); omega) ?_
    | (with_reducible refine ok_some ?_) <;> (try dsimp only)
    | (with_reducible refine ok_ite (fun h => ?_) (fun h => ?_)) <;> (try dsimp only at h) <;> (try simp (disch := omega) only [setM_ne, setM_hit, true_and, and_true] at h) <;> (try simp only [isIn0, i01] at h) <;> (try (exfalso; first | exact h trivial | omega)))
      (refine agp_er ?_ ?_ ?_); decide; (first | (rw [setM_same]; rfl) | (dsimp only; simp (disch := omega) only [setM_ne, setM_hit, true_and, and_true]; rfl))
      repeat (first | exact I | with_reducible refine Inv_thr ?_ _)
    · -- stop and day are there
      have mside : ∀ P : Int × Mem → Prop, (bit (mc 30 (mc 32 p1.toNat).toNat) p0.toNat = 0 ∨ p2 = mc 33 p1.toNat - 1 → ∀ mm', Inv mc mm' → mm' 0 0 = 3 → P (0, mm')) → (bit (mc 30 (mc 32 p1.toNat).toNat) p0.toNat = 1 → p2 ≠ mc 33 p1.toNat - 1 → ∀ mm', Inv mc mm' → mm' 0 0 = 0 → Ok (ltv (setM mm' 0 22 p0) fun m_5 => (M_nowhere m_5).bind fun m_6 => grd (InR (p2 + 1)) <| ltv (p2 + 1 : Int) fun c_ => bq2 (loop (fun s => M_onBoard_b1 p1 s.1 s.2) (c_, m_6)) fun c_4 m_9 => (M_settle m_9).bind fun m_10 => ltv (fun (v_ : Int) => bq2 (M_isThrown v_ 4 m_10) fun r_8 m_11 => if ¬ r_8 = 0 then some (0, m_11) else (M_at p3 m_11).bind fun r_9 => some (r_9, m_11)) fun kj_ => (M_at p3 m_10).bind fun r_7 => if 1000000 ≤ r_7 then kj_ 1 else kj_ 0) P) → Ok (M_onBoard p0 p1 p2 p3 mm) P := by
        intro P hP1 hP2
        unfold M_onBoard
        refine wp_bq2 (wp_isNoCall (by omega) (by omega) (fun a b => by have := IT_get I.2.2.1 a (by omega); omega) (fun _ => by omega) (fun _ _ _ _ => ?_))
        refine ok_ite (fun q => absurd rfl q) (fun _ => ?_)
        refine wp_bq2 (wp_isNoStop (by (try dsimp only); (first | omega | (simp (disch := omega) only [setM_ne, setM_hit, true_and, and_true]; done) | (simp (disch := omega) only [setM_ne, setM_hit, true_and, and_true]; omega))) (by (try dsimp only); (first | omega | (simp (disch := omega) only [setM_ne, setM_hit, true_and, and_true]; done) | (simp (disch := omega) only [setM_ne, setM_hit, true_and, and_true]; omega))) (fun h => by exfalso; dsimp only at h; simp (disch := omega) only [setM_ne, setM_hit, true_and, and_true] at h; omega) (fun _ _ => ?_))
        refine ok_ite (fun q => absurd rfl q) (fun _ => ?_)
        refine wp_bq2 (wp_isNoDay (fun _ => by omega) (fun _ _ => ?_))
        refine ok_ite (fun q => absurd rfl q) (fun _ => ?_)
        have J : Inv mc (setM (setM (setM mm 0 0 0) 0 0 0) 0 0 0) := by repeat (first | exact I | with_reducible refine Inv_thr ?_ _)
        obtain ⟨m3, hm3⟩ : ∃ m3, m3 = setM (setM (setM mm 0 0 0) 0 0 0) 0 0 0 := ⟨_, rfl⟩
        dsimp only
        rw [← hm3] at J ⊢
        have g1' := IT_get J.2.2.1 h1.1 h1.2.1
        have eb := IV_getd J.2.1 (s := mc 32 p1.toNat) (d := p0) sv.1 sv.2.1 k3 (by omega)
        have z := bit_01 (mc 30 (mc 32 p1.toNat).toNat) p0.toNat
        simp only [g1'.1, eb, g1'.2.2.2.1]
        refine ok_grd (by unfold InR; omega) (wp_bq2 (wp_isThrownI (fun h => ok_ite (fun _ => ok_some (hP1 (by omega) _ (Inv_thr J _) (by dsimp only; exact setM_same _ _ _ _))) (fun q => absurd Int.one_ne_zero q)) (fun h => ok_ite (fun q => absurd rfl q) (fun _ => hP2 (by omega) (by omega) _ (Inv_thr J _) (by dsimp only; exact setM_same _ _ _ _)))))
      refine wp_bind (needRun_ok h1.1 (by omega) sv.1 sv.2.1 sv.2.2 ⟨k3, k4⟩ (fun hb => ok_tbd_inr ?_) (fun hb => ok_tbd_inl (ok_grd (by unfold InR; omega) (ok_ite (fun hl => ok_some ?_) (fun hl => ?_)))))
      · refine mside _ (fun _ mm' J e => ?_) (fun q => by omega)
        exact agp_er (by decide) (by rw [e]; rfl) J
      · refine mside _ (fun _ mm' J e => ?_) (fun _ q => absurd hl q)
        exact agp_er (by decide) (by rw [e]; rfl) J
      · obtain ⟨t, rfl⟩ : ∃ t : Nat, p1 = t := ⟨p1.toNat, by omega⟩
        obtain ⟨c, rfl⟩ : ∃ c : Nat, p2 = c := ⟨p2.toNat, by omega⟩
        obtain ⟨b, rfl⟩ : ∃ b : Nat, p3 = b := ⟨p3.toNat, by omega⟩
        rw [Int.toNat_natCast] at hb hl h1
        obtain ⟨q, hq⟩ : ∃ q : Nat, q = 24 + t := ⟨_, rfl⟩
        have qt : q % 24 = t := by omega
        have q0 : qd q = 0 := by unfold qd; omega
        have hQ : isQ mc p0 q := by
          unfold isQ
          rw [qt, q0]
          exact ⟨by omega, by omega, by omega, by rw [Int.add_zero]; exact hb⟩
        have len := CI_len CI0 hQ.1
        rw [qt] at len
        have hcl : c + 1 < lenQ mc q := by omega
        refine ok_bind (lay_ok (sh := -1) (mi := 0) CI0 ⟨k3, k4⟩ (by omega) (Ctx_self I)) (fun m1 l => ?_)
        have sb := scanOnBoard_ok (m0 := m1) (c := c) CI0 ⟨l.2.1, l.2.2.1, l.2.2.2⟩ (by omega) hQ q0 hcl
        rw [qt] at sb
        refine ok_bind sb (fun m2 s => ok_bind (atC_ok (s := b) (by omega)) (fun v hv => ?_))
        have C2 : Ctx mc p0 (-1) 0 (-1) m2 := FrSc_ctx CI0 ⟨l.2.1, l.2.2.1, l.2.2.2⟩ s.1
        refine ag_found (fun r r1 r2 => ?_) (s := b) (x := 352) (by omega) hv
        refine mside _ (fun q => by exfalso; simp only [Int.toNat_natCast] at q; omega) (fun _ _ mm' J e0 => ok_ltv ?_)
        have rl := relM_set (day := p0) J
        obtain ⟨m5, hm5⟩ : ∃ m5, m5 = setM mm' 0 22 p0 := ⟨_, rfl⟩
        rw [← hm5] at rl ⊢
        refine ok_bind nowhere_ok (fun m6 h6 => ok_grd (by unfold InR; omega) (ok_ltv ?_))
        have rl6 : RelM mc p0 (-1) 0 (-1) m6 := FrG_rel rl (fun c i x y => h6.1 c i x)
        have om := onBoardM_ok (c := c) CI0 ⟨k3, k4⟩ rl6 (by omega) hQ q0 hcl (fun v hv => by have := h6.2 v (by omega); exact ⟨this.2, this.1⟩)
        rw [qt] at om
        refine ok_bq2 om (fun _ m9 h9 => ?_)
        dsimp only at h9
        have rl9 := FrG_rel rl6 h9.1
        have of := ob_facts (c := c) CI0 (by omega : q < 72) hQ q0 (lenQ mc q - (c + 1)) (by omega)
        refine ok_bind (settle_ok CI0 ⟨k3, k4⟩ (by omega) rl9 (und_self h9.2 of.1) (fun v hv => by have := h9.2 v hv; have := of.2 v hv; omega)) (fun m10 h10 => ok_ltv (ok_bind (atM_ok (s := b) (by omega)) (fun w hw => ?_)))
        have ew : w = v := by
          rw [hw, hv]
          exact best_at h10.2.1 s.2 (by omega)
        have fr : ∀ c i, ¬ (c = 15 ∨ c = 16) → ¬ (c = 0 ∧ (i = 22 ∨ i = 25)) → m10 c i = mm' c i := fun c i w1 w2 => by
          rw [h10.1 c i w1 (by omega), h9.1 c i w1 (by omega), h6.1 c i w1, hm5, setM_ne (by omega)]
        have J2 : Inv m2 m10 := Inv_end J C2.1 C2.2.1.1 (fun c i h => fr c i (by unfold pM at h; omega) (by unfold pM at h; omega))
        refine ok_ite (fun hw2 => wp_bq2 (wp_isThrown1 (ok_ite (fun _ => ok_some ?_) (fun q => absurd Int.one_ne_zero q)))) (fun hw2 => wp_bq2 (wp_isThrown0 (ok_ite (fun q => absurd rfl q) (fun _ => ok_bind (atM_ok (s := b) (by omega)) (fun w2 hw3 => ok_some ?_)))))
        · rw [r2 (by omega)]
          (refine agp_er ?_ ?_ ?_); decide; (first | (rw [setM_same]; rfl) | (dsimp only; simp (disch := omega) only [setM_ne, setM_hit, true_and, and_true]; rfl))
          exact Inv_thr J2 _
        · rw [r1 (by omega)]
          (refine agp_ok ?_ ?_ ?_); (first | exact setM_same _ _ _ _ | (focus ((try dsimp only); simp (disch := omega) only [setM_ne, setM_hit, true_and, and_true]; done)) | (focus ((try dsimp only); simp (disch := omega) only [setM_ne, setM_hit, true_and, and_true]; omega)))
          · rw [hw3, ← ew, hw]
            unfold labM
            dsimp only
            rw [setM_ne (by omega), setM_ne (by omega)]
          · exact Inv_thr J2 _
end OB
