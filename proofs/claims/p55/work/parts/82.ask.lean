/-! ===== earliest, wall ===== -/
section EAR
variable {mc mm m0 : Mem} {day sh mi cut : Int}
theorem FrSc_ctx {m : Mem} (I : CI mc) (C : Ctx mc day sh mi cut m0) (f : FrSc m0 m) : Ctx mc day sh mi cut m := Ctx_fr I C (fun c i h => f c i (by unfold cX pC at h; omega))
theorem scan_ok {a : Nat} {t : Int} (I : CI mc) (hm : -60 ≤ mi ∧ mi ≤ 60) (C : Ctx mc day sh mi cut m0) (ha : a < nC mc) (hc : ¬ (a : Int) = cut) (ht : 0 ≤ t ∧ t ≤ 10000) : Ok (C_Search_scan a t m0) (fun m => FrSc m0 m ∧ BestQ mc day sh mi cut (ini (wC mc cut) a t) (labC 352 m) ∧ Rg (nC mc) (labC 352 m)) := by
  have n := CI_n I
  unfold C_Search_scan
  refine ok_bind (beginC_ok (x := 352) I (by omega) (CtL_of I C.1 C.2.1) ha (by omega)) (fun m1 h1 => ?_)
  have f1 : FrSc m0 m1 := fun c i h => h1.1 c i (by omega)
  have C1 := FrSc_ctx I C f1
  have ri := ini_rg (N := nC mc) (w := wC mc cut) (CI_w0 I) ha ht.1 (by omega)
  have rg : Rg (nC mc) (labC 352 m1) := fun v hv => by
    have p := h1.2 v hv
    have q := ri v hv
    omega
  refine ok_bind (readHops_ok I hm C1 (und_ini (CI_w0 I) (by omega) h1.2) rg (fun s hs => ?_) (fun s hs hsc => ?_) ht.1) (fun m2 h2 => ok_some ⟨fun c i h => ?_, h2.2.1, h2.2.2⟩)
  · have p := h1.2 s hs
    have w := CI_w0 (cut := cut) I a s ha hs
    rw [p.1, p.2]
    simp only [ini]
    split
    · omega
    · split <;> omega
  · have p := h1.2 s hs
    have w : wC mc cut a s = 1000000 := fw_cut (CI_TB I) _ _ _ n.2 (by omega) (by omega) (Or.inr hsc)
    rw [p.1, p.2]
    refine ⟨rfl, ?_⟩
    simp only [ini]
    rw [w, if_neg (by omega), if_neg (by omega)]
  · rw [h2.1 c i h]
    exact f1 c i h
theorem Inv_end {m' mm' : Mem} (I : Inv mc mm) (p : Per mc m') (h4 : m' 1 4 = -1) (h : ∀ c i, pM c i → mm' c i = mm c i) : Inv m' mm' := by
  refine Inv_fr I (fun c i q => ?_) h
  by_cases hh : c = 1 ∧ i = 4
  · rw [hh.1, hh.2, h4]
    exact I.1.2.2.2.1.symm
  · exact p c i ⟨q, hh⟩
theorem Ctx_self (I : Inv mc mm) : Per mc mc := fun _ _ _ => rfl
/-- two calls that ask alike -/
theorem ag_ask {exs : List Nat} {f t d z : Int} {rc : Mem → Option ((Int ⊕ Nat) × Mem)} {rm : Mem → Option (Int × Mem)} (I : Inv mc mm) (h2 : 2 ∈ exs ∧ exs.idxOf 2 = 0 ∧ 0 ∈ exs ∧ exs.idxOf 0 = 1) (h : 0 ≤ f → f < mc 1 0 → 0 ≤ t → t < mc 1 0 → 0 ≤ d → d ≤ 27 → 0 ≤ z → z ≤ 1439 → ∀ mm' : Mem, Inv mc mm' → mm' 0 0 = 0 → Ok (rc mc) (fun a => Ok (rm mm') (fun b => AgP okA Inv exs a b))) : Ag okA Inv exs ((C_needWay f t d z mc).bind fun q3 => tbd q3 fun _ m_ => rc m_) (bq2 (M_isAskedWrong f t d z mm) fun r_ m_ => if ¬ r_ = 0 then some (0, m_) else rm m_) := by
  obtain ⟨i1, i2, i3, -⟩ := id I.1
  refine ag_of ?_
  unfold C_needWay M_isAskedWrong
  have er : ∀ (k : Int) (mm' : Mem), Inv mc mm' → k = 1 ∨ k = 2 → mm' 0 0 = k → AgP okA Inv exs ((.inr (if k = 1 then 2 else 0) : Int ⊕ Nat), mc) ((0 : Int), mm') := by
    intro k mm' J hk e
    rcases hk with rfl | rfl
    · exact agp_er h2.1 (by rw [e]; simp [h2.2.1]) J
    · exact agp_er h2.2.2.1 (by rw [e]; simp [h2.2.2.2]) J
  repeat' (first
    | with_reducible refine ok_ltv ?_
    | with_reducible refine ok_tbd_inl ?_
    | with_reducible refine ok_tbd_inr ?_
    | with_reducible refine wp_bind ?_
    | with_reducible refine wp_bq1 ?_
    | with_reducible refine wp_bq2 ?_
    | (with_reducible refine wp_needNumber (fun _ => ?_) (fun _ _ => ?_)) <;> (try (exfalso; omega))
    | (with_reducible refine wp_needDay (fun _ => ?_) (fun _ _ => ?_)) <;> (try (exfalso; omega))
    | (with_reducible refine wp_needStop (fun _ => ?_) (fun _ _ => ?_)) <;> (try (exfalso; omega))
    | (with_reducible refine wp_needService (fun _ => ?_) (fun _ _ => ?_)) <;> (try (exfalso; omega))
    | (with_reducible refine wp_needTrip (fun _ => ?_) (fun _ _ => ?_)) <;> (try (exfalso; omega))
    | (with_reducible refine wp_needCall (by omega) (fun _ => ?_) (fun _ _ _ _ => ?_)) <;> (try (exfalso; omega))
    | (with_reducible refine wp_needUnlike (fun _ => ?_) (fun _ => ?_)) <;> (try (exfalso; omega))
    | (with_reducible refine wp_needFound (fun _ => ?_) (fun _ => ?_)) <;> (try (exfalso; omega))
    | (with_reducible refine wp_needRoomForTrip (fun _ => ?_) (fun _ => ?_)) <;> (try (exfalso; omega))
    | (with_reducible refine wp_needRoomForSigns (by unfold InR; omega) (fun _ => ?_) (fun _ => ?_)) <;> (try (exfalso; omega))
    | (with_reducible refine wp_isNoStop (by (try simp (disch := omega) only [setM_ne, setM_hit, true_and, and_true]); omega) (by (try simp (disch := omega) only [setM_ne, setM_hit, true_and, and_true]); omega) (fun h => ?_) (fun h1 h2 => ?_)) <;> (try simp (disch := omega) only [setM_ne, setM_hit, true_and, and_true] at h) <;> (try simp (disch := omega) only [setM_ne, setM_hit, true_and, and_true] at h1) <;> (try simp (disch := omega) only [setM_ne, setM_hit, true_and, and_true] at h2) <;> (try (exfalso; omega))
    | (with_reducible refine wp_isNoService (by (try simp (disch := omega) only [setM_ne, setM_hit, true_and, and_true]); omega) (by (try simp (disch := omega) only [setM_ne, setM_hit, true_and, and_true]); omega) (fun h => ?_) (fun h1 h2 => ?_)) <;> (try simp (disch := omega) only [setM_ne, setM_hit, true_and, and_true] at h) <;> (try simp (disch := omega) only [setM_ne, setM_hit, true_and, and_true] at h1) <;> (try simp (disch := omega) only [setM_ne, setM_hit, true_and, and_true] at h2) <;> (try (exfalso; omega))
    | (with_reducible refine wp_isNoTrip (by (try simp (disch := omega) only [setM_ne, setM_hit, true_and, and_true]); omega) (by (try simp (disch := omega) only [setM_ne, setM_hit, true_and, and_true]); omega) (fun h => ?_) (fun h1 h2 => ?_)) <;> (try simp (disch := omega) only [setM_ne, setM_hit, true_and, and_true] at h) <;> (try simp (disch := omega) only [setM_ne, setM_hit, true_and, and_true] at h1) <;> (try simp (disch := omega) only [setM_ne, setM_hit, true_and, and_true] at h2) <;> (try (exfalso; omega))
    | (with_reducible refine wp_isNoDay (fun h => ?_) (fun h1 h2 => ?_)) <;> (try (exfalso; omega))
    | with_reducible refine wp_isThrown1 ?_
    | with_reducible refine wp_isThrown0 ?_
    | (with_reducible refine wp_isThrownI (fun h => ?_) (fun h => ?_)) <;> (try simp (disch := omega) only [setM_ne, setM_hit, true_and, and_true] at h) <;> (try simp only [isIn0] at h) <;> (try (exfalso; omega))
    | with_reducible refine ok_grd (by (try simp (disch := omega) only [setM_ne, setM_hit, true_and, and_true]); (try unfold InR); omega) ?_
    | (with_reducible refine ok_some ?_) <;> (try dsimp only)
    | (with_reducible refine ok_ite (fun h => ?_) (fun h => ?_)) <;> (try dsimp only at h) <;> (try simp (disch := omega) only [setM_ne, setM_hit, true_and, and_true] at h) <;> (try simp only [isIn0, i01] at h) <;> (try (exfalso; first | exact h trivial | omega)))
  · exact er 1 _ (by repeat (first | exact I | with_reducible refine Inv_thr ?_ _)) (Or.inl rfl) (setM_same _ _ _ _)
  · exact er 1 _ (by repeat (first | exact I | with_reducible refine Inv_thr ?_ _)) (Or.inl rfl) (setM_same _ _ _ _)
  · exact er 2 _ (by repeat (first | exact I | with_reducible refine Inv_thr ?_ _)) (Or.inr rfl) (setM_same _ _ _ _)
  · exact er 2 _ (by repeat (first | exact I | with_reducible refine Inv_thr ?_ _)) (Or.inr rfl) (setM_same _ _ _ _)
  · have := h (by omega) (by omega) (by omega) (by omega) (by omega) (by omega) (by omega) (by omega) (setM (setM (setM mm 0 0 0) 0 0 0) 0 0 0) (by repeat (first | exact I | with_reducible refine Inv_thr ?_ _)) (setM_same _ _ _ _)
    refine this.mono (fun a q => ?_)
    refine wp_bq2 (wp_bq2 (wp_isNoStop (by omega) (by omega) (fun _ => by omega) (fun _ _ => ok_ite (fun q => absurd rfl q) (fun _ => wp_bq2 (wp_isNoStop (by (try dsimp only); (first | omega | (simp (disch := omega) only [setM_ne, setM_hit, true_and, and_true]; done) | (simp (disch := omega) only [setM_ne, setM_hit, true_and, and_true]; omega))) (by (try dsimp only); (first | omega | (simp (disch := omega) only [setM_ne, setM_hit, true_and, and_true]; done) | (simp (disch := omega) only [setM_ne, setM_hit, true_and, and_true]; omega))) (fun h => by exfalso; dsimp only at h; simp (disch := omega) only [setM_ne, setM_hit, true_and, and_true] at h; omega) (fun _ _ => ok_ite (fun q => absurd rfl q) (fun _ => wp_bq2 (wp_isThrownI (fun h => by exfalso; simp only [isIn0] at h; omega) (fun _ => ok_ite (fun q => absurd rfl q) (fun _ => ok_some (ok_ite (fun q => absurd rfl q) (fun _ => q))))))))))))
/-- both find the same arrival -/
theorem best_at {I0 : Lb} {A B : Lb} {s : Nat} (ha : BestQ mc day sh mi cut I0 A) (hb : BestQ mc day sh mi cut I0 B) (hs : s < nC mc) : min (A.1 s) (A.2 s) = min (B.1 s) (B.2 s) := by
  have := best_uniq ha hb hs
  rw [this.1, this.2]
theorem relM_set (I : Inv mc mm) : RelM mc day (-1) 0 (-1) (setM mm 0 22 day) := RelM_inv I (fun c i h => setM_ne (by unfold pM at h; omega)) (setM_same _ _ _ _)
/-- how each call ends that tells an arrival -/
theorem ag_found {m' : Mem} {v : Int} {P : (Int ⊕ Nat) × Mem → Prop} (h : ∀ r : (Int ⊕ Nat) × Mem, (v < 1000000 → r = (.inl v, m')) → (1000000 ≤ v → r = (.inr 5, m')) → P r) {s : Nat} {x : Nat} (hs : s < 12) (hv : v = min ((labC x m').1 s) ((labC x m').2 s)) : Ok ((C_needFound v m').bind fun q18 => tbd q18 fun _ m_4 => (C_Labels_at x s m_4).bind fun r_2 => some (.inl r_2, m_4)) P := by
  refine wp_bind (wp_needFound (fun h1 => ok_tbd_inr (h _ (fun q => by omega) (fun _ => rfl))) (fun h1 => ok_tbd_inl (ok_bind (atC_ok (x := x) (m0 := m') hs) (fun r hr => ok_some (h _ (fun _ => by rw [hr, ← hv]) (fun q => by omega))))))
def EarR (mc : Mem) (day t : Int) (a b : Nat) (r : (Int ⊕ Nat) × Mem) : Prop := ∃ (m' : Mem) (L : Lb), Per mc m' ∧ m' 1 4 = -1 ∧ BestQ mc day (-1) 0 (-1) (ini (wC mc (-1)) a t) L ∧ (min (L.1 b) (L.2 b) < 1000000 → r = (.inl (min (L.1 b) (L.2 b)), m')) ∧ (1000000 ≤ min (L.1 b) (L.2 b) → r = (.inr 5, m'))
theorem ag_ear {f t d z : Int} {rc : Mem → Option ((Int ⊕ Nat) × Mem)} (I : Inv mc mm) (h : ∀ a b : Nat, f = a → t = b → a < nC mc → b < nC mc → 0 ≤ d → d ≤ 27 → 0 ≤ z → z ≤ 1439 → Ok (rc mc) (EarR mc d z a b)) : Ag okA Inv [2, 0, 5] ((C_needWay f t d z mc).bind fun q3 => tbd q3 fun _ m_ => rc m_) (M_earliest f t d z mm) := by
  refine ag_ask (exs := [2, 0, 5]) (rm := fun m_ => bq2 (M_earliestOf f t d z m_) fun r_2 m_2 => ltv (r_2 : Int) fun time_ => bq2 (M_isThrown (if 1000000 ≤ time_ then 1 else 0) 3 m_2) fun r_3 m_3 => if ¬ r_3 = 0 then some (0, m_3) else some (time_, m_3)) I (by decide) (fun h1 h2 h3 h4 h5 h6 h7 h8 mm' J e0 => ?_)
  have CI0 : CI mc := ⟨_, I⟩
  have n := CI_n CI0
  obtain ⟨a, rfl⟩ : ∃ a : Nat, f = a := ⟨f.toNat, by omega⟩
  obtain ⟨b, rfl⟩ : ∃ b : Nat, t = b := ⟨t.toNat, by omega⟩
  refine (h a b rfl rfl (by omega) (by omega) h5 h6 h7 h8).mono (fun r hr => ?_)
  obtain ⟨m2, L, p2, c2, bL, r1, r2⟩ := hr
  refine ok_bq2 (earliestOf_ok (sh := -1) (mi := 0) (cut := -1) CI0 ⟨h5, h6⟩ (by omega) (relM_set J) (by omega) (by omega) (by omega)) (fun t mm2 e => ?_)
  dsimp only at e
  obtain ⟨e1, e2, e3, e4, e5⟩ := e
  have et : t = min (L.1 b) (L.2 b) := by
    rw [e5]
    exact best_at e3 bL (by omega)
  have J2 : Inv m2 mm2 := Inv_end J p2 c2 (fun c i h => e1 c i (by unfold pM at h; omega) (by unfold pM at h; omega))
  refine ok_ltv (wp_bq2 (wp_isThrownI (fun h => ok_ite (fun _ => ok_some ?_) (fun q => absurd Int.one_ne_zero q)) (fun h => ok_ite (fun q => absurd rfl q) (fun _ => ok_some ?_))))
  · rw [r2 (by omega)]
    (refine agp_er ?_ ?_ ?_); decide; (first | (rw [setM_same]; rfl) | (dsimp only; simp (disch := omega) only [setM_ne, setM_hit, true_and, and_true]; rfl))
    exact Inv_thr J2 _
  · rw [r1 (by omega)]
    (refine agp_ok ?_ ?_ ?_); (first | exact setM_same _ _ _ _ | (focus ((try dsimp only); simp (disch := omega) only [setM_ne, setM_hit, true_and, and_true]; done)) | (focus ((try dsimp only); simp (disch := omega) only [setM_ne, setM_hit, true_and, and_true]; omega)))
    · exact et
    · exact Inv_thr J2 _
theorem st_earliest : ST_earliest Inv := by
  intro mc mm p0 p1 p2 p3 I _ _ _ _
  refine ag_ear (rc := fun m_ => (C_Net_lay p2 (-1) 0 m_).bind fun m_2 => (C_Search_scan p0 p3 m_2).bind fun m_3 => (C_Labels_at 352 p1 m_3).bind fun r_ => (C_needFound r_ m_3).bind fun q18 => tbd q18 fun _ m_4 => (C_Labels_at 352 p1 m_4).bind fun r_2 => some (.inl r_2, m_4)) I (fun a b ea eb ha hb h5 h6 h7 h8 => ?_)
  have CI0 : CI mc := ⟨_, I⟩
  have n := CI_n CI0
  subst ea
  subst eb
  refine ok_bind (lay_ok (sh := -1) (mi := 0) CI0 ⟨h5, h6⟩ (by omega) (Ctx_self I)) (fun m1 l => ?_)
  refine ok_bind (scan_ok (cut := -1) (a := a) (t := p3) CI0 (by omega) ⟨l.2.1, l.2.2.1, l.2.2.2⟩ ha (by omega) (by omega)) (fun m2 s => ?_)
  refine ok_bind (atC_ok (s := b) (by omega)) (fun v hv => ?_)
  have C2 : Ctx mc p2 (-1) 0 (-1) m2 := FrSc_ctx CI0 ⟨l.2.1, l.2.2.1, l.2.2.2⟩ s.1
  refine ag_found (fun r r1 r2 => ?_) (s := b) (x := 352) (by omega) hv
  rw [hv] at r1 r2
  exact ⟨m2, labC 352 m2, C2.1, C2.2.1.1, s.2.1, r1, r2⟩
end EAR
/-! the wall -/
def wS (f : Nat → Int) (z : Int) : Nat → Int
  | 0 => 0
  | k + 1 => if f k < z then jior (wS f z k) (jishl 1 k) else wS f z k
theorem wS_in (f : Nat → Int) (z : Int) : ∀ k, InR (wS f z k) := by
  intro k
  induction k with
  | zero => exact ⟨by show (-2147483648 : Int) ≤ 0; omega, by show (0 : Int) ≤ _; omega⟩
  | succ k ih =>
    simp only [wS]
    split
    · exact InR_of _
    · exact ih
theorem jior_0 {x : Int} (h : InR x) : jior x 0 = x := by
  unfold jior
  have : i32 x ||| i32 0 = i32 x := by
    apply Int32.toBitVec_inj.mp
    rw [Int32.toBitVec_or]
    show _ ||| 0#32 = _
    exact BitVec.or_zero
  rw [this, i32_toInt h]
theorem wS_congr {f g : Nat → Int} {z : Int} : ∀ {k : Nat}, (∀ i, i < k → f i = g i) → wS f z k = wS g z k := by
  intro k
  induction k with
  | zero => intro _; rfl
  | succ k ih =>
    intro h
    simp only [wS]
    rw [h k (by omega), ih (fun i hi => h i (by omega))]
theorem wallC_ok {m : Mem} {z : Int} {n : Nat} (hn : m 1 0 = n) (hn2 : n ≤ 12) : Ok (loop (fun s => C_wall_b1 z m s.1 s.2) (0, 0)) (fun r => r.1 = wS (fun v => min ((labC 352 m).1 v) ((labC 352 m).2 v)) z n) := by
  refine ok_loop (fun s => ∃ k : Nat, s.2 = k ∧ k ≤ n ∧ s.1 = wS (fun v => min ((labC 352 m).1 v) ((labC 352 m).2 v)) z k) (fun s => n - s.2.toNat) ⟨0, rfl, Nat.zero_le _, rfl⟩ ?_
  rintro ⟨x, y⟩ ⟨k, e1, e2, e3⟩
  dsimp only at e1 e3 ⊢
  subst e1
  unfold C_wall_b1
  rw [hn]
  refine ok_ite (fun h => ok_bind (atC_ok (s := k) (by omega)) (fun v hv => ok_ite (fun h2 => ok_ltv (ok_grd (by unfold InR; omega) (ok_ltv (ok_some ⟨⟨k + 1, by dsimp only; omega, by omega, ?_⟩, by dsimp only; omega⟩)))) (fun h2 => ok_grd (by unfold InR; omega) (ok_ltv (ok_some ⟨⟨k + 1, by dsimp only; omega, by omega, ?_⟩, by dsimp only; omega⟩))))) (fun h => ok_some ?_)
  · dsimp only [wS]
    rw [if_pos (by rw [← hv]; exact h2), e3]
  · dsimp only [wS]
    rw [if_neg (by rw [← hv]; exact h2), e3]
  · have : k = n := by omega
    rw [e3, this]
theorem atM_ok {m : Mem} {s : Nat} (hs : s < 12) : Ok (M_at s m) (fun z => z = min ((labM m).1 s) ((labM m).2 s)) := by
  unfold M_at
  rw [Int.toNat_natCast]
  refine ok_grd (by omega) (ok_some ?_)
  unfold labM
  dsimp only
  split <;> omega
theorem wallM_ok {m : Mem} {z : Int} {n : Nat} (hn : m 0 1 = n) (hn2 : n ≤ 12) : Ok (loop (fun s => M_wall_b1 z m s.1 s.2) (0, 0)) (fun r => r.1 = wS (fun v => min ((labM m).1 v) ((labM m).2 v)) z n) := by
  refine ok_loop (fun s => ∃ k : Nat, s.2 = k ∧ k ≤ n ∧ s.1 = wS (fun v => min ((labM m).1 v) ((labM m).2 v)) z k) (fun s => n - s.2.toNat) ⟨0, rfl, Nat.zero_le _, rfl⟩ ?_
  rintro ⟨x, y⟩ ⟨k, e1, e2, e3⟩
  dsimp only at e1 e3 ⊢
  subst e1
  unfold M_wall_b1
  rw [hn]
  refine ok_ite (fun h => ok_ltv (ok_bind (atM_ok (s := k) (by omega)) (fun v hv => ok_ite (fun h2 => ok_ltv (ok_grd (by unfold InR; omega) (ok_ltv (ok_some ⟨⟨k + 1, by dsimp only; omega, by omega, ?_⟩, by dsimp only; omega⟩)))) (fun h2 => ok_ltv (ok_grd (by unfold InR; omega) (ok_ltv (ok_some ⟨⟨k + 1, by dsimp only; omega, by omega, ?_⟩, by dsimp only; omega⟩))))))) (fun h => ok_some ?_)
  · dsimp only [wS]
    rw [if_pos (by rw [← hv]; exact h2), e3]
  · dsimp only [wS]
    rw [if_neg (by rw [← hv]; exact h2), e3, jior_0 (wS_in _ _ _)]
  · have : k = n := by omega
    rw [e3, this]
theorem st_wall : ST_wall Inv := by
  intro mc mm p0 p1 p2 p3 I _ _ _ _
  obtain ⟨i1, i2, i3, -⟩ := id I.1
  have CI0 : CI mc := ⟨_, I⟩
  have n := CI_n CI0
  refine ag_of ?_
  unfold C_wall
  repeat' (first
    | with_reducible refine ok_ltv ?_
    | with_reducible refine ok_tbd_inl ?_
    | with_reducible refine ok_tbd_inr ?_
    | with_reducible refine wp_bind ?_
    | with_reducible refine wp_bq1 ?_
    | with_reducible refine wp_bq2 ?_
    | (with_reducible refine wp_needNumber (fun _ => ?_) (fun _ _ => ?_)) <;> (try (exfalso; omega))
    | (with_reducible refine wp_needDay (fun _ => ?_) (fun _ _ => ?_)) <;> (try (exfalso; omega))
    | (with_reducible refine wp_needStop (fun _ => ?_) (fun _ _ => ?_)) <;> (try (exfalso; omega))
    | (with_reducible refine wp_needService (fun _ => ?_) (fun _ _ => ?_)) <;> (try (exfalso; omega))
    | (with_reducible refine wp_needTrip (fun _ => ?_) (fun _ _ => ?_)) <;> (try (exfalso; omega))
    | (with_reducible refine wp_needCall (by omega) (fun _ => ?_) (fun _ _ _ _ => ?_)) <;> (try (exfalso; omega))
    | (with_reducible refine wp_needUnlike (fun _ => ?_) (fun _ => ?_)) <;> (try (exfalso; omega))
    | (with_reducible refine wp_needFound (fun _ => ?_) (fun _ => ?_)) <;> (try (exfalso; omega))
    | (with_reducible refine wp_needRoomForTrip (fun _ => ?_) (fun _ => ?_)) <;> (try (exfalso; omega))
    | (with_reducible refine wp_needRoomForSigns (by unfold InR; omega) (fun _ => ?_) (fun _ => ?_)) <;> (try (exfalso; omega))
    | (with_reducible refine wp_isNoStop (by (try simp (disch := omega) only [setM_ne, setM_hit, true_and, and_true]); omega) (by (try simp (disch := omega) only [setM_ne, setM_hit, true_and, and_true]); omega) (fun h => ?_) (fun h1 h2 => ?_)) <;> (try simp (disch := omega) only [setM_ne, setM_hit, true_and, and_true] at h) <;> (try simp (disch := omega) only [setM_ne, setM_hit, true_and, and_true] at h1) <;> (try simp (disch := omega) only [setM_ne, setM_hit, true_and, and_true] at h2) <;> (try (exfalso; omega))
    | (with_reducible refine wp_isNoService (by (try simp (disch := omega) only [setM_ne, setM_hit, true_and, and_true]); omega) (by (try simp (disch := omega) only [setM_ne, setM_hit, true_and, and_true]); omega) (fun h => ?_) (fun h1 h2 => ?_)) <;> (try simp (disch := omega) only [setM_ne, setM_hit, true_and, and_true] at h) <;> (try simp (disch := omega) only [setM_ne, setM_hit, true_and, and_true] at h1) <;> (try simp (disch := omega) only [setM_ne, setM_hit, true_and, and_true] at h2) <;> (try (exfalso; omega))
    | (with_reducible refine wp_isNoTrip (by (try simp (disch := omega) only [setM_ne, setM_hit, true_and, and_true]); omega) (by (try simp (disch := omega) only [setM_ne, setM_hit, true_and, and_true]); omega) (fun h => ?_) (fun h1 h2 => ?_)) <;> (try simp (disch := omega) only [setM_ne, setM_hit, true_and, and_true] at h) <;> (try simp (disch := omega) only [setM_ne, setM_hit, true_and, and_true] at h1) <;> (try simp (disch := omega) only [setM_ne, setM_hit, true_and, and_true] at h2) <;> (try (exfalso; omega))
    | (with_reducible refine wp_isNoDay (fun h => ?_) (fun h1 h2 => ?_)) <;> (try (exfalso; omega))
    | with_reducible refine wp_isThrown1 ?_
    | with_reducible refine wp_isThrown0 ?_
    | (with_reducible refine wp_isThrownI (fun h => ?_) (fun h => ?_)) <;> (try simp (disch := omega) only [setM_ne, setM_hit, true_and, and_true] at h) <;> (try simp only [isIn0] at h) <;> (try (exfalso; omega))
    | with_reducible refine ok_grd (by (try simp (disch := omega) only [setM_ne, setM_hit, true_and, and_true]); (try unfold InR); omega) ?_
    | (with_reducible refine ok_some ?_) <;> (try dsimp only)
    | (with_reducible refine ok_ite (fun h => ?_) (fun h => ?_)) <;> (try dsimp only at h) <;> (try simp (disch := omega) only [setM_ne, setM_hit, true_and, and_true] at h) <;> (try simp only [isIn0, i01] at h) <;> (try (exfalso; first | exact h trivial | omega)))
  · unfold M_wall
    repeat' (first
    | with_reducible refine ok_ltv ?_
    | with_reducible refine ok_tbd_inl ?_
    | with_reducible refine ok_tbd_inr ?_
    | with_reducible refine wp_bind ?_
    | with_reducible refine wp_bq1 ?_
    | with_reducible refine wp_bq2 ?_
    | (with_reducible refine wp_needNumber (fun _ => ?_) (fun _ _ => ?_)) <;> (try (exfalso; omega))
    | (with_reducible refine wp_needDay (fun _ => ?_) (fun _ _ => ?_)) <;> (try (exfalso; omega))
    | (with_reducible refine wp_needStop (fun _ => ?_) (fun _ _ => ?_)) <;> (try (exfalso; omega))
    | (with_reducible refine wp_needService (fun _ => ?_) (fun _ _ => ?_)) <;> (try (exfalso; omega))
    | (with_reducible refine wp_needTrip (fun _ => ?_) (fun _ _ => ?_)) <;> (try (exfalso; omega))
    | (with_reducible refine wp_needCall (by omega) (fun _ => ?_) (fun _ _ _ _ => ?_)) <;> (try (exfalso; omega))
    | (with_reducible refine wp_needUnlike (fun _ => ?_) (fun _ => ?_)) <;> (try (exfalso; omega))
    | (with_reducible refine wp_needFound (fun _ => ?_) (fun _ => ?_)) <;> (try (exfalso; omega))
    | (with_reducible refine wp_needRoomForTrip (fun _ => ?_) (fun _ => ?_)) <;> (try (exfalso; omega))
    | (with_reducible refine wp_needRoomForSigns (by unfold InR; omega) (fun _ => ?_) (fun _ => ?_)) <;> (try (exfalso; omega))
    | (with_reducible refine wp_isNoStop (by (try simp (disch := omega) only [setM_ne, setM_hit, true_and, and_true]); omega) (by (try simp (disch := omega) only [setM_ne, setM_hit, true_and, and_true]); omega) (fun h => ?_) (fun h1 h2 => ?_)) <;> (try simp (disch := omega) only [setM_ne, setM_hit, true_and, and_true] at h) <;> (try simp (disch := omega) only [setM_ne, setM_hit, true_and, and_true] at h1) <;> (try simp (disch := omega) only [setM_ne, setM_hit, true_and, and_true] at h2) <;> (try (exfalso; omega))
    | (with_reducible refine wp_isNoService (by (try simp (disch := omega) only [setM_ne, setM_hit, true_and, and_true]); omega) (by (try simp (disch := omega) only [setM_ne, setM_hit, true_and, and_true]); omega) (fun h => ?_) (fun h1 h2 => ?_)) <;> (try simp (disch := omega) only [setM_ne, setM_hit, true_and, and_true] at h) <;> (try simp (disch := omega) only [setM_ne, setM_hit, true_and, and_true] at h1) <;> (try simp (disch := omega) only [setM_ne, setM_hit, true_and, and_true] at h2) <;> (try (exfalso; omega))
    | (with_reducible refine wp_isNoTrip (by (try simp (disch := omega) only [setM_ne, setM_hit, true_and, and_true]); omega) (by (try simp (disch := omega) only [setM_ne, setM_hit, true_and, and_true]); omega) (fun h => ?_) (fun h1 h2 => ?_)) <;> (try simp (disch := omega) only [setM_ne, setM_hit, true_and, and_true] at h) <;> (try simp (disch := omega) only [setM_ne, setM_hit, true_and, and_true] at h1) <;> (try simp (disch := omega) only [setM_ne, setM_hit, true_and, and_true] at h2) <;> (try (exfalso; omega))
    | (with_reducible refine wp_isNoDay (fun h => ?_) (fun h1 h2 => ?_)) <;> (try (exfalso; omega))
    | with_reducible refine wp_isThrown1 ?_
    | with_reducible refine wp_isThrown0 ?_
    | (with_reducible refine wp_isThrownI (fun h => ?_) (fun h => ?_)) <;> (try simp (disch := omega) only [setM_ne, setM_hit, true_and, and_true] at h) <;> (try simp only [isIn0] at h) <;> (try (exfalso; omega))
    | with_reducible refine ok_grd (by (try simp (disch := omega) only [setM_ne, setM_hit, true_and, and_true]); (try unfold InR); omega) ?_
    | (with_reducible refine ok_some ?_) <;> (try dsimp only)
    | (with_reducible refine ok_ite (fun h => ?_) (fun h => ?_)) <;> (try dsimp only at h) <;> (try simp (disch := omega) only [setM_ne, setM_hit, true_and, and_true] at h) <;> (try simp only [isIn0, i01] at h) <;> (try (exfalso; first | exact h trivial | omega)))
    (refine agp_er ?_ ?_ ?_); decide; (first | (rw [setM_same]; rfl) | (dsimp only; simp (disch := omega) only [setM_ne, setM_hit, true_and, and_true]; rfl))
    repeat (first | exact I | with_reducible refine Inv_thr ?_ _)
  · unfold M_wall
    repeat' (first
    | with_reducible refine ok_ltv ?_
    | with_reducible refine ok_tbd_inl ?_
    | with_reducible refine ok_tbd_inr ?_
    | with_reducible refine wp_bind ?_
    | with_reducible refine wp_bq1 ?_
    | with_reducible refine wp_bq2 ?_
    | (with_reducible refine wp_needNumber (fun _ => ?_) (fun _ _ => ?_)) <;> (try (exfalso; omega))
    | (with_reducible refine wp_needDay (fun _ => ?_) (fun _ _ => ?_)) <;> (try (exfalso; omega))
    | (with_reducible refine wp_needStop (fun _ => ?_) (fun _ _ => ?_)) <;> (try (exfalso; omega))
    | (with_reducible refine wp_needService (fun _ => ?_) (fun _ _ => ?_)) <;> (try (exfalso; omega))
    | (with_reducible refine wp_needTrip (fun _ => ?_) (fun _ _ => ?_)) <;> (try (exfalso; omega))
    | (with_reducible refine wp_needCall (by omega) (fun _ => ?_) (fun _ _ _ _ => ?_)) <;> (try (exfalso; omega))
    | (with_reducible refine wp_needUnlike (fun _ => ?_) (fun _ => ?_)) <;> (try (exfalso; omega))
    | (with_reducible refine wp_needFound (fun _ => ?_) (fun _ => ?_)) <;> (try (exfalso; omega))
    | (with_reducible refine wp_needRoomForTrip (fun _ => ?_) (fun _ => ?_)) <;> (try (exfalso; omega))
    | (with_reducible refine wp_needRoomForSigns (by unfold InR; omega) (fun _ => ?_) (fun _ => ?_)) <;> (try (exfalso; omega))
    | (with_reducible refine wp_isNoStop (by (try simp (disch := omega) only [setM_ne, setM_hit, true_and, and_true]); omega) (by (try simp (disch := omega) only [setM_ne, setM_hit, true_and, and_true]); omega) (fun h => ?_) (fun h1 h2 => ?_)) <;> (try simp (disch := omega) only [setM_ne, setM_hit, true_and, and_true] at h) <;> (try simp (disch := omega) only [setM_ne, setM_hit, true_and, and_true] at h1) <;> (try simp (disch := omega) only [setM_ne, setM_hit, true_and, and_true] at h2) <;> (try (exfalso; omega))
    | (with_reducible refine wp_isNoService (by (try simp (disch := omega) only [setM_ne, setM_hit, true_and, and_true]); omega) (by (try simp (disch := omega) only [setM_ne, setM_hit, true_and, and_true]); omega) (fun h => ?_) (fun h1 h2 => ?_)) <;> (try simp (disch := omega) only [setM_ne, setM_hit, true_and, and_true] at h) <;> (try simp (disch := omega) only [setM_ne, setM_hit, true_and, and_true] at h1) <;> (try simp (disch := omega) only [setM_ne, setM_hit, true_and, and_true] at h2) <;> (try (exfalso; omega))
    | (with_reducible refine wp_isNoTrip (by (try simp (disch := omega) only [setM_ne, setM_hit, true_and, and_true]); omega) (by (try simp (disch := omega) only [setM_ne, setM_hit, true_and, and_true]); omega) (fun h => ?_) (fun h1 h2 => ?_)) <;> (try simp (disch := omega) only [setM_ne, setM_hit, true_and, and_true] at h) <;> (try simp (disch := omega) only [setM_ne, setM_hit, true_and, and_true] at h1) <;> (try simp (disch := omega) only [setM_ne, setM_hit, true_and, and_true] at h2) <;> (try (exfalso; omega))
    | (with_reducible refine wp_isNoDay (fun h => ?_) (fun h1 h2 => ?_)) <;> (try (exfalso; omega))
    | with_reducible refine wp_isThrown1 ?_
    | with_reducible refine wp_isThrown0 ?_
    | (with_reducible refine wp_isThrownI (fun h => ?_) (fun h => ?_)) <;> (try simp (disch := omega) only [setM_ne, setM_hit, true_and, and_true] at h) <;> (try simp only [isIn0] at h) <;> (try (exfalso; omega))
    | with_reducible refine ok_grd (by (try simp (disch := omega) only [setM_ne, setM_hit, true_and, and_true]); (try unfold InR); omega) ?_
    | (with_reducible refine ok_some ?_) <;> (try dsimp only)
    | (with_reducible refine ok_ite (fun h => ?_) (fun h => ?_)) <;> (try dsimp only at h) <;> (try simp (disch := omega) only [setM_ne, setM_hit, true_and, and_true] at h) <;> (try simp only [isIn0, i01] at h) <;> (try (exfalso; first | exact h trivial | omega)))
    (refine agp_er ?_ ?_ ?_); decide; (first | (rw [setM_same]; rfl) | (dsimp only; simp (disch := omega) only [setM_ne, setM_hit, true_and, and_true]; rfl))
    repeat (first | exact I | with_reducible refine Inv_thr ?_ _)
  · unfold M_wall
    repeat' (first
    | with_reducible refine ok_ltv ?_
    | with_reducible refine ok_tbd_inl ?_
    | with_reducible refine ok_tbd_inr ?_
    | with_reducible refine wp_bind ?_
    | with_reducible refine wp_bq1 ?_
    | with_reducible refine wp_bq2 ?_
    | (with_reducible refine wp_needNumber (fun _ => ?_) (fun _ _ => ?_)) <;> (try (exfalso; omega))
    | (with_reducible refine wp_needDay (fun _ => ?_) (fun _ _ => ?_)) <;> (try (exfalso; omega))
    | (with_reducible refine wp_needStop (fun _ => ?_) (fun _ _ => ?_)) <;> (try (exfalso; omega))
    | (with_reducible refine wp_needService (fun _ => ?_) (fun _ _ => ?_)) <;> (try (exfalso; omega))
    | (with_reducible refine wp_needTrip (fun _ => ?_) (fun _ _ => ?_)) <;> (try (exfalso; omega))
    | (with_reducible refine wp_needCall (by omega) (fun _ => ?_) (fun _ _ _ _ => ?_)) <;> (try (exfalso; omega))
    | (with_reducible refine wp_needUnlike (fun _ => ?_) (fun _ => ?_)) <;> (try (exfalso; omega))
    | (with_reducible refine wp_needFound (fun _ => ?_) (fun _ => ?_)) <;> (try (exfalso; omega))
    | (with_reducible refine wp_needRoomForTrip (fun _ => ?_) (fun _ => ?_)) <;> (try (exfalso; omega))
    | (with_reducible refine wp_needRoomForSigns (by unfold InR; omega) (fun _ => ?_) (fun _ => ?_)) <;> (try (exfalso; omega))
    | (with_reducible refine wp_isNoStop (by (try simp (disch := omega) only [setM_ne, setM_hit, true_and, and_true]); omega) (by (try simp (disch := omega) only [setM_ne, setM_hit, true_and, and_true]); omega) (fun h => ?_) (fun h1 h2 => ?_)) <;> (try simp (disch := omega) only [setM_ne, setM_hit, true_and, and_true] at h) <;> (try simp (disch := omega) only [setM_ne, setM_hit, true_and, and_true] at h1) <;> (try simp (disch := omega) only [setM_ne, setM_hit, true_and, and_true] at h2) <;> (try (exfalso; omega))
    | (with_reducible refine wp_isNoService (by (try simp (disch := omega) only [setM_ne, setM_hit, true_and, and_true]); omega) (by (try simp (disch := omega) only [setM_ne, setM_hit, true_and, and_true]); omega) (fun h => ?_) (fun h1 h2 => ?_)) <;> (try simp (disch := omega) only [setM_ne, setM_hit, true_and, and_true] at h) <;> (try simp (disch := omega) only [setM_ne, setM_hit, true_and, and_true] at h1) <;> (try simp (disch := omega) only [setM_ne, setM_hit, true_and, and_true] at h2) <;> (try (exfalso; omega))
    | (with_reducible refine wp_isNoTrip (by (try simp (disch := omega) only [setM_ne, setM_hit, true_and, and_true]); omega) (by (try simp (disch := omega) only [setM_ne, setM_hit, true_and, and_true]); omega) (fun h => ?_) (fun h1 h2 => ?_)) <;> (try simp (disch := omega) only [setM_ne, setM_hit, true_and, and_true] at h) <;> (try simp (disch := omega) only [setM_ne, setM_hit, true_and, and_true] at h1) <;> (try simp (disch := omega) only [setM_ne, setM_hit, true_and, and_true] at h2) <;> (try (exfalso; omega))
    | (with_reducible refine wp_isNoDay (fun h => ?_) (fun h1 h2 => ?_)) <;> (try (exfalso; omega))
    | with_reducible refine wp_isThrown1 ?_
    | with_reducible refine wp_isThrown0 ?_
    | (with_reducible refine wp_isThrownI (fun h => ?_) (fun h => ?_)) <;> (try simp (disch := omega) only [setM_ne, setM_hit, true_and, and_true] at h) <;> (try simp only [isIn0] at h) <;> (try (exfalso; omega))
    | with_reducible refine ok_grd (by (try simp (disch := omega) only [setM_ne, setM_hit, true_and, and_true]); (try unfold InR); omega) ?_
    | (with_reducible refine ok_some ?_) <;> (try dsimp only)
    | (with_reducible refine ok_ite (fun h => ?_) (fun h => ?_)) <;> (try dsimp only at h) <;> (try simp (disch := omega) only [setM_ne, setM_hit, true_and, and_true] at h) <;> (try simp only [isIn0, i01] at h) <;> (try (exfalso; first | exact h trivial | omega)))
    (refine agp_er ?_ ?_ ?_); decide; (first | (rw [setM_same]; rfl) | (dsimp only; simp (disch := omega) only [setM_ne, setM_hit, true_and, and_true]; rfl))
    repeat (first | exact I | with_reducible refine Inv_thr ?_ _)
  · unfold M_wall
    repeat' (first
    | with_reducible refine ok_ltv ?_
    | with_reducible refine ok_tbd_inl ?_
    | with_reducible refine ok_tbd_inr ?_
    | with_reducible refine wp_bind ?_
    | with_reducible refine wp_bq1 ?_
    | with_reducible refine wp_bq2 ?_
    | (with_reducible refine wp_needNumber (fun _ => ?_) (fun _ _ => ?_)) <;> (try (exfalso; omega))
    | (with_reducible refine wp_needDay (fun _ => ?_) (fun _ _ => ?_)) <;> (try (exfalso; omega))
    | (with_reducible refine wp_needStop (fun _ => ?_) (fun _ _ => ?_)) <;> (try (exfalso; omega))
    | (with_reducible refine wp_needService (fun _ => ?_) (fun _ _ => ?_)) <;> (try (exfalso; omega))
    | (with_reducible refine wp_needTrip (fun _ => ?_) (fun _ _ => ?_)) <;> (try (exfalso; omega))
    | (with_reducible refine wp_needCall (by omega) (fun _ => ?_) (fun _ _ _ _ => ?_)) <;> (try (exfalso; omega))
    | (with_reducible refine wp_needUnlike (fun _ => ?_) (fun _ => ?_)) <;> (try (exfalso; omega))
    | (with_reducible refine wp_needFound (fun _ => ?_) (fun _ => ?_)) <;> (try (exfalso; omega))
    | (with_reducible refine wp_needRoomForTrip (fun _ => ?_) (fun _ => ?_)) <;> (try (exfalso; omega))
    | (with_reducible refine wp_needRoomForSigns (by unfold InR; omega) (fun _ => ?_) (fun _ => ?_)) <;> (try (exfalso; omega))
    | (with_reducible refine wp_isNoStop (by (try simp (disch := omega) only [setM_ne, setM_hit, true_and, and_true]); omega) (by (try simp (disch := omega) only [setM_ne, setM_hit, true_and, and_true]); omega) (fun h => ?_) (fun h1 h2 => ?_)) <;> (try simp (disch := omega) only [setM_ne, setM_hit, true_and, and_true] at h) <;> (try simp (disch := omega) only [setM_ne, setM_hit, true_and, and_true] at h1) <;> (try simp (disch := omega) only [setM_ne, setM_hit, true_and, and_true] at h2) <;> (try (exfalso; omega))
    | (with_reducible refine wp_isNoService (by (try simp (disch := omega) only [setM_ne, setM_hit, true_and, and_true]); omega) (by (try simp (disch := omega) only [setM_ne, setM_hit, true_and, and_true]); omega) (fun h => ?_) (fun h1 h2 => ?_)) <;> (try simp (disch := omega) only [setM_ne, setM_hit, true_and, and_true] at h) <;> (try simp (disch := omega) only [setM_ne, setM_hit, true_and, and_true] at h1) <;> (try simp (disch := omega) only [setM_ne, setM_hit, true_and, and_true] at h2) <;> (try (exfalso; omega))
    | (with_reducible refine wp_isNoTrip (by (try simp (disch := omega) only [setM_ne, setM_hit, true_and, and_true]); omega) (by (try simp (disch := omega) only [setM_ne, setM_hit, true_and, and_true]); omega) (fun h => ?_) (fun h1 h2 => ?_)) <;> (try simp (disch := omega) only [setM_ne, setM_hit, true_and, and_true] at h) <;> (try simp (disch := omega) only [setM_ne, setM_hit, true_and, and_true] at h1) <;> (try simp (disch := omega) only [setM_ne, setM_hit, true_and, and_true] at h2) <;> (try (exfalso; omega))
    | (with_reducible refine wp_isNoDay (fun h => ?_) (fun h1 h2 => ?_)) <;> (try (exfalso; omega))
    | with_reducible refine wp_isThrown1 ?_
    | with_reducible refine wp_isThrown0 ?_
    | (with_reducible refine wp_isThrownI (fun h => ?_) (fun h => ?_)) <;> (try simp (disch := omega) only [setM_ne, setM_hit, true_and, and_true] at h) <;> (try simp only [isIn0] at h) <;> (try (exfalso; omega))
    | with_reducible refine ok_grd (by (try simp (disch := omega) only [setM_ne, setM_hit, true_and, and_true]); (try unfold InR); omega) ?_
    | (with_reducible refine ok_some ?_) <;> (try dsimp only)
    | (with_reducible refine ok_ite (fun h => ?_) (fun h => ?_)) <;> (try dsimp only at h) <;> (try simp (disch := omega) only [setM_ne, setM_hit, true_and, and_true] at h) <;> (try simp only [isIn0, i01] at h) <;> (try (exfalso; first | exact h trivial | omega)))
    (refine agp_er ?_ ?_ ?_); decide; (first | (rw [setM_same]; rfl) | (dsimp only; simp (disch := omega) only [setM_ne, setM_hit, true_and, and_true]; rfl))
    repeat (first | exact I | with_reducible refine Inv_thr ?_ _)
  · obtain ⟨a, rfl⟩ : ∃ a : Nat, p0 = a := ⟨p0.toNat, by omega⟩
    refine (lay_ok (sh := -1) (mi := 0) CI0 (by omega) (by omega) (Ctx_self I)).mono (fun m1 l => ?_)
    refine ok_bind (scan_ok (cut := -1) (a := a) (t := p2) CI0 (by omega) ⟨l.2.1, l.2.2.1, l.2.2.2⟩ (by omega) (by omega) (by omega)) (fun m2 s => ok_ltv (ok_ltv ?_))
    have C2 : Ctx mc p1 (-1) 0 (-1) m2 := FrSc_ctx CI0 ⟨l.2.1, l.2.2.1, l.2.2.2⟩ s.1
    refine ok_bq2 (wallC_ok (n := nC mc) (CtL_of CI0 C2.1 C2.2.1).1 n.2) (fun sc _ hsc => ok_some ?_)
    unfold M_wall
    have J := Inv_thr (Inv_thr I 0) 0
    refine wp_bq2 (wp_isNoStop (by omega) (by omega) (fun _ => by omega) (fun _ _ => ok_ite (fun q => absurd rfl q) (fun _ => wp_bq2 (wp_isThrownI (fun h => by exfalso; simp only [isIn0] at h; omega) (fun _ => ok_ite (fun q => absurd rfl q) (fun _ => ?_))))))
    refine ok_bq2 (earliestOf_ok (sh := -1) (mi := 0) (cut := -1) CI0 (by omega) (by omega) (relM_set J) (by omega) (by omega) (by omega)) (fun t mm2 e => ok_ltv (ok_ltv (ok_ltv ?_)))
    dsimp only at e
    obtain ⟨e1, e2, e3, e4, e5⟩ := e
    have J2 : Inv m2 mm2 := Inv_end J C2.1 C2.2.1.1 (fun c i h => e1 c i (by unfold pM at h; omega) (by unfold pM at h; omega))
    have en : mm2 0 1 = nC mc := by
      rw [e1 0 1 (by omega) (by omega)]
      (try dsimp only); (first | omega | (simp (disch := omega) only [setM_ne, setM_hit, true_and, and_true]; done) | (simp (disch := omega) only [setM_ne, setM_hit, true_and, and_true]; omega))
    refine ok_bq2 (wallM_ok (n := nC mc) en n.2) (fun sm _ hsm => ok_some ?_)
    refine agp_ok ?_ ?_ J2
    · rw [e1 0 0 (by omega) (by omega)]
      exact setM_same _ _ _ _
    · dsimp only at hsc hsm
      rw [hsc, hsm]
      exact wS_congr (fun i hi => best_at e3 s.2.1 hi)
