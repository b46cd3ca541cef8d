/-! ===== P55: what each call answers, told by the reference ===== -/
def GS (A m : Mem) : Prop := ∃ mm, Inv m mm ∧ LG mm A ∧ ArA A m
def hiS (m m' : Mem) : Prop := ∀ c i, 455 ≤ c → m' c i = m c i
def KeepT (mm mm' : Mem) : Prop := ∀ c i, tM c i → mm' c i = mm c i
/-- the labels by the number of rides -/
def RwA (A : Mem) (I : Lb) (k : Nat) (L : Lb) : Prop := Rw (nA A) (A 456) (wA A) (RdA A) I k L
def SeA (A : Mem) (a : Nat) (z : Int) (F : Nat → Lb) (T : Nat) : Prop := 1 ≤ T ∧ T ≤ 14 ∧ (∀ k, RwA A (ini (wA A) a z) k (F k)) ∧ (∀ k, T - 1 ≤ k → F k = F (T - 1)) ∧ BestA A (ini (wA A) a z) (F (T - 1)) ∧ (∀ k b, b < nA A → aR (F (k + 1)) b ≤ aR (F k) b ∧ aR (F k) b ≤ 1000000 ∧ 0 ≤ aR (F k) b)
section OPS
variable {m mm A : Mem} {a b : Nat} {z : Int}
theorem hiS_ar {m' : Mem} (h : ArA A m) (f : hiS m m') : ArA A m' := fun c i q => by rw [f c i (by omega)]; exact h c i q
theorem p_of {exs : List Nat} {rc : Option ((Int ⊕ Nat) × Mem)} {rm : Option (Int × Mem)} {P : Int × Mem → Prop} (h : Ag okA Inv exs rc rm) (hm : Ok rm P) : Ok (rc.bind fun r => grd (∀ x, r.1 = .inr x → x ∈ exs) <| some (hres exs r, putM 0 455 m r.2)) (fun x => hiS m x.2 ∧ ∃ r, P r ∧ Inv x.2 r.2 ∧ (r.2 0 0 = 0 → x.1 = r.1) ∧ (r.2 0 0 ≠ 0 → x.1 = -900000 - r.2 0 0)) := by
  obtain ⟨rc', rm', e1, e2, J, h1, h2⟩ := h
  obtain ⟨r, e3, hP⟩ := hm
  have er : rm' = r := Option.some.inj (e2.symm.trans e3)
  subst er
  rw [e1]
  show Ok (grd (∀ x, rc'.1 = .inr x → x ∈ exs) <| some (hres exs rc', putM 0 455 m rc'.2)) _
  refine ok_grd (fun x hx => (h2 x hx).1) (ok_some ⟨fun c i hc => ?_, rm', hP, InvC_Inv rc'.2 _ rm'.2 _ (fun c hc i => ?_) (fun _ _ _ => rfl) J, ?_, ?_⟩)
  · unfold putM
    dsimp only
    rw [if_neg (by omega)]
  · unfold putM
    dsimp only
    rw [if_pos ⟨by omega, by omega⟩, Nat.sub_zero]
  · intro h0
    obtain ⟨v | x, m1⟩ := rc'
    · exact (h1 v rfl).2.1.symm
    · have := (h2 x rfl).2
      omega
  · intro h0
    obtain ⟨v | x, m1⟩ := rc'
    · exact absurd (h1 v rfl).1 h0
    · have := (h2 x rfl).2
      show -900001 - ((exs.idxOf x : Nat) : Int) = _
      omega
theorem p_ofB {exs : List Nat} {rc : Option ((Int ⊕ Nat) × Mem)} {rm : Option (Int × Mem)} {P : Int × Mem → Prop} (h : Ag okA Inv exs rc rm) (hm : Ok rm P) : Ok (rc.bind fun r => grd (∀ x, r.1 = .inr x → x ∈ exs) <| some (hresB exs r, putM 0 455 m r.2)) (fun x => hiS m x.2 ∧ ∃ r, P r ∧ Inv x.2 r.2 ∧ (r.2 0 0 = 0 → x.1 = if r.1 = 0 then 0 else 1)) := by
  obtain ⟨rc', rm', e1, e2, J, h1, h2⟩ := h
  obtain ⟨r, e3, hP⟩ := hm
  have er : rm' = r := Option.some.inj (e2.symm.trans e3)
  subst er
  rw [e1]
  show Ok (grd (∀ x, rc'.1 = .inr x → x ∈ exs) <| some (hresB exs rc', putM 0 455 m rc'.2)) _
  refine ok_grd (fun x hx => (h2 x hx).1) (ok_some ⟨fun c i hc => ?_, rm', hP, InvC_Inv rc'.2 _ rm'.2 _ (fun c hc i => ?_) (fun _ _ _ => rfl) J, ?_⟩)
  · unfold putM
    dsimp only
    rw [if_neg (by omega)]
  · unfold putM
    dsimp only
    rw [if_pos ⟨by omega, by omega⟩, Nat.sub_zero]
  · intro h0
    obtain ⟨v | x, m1⟩ := rc'
    · show (if v = 0 then (0 : Int) else 1) = _
      rw [(h1 v rfl).2.1]
    · have := (h2 x rfl).2
      omega
theorem mask_ok {t : Nat} {d : Int} (I : Inv m mm) (ha : a < nC m) (hb : b < nC m) (hd : 0 ≤ d ∧ d ≤ 27) (hz : 0 ≤ z ∧ z ≤ 1439) : Ok (M_isAskedWrong a b d z mm) (fun r => r.1 = 0 ∧ r.2 0 0 = 0 ∧ Inv m r.2 ∧ ∀ c i, ¬ (c = 0 ∧ i = 0) → r.2 c i = mm c i) := by
  obtain ⟨i1, i2, i3, -⟩ := id I.1
  have n := CI_n ⟨_, I⟩
  unfold M_isAskedWrong
  refine wp_bq2 (wp_isNoStop (by omega) (by omega) (fun _ => by exfalso; omega) (fun _ _ => ok_ite (fun q => absurd rfl q) (fun _ => wp_bq2 (wp_isNoStop (by (try dsimp only); (first | omega | (simp (disch := omega) only [setM_ne, setM_hit, true_and, and_true]; done) | (simp (disch := omega) only [setM_ne, setM_hit, true_and, and_true]; omega))) (by (try dsimp only); (first | omega | (simp (disch := omega) only [setM_ne, setM_hit, true_and, and_true]; done) | (simp (disch := omega) only [setM_ne, setM_hit, true_and, and_true]; omega))) (fun h => by exfalso; dsimp only at h; simp (disch := omega) only [setM_ne, setM_hit, true_and, and_true] at h; omega) (fun _ _ => ok_ite (fun q => absurd rfl q) (fun _ => wp_bq2 (wp_isThrownI (fun h => by exfalso; simp only [isIn0] at h; omega) (fun _ => ok_ite (fun q => absurd rfl q) (fun _ => ok_some ⟨rfl, (by dsimp only; exact setM_same _ _ _ _), ?_, fun c i h => ?_⟩)))))))))
  · dsimp only
    exact Inv_thr (Inv_thr (Inv_thr I _) _) _
  · dsimp only
    rw [setM_ne h, setM_ne h, setM_ne h]
theorem mEar_ok (I : Inv m mm) (ha : a < nC m) (hb : b < nC m) (hz : 0 ≤ z ∧ z ≤ 1439) : Ok (M_earliest a b 10 z mm) (fun r => KeepT mm r.2 ∧ ∃ L, BestQ m 10 (-1) 0 (-1) (ini (wC m (-1)) a z) L ∧ (aR L b < 1000000 → r.2 0 0 = 0 ∧ r.1 = aR L b) ∧ (1000000 ≤ aR L b → r.2 0 0 = 3)) := by
  unfold M_earliest
  refine ok_bq2 (mask_ok (t := 0) I ha hb (by omega) hz) (fun r0 m0 h0 => ok_ite (fun q => absurd h0.1 q) (fun _ => ?_))
  dsimp only at h0
  obtain ⟨-, e0, J, f0⟩ := h0
  refine ok_bq2 (earliestOf_ok (sh := -1) (mi := 0) (cut := -1) ⟨_, I⟩ (by omega) (by omega) (relM_set J) ha hb (by omega)) (fun t m2 e => ok_ltv ?_)
  dsimp only at e
  obtain ⟨e1, e2, e3, e4, e5⟩ := e
  have et : t = aR (labM m2) b := e5
  have ef : ∀ v : Int, KeepT mm (setM m2 0 0 v) := fun v c i h => by
    unfold tM at h
    rw [setM_ne (by omega), e1 c i (by omega) (by omega), f0 c i (by omega)]
  refine wp_bq2 (wp_isThrownI (fun h => ok_ite (fun _ => ok_some ⟨ef _, labM m2, e3, fun q => by omega, fun _ => (by dsimp only; exact setM_same _ _ _ _)⟩) (fun q => absurd Int.one_ne_zero q)) (fun h => ok_ite (fun q => absurd rfl q) (fun _ => ok_some ⟨ef _, labM m2, e3, fun _ => ⟨(by dsimp only; exact setM_same _ _ _ _), et⟩, fun q => by omega⟩)))
def EarP (A m : Mem) (a b : Nat) (z : Int) (x : Int × Mem) : Prop := GS A x.2 ∧ hiS m x.2 ∧ ∃ L, BestA A (ini (wA A) a z) L ∧ (aR L b < 1000000 → x.1 = aR L b) ∧ (1000000 ≤ aR L b → x.1 = -900003)
theorem ear_of (t : AT A) (I : Inv m mm) (g : LG mm A) (hA : ArA A m) (ha : a < nA A) {rc : Option ((Int ⊕ Nat) × Mem)} {rm : Option (Int × Mem)} (h : Ag okA Inv [2, 0, 5] rc rm) (hm : Ok rm (fun r => KeepT mm r.2 ∧ ∃ L, BestQ m 10 (-1) 0 (-1) (ini (wC m (-1)) a z) L ∧ (aR L b < 1000000 → r.2 0 0 = 0 ∧ r.1 = aR L b) ∧ (1000000 ≤ aR L b → r.2 0 0 = 3))) : Ok (rc.bind fun r => grd (∀ x, r.1 = .inr x → x ∈ ([2, 0, 5] : List Nat)) <| some (hres [2, 0, 5] r, putM 0 455 m r.2)) (EarP A m a b z) := by
  refine (p_of h hm).mono (fun x hx => ?_)
  obtain ⟨hi, r, ⟨kt, L, bL, r1, r2⟩, J, x1, x2⟩ := hx
  refine ⟨⟨r.2, J, LG_fr g kt, hiS_ar hA hi⟩, hi, L, (best_tr I g t ha).mp bL, fun q => ?_, fun q => ?_⟩
  · have := r1 q
    rw [x1 this.1, this.2]
  · have := r2 q
    rw [x2 (by omega), this]
    rfl
theorem pEar (t : AT A) (g : GS A m) (ha : a < nA A) (hb : b < nA A) (hz : 0 ≤ z ∧ z ≤ 1439) : Ok (P_earliest a b 10 z m) (EarP A m a b z) := by
  obtain ⟨mm, I, g, hA⟩ := g
  have n := n_tr I g.1
  have n6 := t.1
  exact ear_of t I g hA ha (st_earliest _ _ _ _ _ _ I ⟨by omega, by omega⟩ ⟨by omega, by omega⟩ ⟨by omega, by omega⟩ ⟨by omega, by omega⟩) (mEar_ok I (by omega) (by omega) hz)
theorem pEarQ (t : AT A) (g : GS A m) (ha : a < nA A) (hb : b < nA A) (hz : 0 ≤ z ∧ z ≤ 1439) : Ok (P_earliestByQueue a b 10 z m) (EarP A m a b z) := by
  obtain ⟨mm, I, g, hA⟩ := g
  have n := n_tr I g.1
  have n6 := t.1
  exact ear_of t I g hA ha (st_earliestByQueue _ _ _ _ _ _ I ⟨by omega, by omega⟩ ⟨by omega, by omega⟩ ⟨by omega, by omega⟩ ⟨by omega, by omega⟩) (by unfold M_earliestByQueue; exact ok_bq2 (mEar_ok I (by omega) (by omega) hz) (fun _ _ h => ok_some h))
theorem pEarR (t : AT A) (g : GS A m) (ha : a < nA A) (hb : b < nA A) (hz : 0 ≤ z ∧ z ≤ 1439) : Ok (P_earliestByRounds a b 10 z m) (EarP A m a b z) := by
  obtain ⟨mm, I, g, hA⟩ := g
  have n := n_tr I g.1
  have n6 := t.1
  exact ear_of t I g hA ha (st_earliestByRounds _ _ _ _ _ _ I ⟨by omega, by omega⟩ ⟨by omega, by omega⟩ ⟨by omega, by omega⟩ ⟨by omega, by omega⟩) (by unfold M_earliestByRounds; exact ok_bq2 (mEar_ok I (by omega) (by omega) hz) (fun _ _ h => ok_some h))
theorem pEarP (t : AT A) (g : GS A m) (ha : a < nA A) (hb : b < nA A) (hz : 0 ≤ z ∧ z ≤ 1439) : Ok (P_byPairs a b 10 z m) (EarP A m a b z) := by
  obtain ⟨mm, I, g, hA⟩ := g
  have n := n_tr I g.1
  have n6 := t.1
  exact ear_of t I g hA ha (st_byPairs _ _ _ _ _ _ I ⟨by omega, by omega⟩ ⟨by omega, by omega⟩ ⟨by omega, by omega⟩ ⟨by omega, by omega⟩) (by unfold M_byPairs; exact ok_bq2 (mEar_ok I (by omega) (by omega) hz) (fun _ _ h => ok_some h))
theorem pWall {y : Int} (t : AT A) (g : GS A m) (ha : a < nA A) (hz : 0 ≤ z ∧ z ≤ 1439) (hy : 0 ≤ y ∧ y ≤ 4319) : Ok (P_wall a 10 z y m) (fun x => GS A x.2 ∧ hiS m x.2 ∧ ∃ L, BestA A (ini (wA A) a z) L ∧ x.1 = wS (aR L) y (nA A)) := by
  obtain ⟨mm, I, g, hA⟩ := g
  have n := n_tr I g.1
  have n6 := t.1
  have cn := CI_n ⟨_, I⟩
  obtain ⟨i1, i2, i3, -⟩ := id I.1
  have hm : Ok (M_wall a 10 z y mm) (fun r => KeepT mm r.2 ∧ r.2 0 0 = 0 ∧ ∃ L, BestQ m 10 (-1) 0 (-1) (ini (wC m (-1)) a z) L ∧ r.1 = wS (aR L) y (nA A)) := by
    unfold M_wall
    refine wp_bq2 (wp_isNoStop (by omega) (by omega) (fun _ => by exfalso; omega) (fun _ _ => ok_ite (fun q => absurd rfl q) (fun _ => wp_bq2 (wp_isThrownI (fun h => by exfalso; simp only [isIn0] at h; omega) (fun _ => ok_ite (fun q => absurd rfl q) (fun _ => ?_))))))
    dsimp only
    have J : Inv m (setM (setM mm 0 0 0) 0 0 0) := Inv_thr (Inv_thr I _) _
    refine ok_bq2 (earliestOf_ok (sh := -1) (mi := 0) (cut := -1) ⟨_, I⟩ (by omega) (by omega) (relM_set J) (by omega) (by omega) (by omega)) (fun t m2 e => ok_ltv (ok_ltv (ok_ltv ?_)))
    dsimp only at e
    obtain ⟨e1, e2, e3, e4, e5⟩ := e
    have e01 : m2 0 1 = (nA A : Nat) := by
      rw [e1 0 1 (by omega) (by omega), setM_ne (by omega), setM_ne (by omega), g.1.1]
    refine ok_bq2 (wallM_ok (z := y) (n := nA A) e01 (by omega)) (fun s v hs => ok_some ⟨fun c i h => ?_, ?_, labM m2, e3, hs⟩)
    · unfold tM at h
      dsimp only
      rw [e1 c i (by omega) (by omega), setM_ne (by omega), setM_ne (by omega)]
    · dsimp only
      rw [e1 0 0 (by omega) (by omega), setM_same]
  refine (p_of (st_wall _ _ _ _ _ _ I ⟨by omega, by omega⟩ ⟨by omega, by omega⟩ ⟨by omega, by omega⟩ ⟨by omega, by omega⟩) hm).mono (fun x hx => ?_)
  obtain ⟨hi, r, ⟨kt, e0, L, bL, r1⟩, J, x1, x2⟩ := hx
  exact ⟨⟨r.2, J, LG_fr g kt, hiS_ar hA hi⟩, hi, L, (best_tr I g t ha).mp bL, by rw [x1 e0, r1]⟩
/-! ### rounds -/
theorem rnd_net {N : Nat} {g g' : Nat → Int} {w w' : Nat → Nat → Int} {Rd Rd' : RdT} {B L : Lb} (hg : ∀ s, s < N → g s = g' s) (hw : ∀ a b, a < N → b < N → w a b = w' a b) (hR : ∀ s t s' t', Rd s t s' t' ↔ Rd' s t s' t') (hN : ∀ s t s' t', Rd s t s' t' → s < N ∧ s' < N) (h : Rnd N g w Rd B L) : Rnd N g' w' Rd' B L := by
  have cn : ∀ s t s' t', Rd s t s' t' → (can g B s t ↔ can g' B s t) := fun s t s' t' r => by
    unfold can
    rw [hg s (hN _ _ _ _ r).1]
  obtain ⟨⟨h1, h2, h3⟩, h4⟩ := h
  refine ⟨⟨h1, fun s v hs hv hsv => by rw [← hw s v hs hv]; exact h2 s v hs hv hsv, fun L' l1 l2 l3 => h3 L' l1 (fun s v hs hv hsv => by rw [hw s v hs hv]; exact l2 s v hs hv hsv) (fun s t s' t' r c => l3 s t s' t' ((hR _ _ _ _).mp r) ((cn _ _ _ _ r).mp c))⟩, fun s t s' t' r c => ?_⟩
  have r' := (hR _ _ _ _).mpr r
  exact h4 s t s' t' r' ((cn _ _ _ _ r').mpr c)
theorem rw_net {N : Nat} {g g' : Nat → Int} {w w' : Nat → Nat → Int} {Rd Rd' : RdT} {I0 I' : Lb} (hg : ∀ s, s < N → g s = g' s) (hw : ∀ a b, a < N → b < N → w a b = w' a b) (hR : ∀ s t s' t', Rd s t s' t' ↔ Rd' s t s' t') (hN : ∀ s t s' t', Rd s t s' t' → s < N ∧ s' < N) (hI : eqL N I0 I') : ∀ {k : Nat} {L : Lb}, Rw N g w Rd I0 k L → Rw N g' w' Rd' I' k L := by
  intro k
  induction k with
  | zero => intro L h s hs; have := h s hs; have := hI s hs; omega
  | succ k ih =>
    rintro L ⟨B, h1, h2⟩
    exact ⟨B, ih h1, rnd_net hg hw hR hN h2⟩
theorem rw_tr (I : Inv m mm) (g : LG mm A) (t : AT A) (ha : a < nA A) {k : Nat} {L : Lb} (h : RwQ m 10 (-1) 0 (ini (wC m (-1)) a z) k L) : RwA A (ini (wA A) a z) k L := by
  unfold RwQ at h
  unfold RwA
  rw [n_tr I g.1] at h
  exact rw_net (g_tr I g.1) (w_tr I g) (rd_tr I g.1 t) (fun _ _ _ _ r => by have := rdA_st t ((rd_tr I g.1 t _ _ _ _).mp r); exact ⟨this.1, this.2.1⟩) (ini_congr (fun v hv => w_tr I g a v ha hv)) h
theorem rdA_N (t : AT A) : ∀ s x s' x', RdA A s x s' x' → s < nA A ∧ s' < nA A := fun _ _ _ _ r => by have := rdA_st t r; exact ⟨this.1, this.2.1⟩
theorem se_of (I : Inv m mm) (g : LG mm A) (t : AT A) (ha : a < nA A) (hz : 0 ≤ z ∧ z ≤ 10000) {m2 : Mem} {T : Nat} (h : RoM m 10 (-1) 0 (ini (wC m (-1)) a z) m2 T) : SeA A a z (exM m2 T) T := by
  have CI0 : CI m := ⟨_, I⟩
  have n := n_tr I g.1
  have n6 := t.1
  have h0 := id h
  obtain ⟨h1, h2, h3, h4, h5⟩ := h0
  have e9 : ∀ k, T - 1 ≤ k → exM m2 T k = exM m2 T (T - 1) := fun k hk => by
    unfold exM
    rw [Nat.min_eq_right hk, Nat.min_self]
  refine ⟨h2, h3, fun k => rw_tr I g t ha (exM_rw CI0 h k), e9, ?_, fun k b hb => ?_⟩
  · refine (best_tr I g t ha).mp ?_
    have e1 : exM m2 T (T - 1) = rowM m2 (T - 1) := by unfold exM; rw [Nat.min_self]
    rw [e1]
    exact rw_best (und_ini (g := m 2) (Rd := RdQ m 10 (-1) 0 (-1)) (CI_w0 CI0) (by omega) eqL_rfl).2.1 (RdQ_N CI0) (h4 (T - 1) (by omega)).1 h5
  · have rg := exM_rg h k b (by omega)
    have mo := exM_mono CI0 h k (b := b) (by omega)
    refine ⟨mo, ?_, ?_⟩ <;> (unfold aR; omega)
theorem se_uniq (t : AT A) {F F' : Nat → Lb} {T T' : Nat} (h : SeA A a z F T) (h' : SeA A a z F' T') (k : Nat) (hb : b < nA A) : aR (F k) b = aR (F' k) b := by
  have := rw_uniq (rdA_N t) (h.2.2.1 k) (h'.2.2.1 k) b hb
  unfold aR
  rw [this.1, this.2]
theorem best_uq {I0 L B : Lb} (h : BestA A I0 L) (h' : BestA A I0 B) (hb : b < nA A) : aR L b = aR B b := by
  have := best_uniq h h' hb
  unfold aR
  rw [this.1, this.2]
theorem mTell_ok (I : Inv m mm) (ha : a < nC m) (hz : 0 ≤ z ∧ z ≤ 10000) : Ok (M_tellRounds a 10 z mm) (fun m2 => FrT mm m2 ∧ m2 0 22 = 10 ∧ ∃ T : Nat, RoM m 10 (-1) 0 (ini (wC m (-1)) a z) m2 T) := tellRounds_ok (sh := -1) (mi := 0) ⟨_, I⟩ (by omega) (by omega) (relM_set I) ha hz
theorem pChoices (t : AT A) (g : GS A m) (ha : a < nA A) (hb : b < nA A) (hz : 0 ≤ z ∧ z ≤ 1439) : Ok (P_choices a b 10 z m) (fun x => GS A x.2 ∧ hiS m x.2 ∧ ∃ F T, SeA A a z F T ∧ x.1 = (chN (fun k => aR (F k) b) T : Nat)) := by
  obtain ⟨mm, I, g, hA⟩ := g
  have n := n_tr I g.1
  have n6 := t.1
  have hm : Ok (M_choices a b 10 z mm) (fun r => KeepT mm r.2 ∧ r.2 0 0 = 0 ∧ ∃ F T, SeA A a z F T ∧ r.1 = (chN (fun k => aR (F k) b) T : Nat)) := by
    unfold M_choices
    refine ok_bq2 (mask_ok (t := 0) I (by omega) (by omega) (by omega) hz) (fun r0 m0 h0 => ok_ite (fun q => absurd h0.1 q) (fun _ => ?_))
    dsimp only at h0
    obtain ⟨-, e0, J, f0⟩ := h0
    refine ok_bind (mTell_ok (z := z) J (by omega) (by omega)) (fun m2 e => ?_)
    obtain ⟨e1, e2, T, ro⟩ := e
    refine ok_bq2 (choicesM_ok (b := b) ⟨_, I⟩ ro (by omega)) (fun cm m3 h3 => ok_some ⟨fun c i h => ?_, ?_, exM m2 T, T, se_of I g t ha (by omega) ro, h3.1⟩)
    · unfold tM at h
      dsimp only
      dsimp only at h3
      rw [h3.2.1 c i (by omega), e1 c i (by omega) (by omega), f0 c i (by omega)]
    · dsimp only
      dsimp only at h3
      rw [h3.2.1 0 0 (by omega), e1 0 0 (by omega) (by omega), e0]
  refine (p_of (st_choices _ _ _ _ _ _ I ⟨by omega, by omega⟩ ⟨by omega, by omega⟩ ⟨by omega, by omega⟩ ⟨by omega, by omega⟩) hm).mono (fun x hx => ?_)
  obtain ⟨hi, r, ⟨kt, e0, F, T, se, r1⟩, J, x1, x2⟩ := hx
  exact ⟨⟨r.2, J, LG_fr g kt, hiS_ar hA hi⟩, hi, F, T, se, by rw [x1 e0, r1]⟩
theorem pChoice {idx : Int} (t : AT A) (g : GS A m) (ha : a < nA A) (hb : b < nA A) (hz : 0 ≤ z ∧ z ≤ 1439) (h0 : 0 ≤ idx) (hN : ∀ F T, SeA A a z F T → idx < (chN (fun k => aR (F k) b) T : Nat)) : Ok (P_choice a b 10 z idx m) (fun x => GS A x.2 ∧ hiS m x.2 ∧ ∃ F T k0, SeA A a z F T ∧ k0 < T ∧ isCh (fun k => aR (F k) b) k0 ∧ (chN (fun k => aR (F k) b) k0 : Nat) = idx ∧ x.1 = 5000 * (k0 : Int) + aR (F k0) b) := by
  obtain ⟨mm, I, g, hA⟩ := g
  have n := n_tr I g.1
  have n6 := t.1
  obtain ⟨m9, e9⟩ : ∃ m9, M_tellRounds a 10 z mm = some m9 := by
    obtain ⟨m9, e, -⟩ := mTell_ok (z := z) I (a := a) (by omega) (by omega)
    exact ⟨m9, e⟩
  have hi14 : idx ≤ 14 := by
    have := ok_eq (mTell_ok (z := z) I (a := a) (by omega) (by omega)) e9
    obtain ⟨-, -, T, ro⟩ := this
    have se := se_of I g t ha (by omega) ro
    have := hN _ _ se
    have := chN_le (f := fun k => aR (exM m9 T k) b) T
    have := se.2.1
    omega
  have hm : Ok (M_choice a b 10 z idx mm) (fun r => KeepT mm r.2 ∧ r.2 0 0 = 0 ∧ ∃ F T k0, SeA A a z F T ∧ k0 < T ∧ isCh (fun k => aR (F k) b) k0 ∧ (chN (fun k => aR (F k) b) k0 : Nat) = idx ∧ r.1 = 5000 * (k0 : Int) + aR (F k0) b) := by
    unfold M_choice
    refine ok_bq2 (mask_ok (t := 0) I (by omega) (by omega) (by omega) hz) (fun r0 m0 h0' => ok_ite (fun q => absurd h0'.1 q) (fun _ => ?_))
    dsimp only at h0'
    obtain ⟨-, e0, J, f0⟩ := h0'
    refine ok_bind (mTell_ok (z := z) J (by omega) (by omega)) (fun m2 e => ok_ltv ?_)
    obtain ⟨e1, e2, T, ro⟩ := e
    have se := se_of I g t ha (by omega) ro
    have lt := hN _ _ se
    refine ok_bq2 (choicesM_ok (b := b) (idx := idx) ⟨_, I⟩ ro (by omega)) (fun cm m3 h3 => ?_)
    dsimp only at h3
    obtain ⟨k0, j1, j2, j3, j4, j5⟩ := h3.2.2 h0 (by rw [h3.1]; exact lt)
    have bd := se.2.2.2.2.2 k0 b hb
    have T14 := se.2.1
    have cle := chN_le (f := fun k => aR (exM m2 T k) b) T
    have ecm := h3.1
    refine ok_grd (by unfold InR; omega) (ok_ite (fun hi => wp_bq2 (wp_isThrown0 (ok_ite (fun q => absurd rfl q) (fun _ => ?_)))) (fun hi => by exfalso; rw [isIn0] at hi; omega))
    dsimp only
    simp (disch := omega) only [setM_ne, setM_hit, true_and, and_true]
    rw [j4, j5]
    refine ok_grd (by unfold InR; omega) (ok_some ⟨fun c i h => ?_, (by dsimp only; exact setM_same _ _ _ _), exM m2 T, T, k0, se, j1, j2, j3, rfl⟩)
    unfold tM at h
    dsimp only
    rw [setM_ne (by omega), h3.2.1 c i (by omega), e1 c i (by omega) (by omega), f0 c i (by omega)]
  refine (p_of (st_choice _ _ _ _ _ _ _ I ⟨by omega, by omega⟩ ⟨by omega, by omega⟩ ⟨by omega, by omega⟩ ⟨by omega, by omega⟩ ⟨by omega, by omega⟩) hm).mono (fun x hx => ?_)
  obtain ⟨hi, r, ⟨kt, e0, F, T, k0, se, r1, r2, r3, r4⟩, J, x1, x2⟩ := hx
  exact ⟨⟨r.2, J, LG_fr g kt, hiS_ar hA hi⟩, hi, F, T, k0, se, r1, r2, r3, by rw [x1 e0, r4]⟩
end OPS
