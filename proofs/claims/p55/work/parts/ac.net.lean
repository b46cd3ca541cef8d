/-! ===== P55: the net of the law's arrays ===== -/
def nA (A : Mem) : Nat := (A 456 6).toNat
def wA (A : Mem) : Nat → Nat → Int := fun a b => if a = b then 1000000 else A 457 (6 * a + b)
def tkA (A : Mem) : Nat := (A 458 0).toNat
def svA (A : Mem) (k : Nat) : Int := A 458 (1 + 14 * k)
def lnA (A : Mem) (k : Nat) : Nat := (A 458 (2 + 14 * k)).toNat
def stA (A : Mem) (k c : Nat) : Nat := (A 458 (3 + 14 * k + 3 * c)).toNat
def arA (A : Mem) (k c : Nat) : Int := A 458 (4 + 14 * k + 3 * c)
def lvA (A : Mem) (k c : Nat) : Int := A 458 (5 + 14 * k + 3 * c)
def byA (d : Nat) : Int := 1440 * ((d : Int) - 1)
def onA (A : Mem) (k d : Nat) : Prop := k < tkA A ∧ d < 3 ∧ (svA A k = 0 ∨ d = 1)
def RdA (A : Mem) : RdT := fun s t s' t' => ∃ k d c c' : Nat, onA A k d ∧ c < c' ∧ c' < lnA A k ∧ s = stA A k c ∧ t = lvA A k c + byA d ∧ s' = stA A k c' ∧ t' = arA A k c' + byA d
def BestA (A : Mem) (I L : Lb) : Prop := Best (nA A) (A 456) (wA A) (RdA A) I L
def ATt (A : Mem) (k : Nat) : Prop := (svA A k = 0 ∨ svA A k = 1) ∧ A 458 (2 + 14 * k) = lnA A k ∧ 1 ≤ lnA A k ∧ lnA A k ≤ 4 ∧ ∀ c, c < lnA A k → A 458 (3 + 14 * k + 3 * c) = stA A k c ∧ stA A k c < nA A ∧ 0 ≤ arA A k c ∧ arA A k c ≤ lvA A k c ∧ lvA A k c ≤ 700 ∧ (c + 1 < lnA A k → lvA A k c < arA A k (c + 1))
/-- what the arrays hold -/
def AT (A : Mem) : Prop := (A 456 6 = nA A ∧ 4 ≤ nA A ∧ nA A ≤ 6) ∧ (∀ v, v < nA A → 0 ≤ A 456 v ∧ A 456 v ≤ 5) ∧ (A 458 0 = tkA A ∧ tkA A ≤ 9) ∧ ∀ k, k < tkA A → ATt A k
def AW (A : Mem) : Prop := ∀ a b, a < nA A → b < nA A → (a = b → A 457 (6 * a + b) = 0) ∧ (a ≠ b → 1 ≤ A 457 (6 * a + b) ∧ (A 457 (6 * a + b) = 1000000 ∨ A 457 (6 * a + b) ≤ 1280))
/-- the table's cells of the reference -/
def tM (c i : Nat) : Prop := (c = 0 ∧ (i = 1 ∨ i = 5 ∨ i = 6 ∨ i = 8 ∨ i = 14)) ∨ (1 ≤ c ∧ c ≤ 13)
/-- the reference's table and the law's arrays are one -/
def LGt (mm A : Mem) (k : Nat) : Prop := mm 5 k = svA A k ∧ mm 6 k = lnA A k ∧ ∀ c, c < lnA A k → mm 7 (8 * k + c) = stA A k c ∧ mm 8 (8 * k + c) = arA A k c ∧ mm 9 (8 * k + c) = lvA A k c
def LG0 (mm A : Mem) : Prop := mm 0 1 = nA A ∧ (∀ v, v < nA A → mm 1 v = A 456 v) ∧ mm 0 8 = tkA A ∧ mm 0 14 = 0 ∧ mm 0 6 = 2 ∧ (∀ d, d < 3 → mm 4 (9 + d) = 1 ∧ mm 4 (28 + (9 + d)) = if d = 1 then 1 else 0) ∧ ∀ k, k < tkA A → LGt mm A k
def LG (mm A : Mem) : Prop := LG0 mm A ∧ ∀ a b, a < nA A → b < nA A → mm 3 (12 * a + b) = A 457 (6 * a + b)
section NETA
variable {m mm mm' A : Mem}
theorem LGt_fr {k : Nat} (h : LGt mm A k) (f : ∀ c i, tM c i → mm' c i = mm c i) : LGt mm' A k := by
  obtain ⟨h1, h2, h3⟩ := h
  refine ⟨by rw [f 5 k (by unfold tM; omega)]; exact h1, by rw [f 6 k (by unfold tM; omega)]; exact h2, fun c hc => ?_⟩
  rw [f 7 _ (by unfold tM; omega), f 8 _ (by unfold tM; omega), f 9 _ (by unfold tM; omega)]
  exact h3 c hc
theorem LG0_fr (h : LG0 mm A) (f : ∀ c i, tM c i → mm' c i = mm c i) : LG0 mm' A := by
  obtain ⟨h1, h2, h3, h4, h5, h6, h7⟩ := h
  refine ⟨by rw [f 0 1 (by unfold tM; omega)]; exact h1, fun v hv => by rw [f 1 v (by unfold tM; omega)]; exact h2 v hv, by rw [f 0 8 (by unfold tM; omega)]; exact h3, by rw [f 0 14 (by unfold tM; omega)]; exact h4, by rw [f 0 6 (by unfold tM; omega)]; exact h5, fun d hd => ?_, fun k hk => LGt_fr (h7 k hk) f⟩
  rw [f 4 _ (by unfold tM; omega), f 4 _ (by unfold tM; omega)]
  exact h6 d hd
theorem LG_fr (h : LG mm A) (f : ∀ c i, tM c i → mm' c i = mm c i) : LG mm' A :=
  ⟨LG0_fr h.1 f, fun a b ha hb => by rw [f 3 _ (by unfold tM; omega)]; exact h.2 a b ha hb⟩
theorem best_congr {N : Nat} {g g' : Nat → Int} {w w' : Nat → Nat → Int} {Rd Rd' : RdT} {I I' L : Lb} (hg : ∀ s, s < N → g s = g' s) (hw : ∀ a b, a < N → b < N → w a b = w' a b) (hR : ∀ s t s' t', Rd s t s' t' ↔ Rd' s t s' t') (hN : ∀ s t s' t', Rd s t s' t' → s < N ∧ s' < N) (hI : eqL N I I') (h : Best N g w Rd I L) : Best N g' w' Rd' I' L := by
  have rc : ∀ {g g' : Nat → Int} {Rd Rd' : RdT}, (∀ s, s < N → g s = g' s) → (∀ s t s' t', Rd' s t s' t' → Rd s t s' t') → (∀ s t s' t', Rd s t s' t' → s < N ∧ s' < N) → ∀ L, RCl g Rd L → RCl g' Rd' L := fun hg hR hN L h s t s' t' r c => h s t s' t' (hR _ _ _ _ r) (by
    unfold can at c ⊢
    rw [hg s (hN _ _ _ _ (hR _ _ _ _ r)).1]
    exact c)
  have wc : ∀ {w w' : Nat → Nat → Int}, (∀ a b, a < N → b < N → w a b = w' a b) → ∀ L, WCl N w L → WCl N w' L := fun hw L h s v hs hv hsv => by rw [← hw s v hs hv]; exact h s v hs hv hsv
  obtain ⟨⟨h1, h2, h3⟩, h4⟩ := h
  exact ⟨⟨leL_tr h1 (eqL_le hI), wc hw L h2, fun L' c l => h3 L' ⟨rc (fun s hs => (hg s hs).symm) (fun _ _ _ _ r => (hR _ _ _ _).mp r) (fun _ _ _ _ r => hN _ _ _ _ ((hR _ _ _ _).mpr r)) L' c.1, wc (fun a b ha hb => (hw a b ha hb).symm) L' c.2⟩ (leL_tr l (eqL_le (eqL_sym hI)))⟩, rc hg (fun _ _ _ _ r => (hR _ _ _ _).mpr r) hN L h4⟩
theorem ini_congr {N : Nat} {w w' : Nat → Nat → Int} {a : Nat} {t : Int} (h : ∀ v, v < N → w a v = w' a v) : eqL N (ini w a t) (ini w' a t) := fun v hv => by
  unfold ini
  dsimp only
  rw [h v hv]
  exact ⟨rfl, rfl⟩
theorem n_tr (I : Inv m mm) (g : LG0 mm A) : nC m = nA A := by
  unfold nC
  rw [← I.1.1, g.1]
  omega
theorem g_tr (I : Inv m mm) (g : LG0 mm A) : ∀ v, v < nA A → m 2 v = A 456 v := fun v hv => by
  have h := (I.1.2.2.2.2.2.1 v (by rw [← I.1.1, g.1]; omega)).1
  rw [← h]
  exact g.2.1 v hv
theorem w_tr (I : Inv m mm) (g : LG mm A) : ∀ a b, a < nA A → b < nA A → wC m (-1) a b = wA A a b := fun a b ha hb => by
  have h := I.1.2.2.2.2.2.2.2 a b (by rw [← I.1.1, g.1.1]; omega) (by rw [← I.1.1, g.1.1]; omega)
  unfold wA
  by_cases e : a = b
  · rw [if_pos e, ← e]
    exact CI_wd ⟨_, I⟩ (by rw [n_tr I g.1]; exact ha)
  · rw [if_neg e] at h ⊢
    rw [← g.2 a b ha hb, h]
    rfl
theorem late_0 (h : m 109 0 = 0) (d t c : Int) : lateC m d t c = 0 := by
  unfold lateC
  rw [h]
  rfl
/-- the runs of one trip on one day -/
theorem q_on (I : Inv m mm) (g : LG0 mm A) (t : AT A) {k d : Nat} (hd : d < 3) (hk : k < 24) : isQ m 10 (24 * d + k) ↔ onA A k d := by
  obtain ⟨t1, t2, t3, t4⟩ := t
  obtain ⟨g1, g2, g3, g4, g5, g6, g7⟩ := g
  have e1 : (24 * d + k) % 24 = k := by omega
  have e2 : qd (24 * d + k) = (d : Int) - 1 := by unfold qd; omega
  have iT := I.2.2.1
  have hT : ((k : Nat) : Int) < m 31 0 ↔ k < tkA A := by rw [← iT.1, g3]; omega
  unfold isQ onA
  rw [e1, e2]
  constructor
  · rintro ⟨h1, h2, h3, h4⟩
    have hkT := hT.mp h1
    refine ⟨hkT, hd, ?_⟩
    obtain ⟨u1, u2, u3⟩ := g7 k hkT
    have s1 := (iT.2.2.2 k h1).1
    rw [← s1, u1] at h4
    rcases (t4 k hkT).1 with s | s
    · exact Or.inl s
    · right
      rw [s] at h4
      have hb := I.2.1.2.2.2.2 1 (9 + d) (by omega) (by omega)
      rw [show (10 + ((d : Int) - 1)).toNat = 9 + d by omega, show (1 : Int).toNat = 1 from rfl, ← hb, show 28 * 1 + (9 + d) = 28 + (9 + d) by omega, (g6 d hd).2] at h4
      by_cases hh : d = 1
      · exact hh
      · rw [if_neg hh] at h4
        omega
  · rintro ⟨h1, -, h3⟩
    have hkm := hT.mpr h1
    refine ⟨hkm, by omega, by omega, ?_⟩
    obtain ⟨u1, u2, u3⟩ := g7 k h1
    have s1 := (iT.2.2.2 k hkm).1
    rw [← s1, u1, show (10 + ((d : Int) - 1)).toNat = 9 + d by omega]
    rcases (t4 k h1).1 with s | s
    · have hb := I.2.1.2.2.2.2 0 (9 + d) (by omega) (by omega)
      rw [s, show (0 : Int).toNat = 0 from rfl, ← hb, show 28 * 0 + (9 + d) = 9 + d by omega]
      exact (g6 d hd).1
    · have hb := I.2.1.2.2.2.2 1 (9 + d) (by omega) (by omega)
      rw [s, show (1 : Int).toNat = 1 from rfl, ← hb, show 28 * 1 + (9 + d) = 28 + (9 + d) by omega, (g6 d hd).2]
      rcases h3 with h3 | h3
      · omega
      · rw [if_pos h3]
theorem q_len (I : Inv m mm) (g : LG0 mm A) {k d : Nat} (hk : k < 24) (hT : k < tkA A) : lenQ m (24 * d + k) = lnA A k := by
  have e1 : (24 * d + k) % 24 = k := by omega
  obtain ⟨g1, g2, g3, g4, g5, g6, g7⟩ := g
  have h := I.2.2.1.2.2.2 k (by rw [← I.2.2.1.1, g3]; omega)
  unfold lenQ
  rw [e1, ← h.2.2.2.1, (g7 k hT).2.1]
  omega
theorem q_call (I : Inv m mm) (g : LG0 mm A) {k d c : Nat} (hd : d < 3) (hk : k < 24) (hT : k < tkA A) (hc : c < lnA A k) : stQ m (24 * d + k) c = stA A k c ∧ lvQ m 10 (-1) 0 (24 * d + k) c = lvA A k c + byA d ∧ arQ m 10 (-1) 0 (24 * d + k) c = arA A k c + byA d := by
  have e1 : (24 * d + k) % 24 = k := by omega
  have e2 : qd (24 * d + k) = (d : Int) - 1 := by unfold qd; omega
  obtain ⟨g1, g2, g3, g4, g5, g6, g7⟩ := g
  have h := I.2.2.1.2.2.2 k (by rw [← I.2.2.1.1, g3]; omega)
  obtain ⟨u1, u2, u3⟩ := g7 k hT
  have hz : m 109 0 = 0 := by rw [← I.2.2.2.1.1, g4]
  obtain ⟨v1, v2, v3, v4, v5, -⟩ := h.2.2.2.2.2.2 c (by rw [← h.2.2.2.1, u2]; omega)
  obtain ⟨w1, w2, w3⟩ := u3 c hc
  have e3 : ∀ q : Nat, mvQ (-1) 0 q = 0 := fun q => by unfold mvQ; split <;> rfl
  unfold stQ lvQ arQ byA
  rw [e1, e2, e3, late_0 hz, late_0 hz, ← v1, ← v4, ← v5, w1, w2, w3]
  refine ⟨by omega, by omega, by omega⟩
theorem rd_tr (I : Inv m mm) (g : LG0 mm A) (t : AT A) (s : Nat) (x : Int) (s' : Nat) (x' : Int) : RdQ m 10 (-1) 0 (-1) s x s' x' ↔ RdA A s x s' x' := by
  constructor
  · rintro ⟨q, c, c', hq, h1, h2, h3, rfl, rfl, rfl, rfl, h4, h5⟩
    obtain ⟨d, k, hd, hk, rfl⟩ : ∃ d k : Nat, d < 3 ∧ k < 24 ∧ q = 24 * d + k := ⟨q / 24, q % 24, by omega, by omega, by omega⟩
    have o := (q_on I g t hd hk).mp h1
    rw [q_len I g hk o.1] at h3
    have a := q_call I g hd hk o.1 (Nat.lt_trans h2 h3)
    have b := q_call I g hd hk o.1 h3
    exact ⟨k, d, c, c', o, h2, h3, a.1, a.2.1, b.1, b.2.2⟩
  · rintro ⟨k, d, c, c', o, h2, h3, rfl, rfl, rfl, rfl⟩
    have hk : k < 24 := by have := t.2.2.1.2; have := o.1; omega
    have a := q_call I g o.2.1 hk o.1 (Nat.lt_trans h2 h3)
    have b := q_call I g o.2.1 hk o.1 h3
    exact ⟨24 * d + k, c, c', by have := o.2.1; omega, (q_on I g t o.2.1 hk).mpr o, h2, by rw [q_len I g hk o.1]; exact h3, a.1.symm, a.2.1.symm, b.1.symm, b.2.2.symm, by omega, by omega⟩
theorem rdA_st (t : AT A) {s s' : Nat} {x x' : Int} (r : RdA A s x s' x') : s < nA A ∧ s' < nA A ∧ x < x' ∧ x' ≤ 2140 := by
  obtain ⟨k, d, c, c', o, h2, h3, rfl, rfl, rfl, rfl⟩ := r
  obtain ⟨-, -, -, -, hc⟩ := t.2.2.2 k o.1
  have lt : ∀ n c : Nat, c + n + 1 < lnA A k → lvA A k c < arA A k (c + n + 1) := by
    intro n
    induction n with
    | zero => intro c h; exact (hc c (by omega)).2.2.2.2.2 h
    | succ n ih =>
      intro c h
      have a := ih c (by omega)
      have b := hc (c + n + 1) (by omega)
      have e := b.2.2.2.2.2 (by omega)
      have := b.2.2.2.1
      rw [show c + (n + 1) + 1 = c + n + 1 + 1 by omega]
      omega
  have l := lt (c' - c - 1) c (by omega)
  rw [show c + (c' - c - 1) + 1 = c' by omega] at l
  have a := hc c (by omega)
  have b := hc c' h3
  have := o.2.1
  unfold byA
  exact ⟨a.2.1, b.2.1, by omega, by omega⟩
theorem best_tr (I : Inv m mm) (g : LG mm A) (t : AT A) {a : Nat} (ha : a < nA A) {x : Int} {L : Lb} : BestQ m 10 (-1) 0 (-1) (ini (wC m (-1)) a x) L ↔ BestA A (ini (wA A) a x) L := by
  unfold BestQ BestA
  rw [n_tr I g.1]
  constructor
  · exact best_congr (g_tr I g.1) (w_tr I g) (rd_tr I g.1 t) (fun _ _ _ _ r => by have := rdA_st t ((rd_tr I g.1 t _ _ _ _).mp r); exact ⟨this.1, this.2.1⟩) (ini_congr (fun v hv => w_tr I g a v ha hv))
  · exact best_congr (fun s hs => (g_tr I g.1 s hs).symm) (fun a b ha hb => (w_tr I g a b ha hb).symm) (fun s x s' x' => (rd_tr I g.1 t s x s' x').symm) (fun _ _ _ _ r => by have := rdA_st t r; exact ⟨this.1, this.2.1⟩) (ini_congr (fun v hv => (w_tr I g a v ha hv).symm))
end NETA
