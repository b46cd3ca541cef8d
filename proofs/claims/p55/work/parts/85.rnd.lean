/-! ===== rounds of one ride more each ===== -/
def RU (N : Nat) (g : Nat → Int) (w : Nat → Nat → Int) (Rd : RdT) (A L : Lb) : Prop := leL N L A ∧ WCl N w L ∧ ∀ L', leL N L' A → WCl N w L' → (∀ s t s' t', Rd s t s' t' → can g A s t → L'.1 s' ≤ t') → leL N L' L
def Rnd (N : Nat) (g : Nat → Int) (w : Nat → Nat → Int) (Rd : RdT) (A L : Lb) : Prop := RU N g w Rd A L ∧ ∀ s t s' t', Rd s t s' t' → can g A s t → L.1 s' ≤ t'
/-- the labels with so many rides at most -/
def Rw (N : Nat) (g : Nat → Int) (w : Nat → Nat → Int) (Rd : RdT) (I : Lb) : Nat → Lb → Prop
  | 0 => fun L => eqL N L I
  | k + 1 => fun L => ∃ A, Rw N g w Rd I k A ∧ Rnd N g w Rd A L
section RND
variable {N : Nat} {g : Nat → Int} {w : Nat → Nat → Int} {Rd : RdT} {I A B L : Lb}
theorem eqL_le (h : eqL N A B) : leL N A B := fun s hs => by have := h s hs; omega
theorem eqL_sym (h : eqL N A B) : eqL N B A := fun s hs => by have := h s hs; omega
theorem eqL_of (h1 : leL N A B) (h2 : leL N B A) : eqL N A B := fun s hs => by have := h1 s hs; have := h2 s hs; omega
theorem eqL_rfl : eqL N A A := fun _ _ => ⟨rfl, rfl⟩
theorem ru_rfl (h : WCl N w A) : RU N g w Rd A A := ⟨leL_rfl, h, fun _ h _ _ => h⟩
theorem ru_gof {s s' : Nat} {t t' : Int} (h : RU N g w Rd A L) (c : can g A s t) (r : Rd s t s' t') (hs : s' < N) : RU N g w Rd A (gof N w L s' t') := by
  refine ⟨leL_tr gof_le h.1, gof_wc h.2.1, fun L' h1 h2 h3 v hv => ?_⟩
  have q := h.2.2 L' h1 h2 h3
  have qv := q v hv
  have e1 := h3 _ _ _ _ r c
  constructor
  · rw [gof_1]
    split
    · rename_i k; rw [k.1]; exact e1
    · exact qv.1
  · rw [gof_2]
    split
    · rename_i k
      have := h2 s' v hs hv (fun e => k.2.2.1 e.symm)
      omega
    · exact qv.2
theorem rnd_congr (hR : ∀ s t s' t', Rd s t s' t' → s < N ∧ s' < N) (h : Rnd N g w Rd A L) {A' L' : Lb} (ha : eqL N A A') (hl : eqL N L L') : Rnd N g w Rd A' L' := by
  have ca : ∀ s t s' t', Rd s t s' t' → (can g A s t ↔ can g A' s t) := fun s t s' t' r => by
    have := ha s (hR _ _ _ _ r).1
    unfold can
    rw [this.1, this.2]
  refine ⟨⟨fun v hv => ?_, fun s v hs hv hn => ?_, fun X h1 h2 h3 v hv => ?_⟩, fun s t s' t' r c => ?_⟩
  · have := h.1.1 v hv; have := ha v hv; have := hl v hv; omega
  · have := h.1.2.1 s v hs hv hn; have := hl s hs; have := hl v hv; omega
  · have a := h.1.2.2 X (fun v hv => by have := h1 v hv; have := ha v hv; omega) h2 (fun s t s' t' r c => h3 s t s' t' r ((ca _ _ _ _ r).mp c)) v hv
    have := hl v hv
    omega
  · have a := h.2 s t s' t' r ((ca _ _ _ _ r).mpr c)
    have := hl s' (hR _ _ _ _ r).2
    omega
theorem rnd_uniq (h1 : Rnd N g w Rd A L) (h2 : Rnd N g w Rd A B) : eqL N L B := eqL_of (h2.1.2.2 L h1.1.1 h1.1.2.1 h1.2) (h1.1.2.2 B h2.1.1 h2.1.2.1 h2.2)
theorem rw_uniq (hR : ∀ s t s' t', Rd s t s' t' → s < N ∧ s' < N) : ∀ {k : Nat} {L B : Lb}, Rw N g w Rd I k L → Rw N g w Rd I k B → eqL N L B := by
  intro k
  induction k with
  | zero => intro L B h1 h2 s hs; have := h1 s hs; have := h2 s hs; omega
  | succ k ih =>
    rintro L B ⟨X, x1, x2⟩ ⟨Y, y1, y2⟩
    exact rnd_uniq (rnd_congr hR x2 (ih x1 y1) eqL_rfl) y2
theorem rw_congr (hR : ∀ s t s' t', Rd s t s' t' → s < N ∧ s' < N) : ∀ {k : Nat} {L B : Lb}, Rw N g w Rd I k L → eqL N L B → Rw N g w Rd I k B := by
  intro k
  cases k with
  | zero => intro L B h1 h2 s hs; have := h1 s hs; have := h2 s hs; omega
  | succ k =>
    rintro L B ⟨X, x1, x2⟩ h
    exact ⟨X, x1, rnd_congr hR x2 eqL_rfl h⟩
/-- what a stable row gives for all later ones -/
theorem rw_stable (hR : ∀ s t s' t', Rd s t s' t' → s < N ∧ s' < N) {k : Nat} (h : Rw N g w Rd I k L) (st : Rnd N g w Rd L L) : ∀ j : Nat, Rw N g w Rd I (k + j) L := by
  intro j
  induction j with
  | zero => exact h
  | succ j ih => exact ⟨L, ih, st⟩
theorem rw_und : ∀ {k : Nat} {L : Lb}, WCl N w I → (∀ s t s' t', Rd s t s' t' → s < N ∧ s' < N) → Rw N g w Rd I k L → Und N g w Rd I L := by
  intro k
  induction k with
  | zero =>
    intro L hI hR h
    refine ⟨eqL_le h, fun s v hs hv hn => ?_, fun L' _ h2 => leL_tr h2 (eqL_le (eqL_sym h))⟩
    have := hI s v hs hv hn; have := h s hs; have := h v hv; omega
  | succ k ih =>
    rintro L hI hR ⟨A, h1, h2⟩
    have u := ih hI hR h1
    refine ⟨leL_tr h2.1.1 u.1, h2.1.2.1, fun L' c h3 => ?_⟩
    have le := u.2.2 L' c h3
    exact h2.1.2.2 L' le c.2 (fun s t s' t' r cc => c.1 s t s' t' r (can_mono le (hR _ _ _ _ r).1 cc))
theorem rw_best {k : Nat} (hI : WCl N w I) (hR : ∀ s t s' t', Rd s t s' t' → s < N ∧ s' < N) (h : Rw N g w Rd I k L) (st : Rnd N g w Rd L L) : Best N g w Rd I L := ⟨rw_und hI hR h, fun s t s' t' r c => st.2 s t s' t' r c⟩
/-- a ride that is better, since a round -/
theorem rode_why (hR : ∀ s t s' t', Rd s t s' t' → s < N ∧ s' < N) (h : Rnd N g w Rd A B) {x : Nat} (hx : x < N) (hb : B.1 x < A.1 x) : ∃ s t t', Rd s t x t' ∧ can g A s t ∧ t' = B.1 x := by
  apply Classical.byContradiction
  intro hn
  have := h.1.2.2 (fun v => if v = x then B.1 x + 1 else B.1 v, B.2) (fun v hv => ?_) (fun s v hs hv hne => ?_) (fun s t s' t' r c => ?_) x hx
  · have := this.1
    dsimp only at this
    rw [if_pos rfl] at this
    omega
  · have := h.1.1 v hv
    refine ⟨?_, this.2⟩
    dsimp only
    split
    · rename_i e; rw [e]; omega
    · exact this.1
  · have := h.1.2.1 s v hs hv hne
    dsimp only
    split
    · rename_i e; rw [e] at this ⊢; omega
    · exact this
  · have := h.2 s t s' t' r c
    dsimp only
    split
    · rename_i e
      rw [e] at this
      have ne : t' ≠ B.1 x := fun q => hn ⟨s, t, t', by rw [← e]; exact r, c, q⟩
      omega
    · exact this
theorem stood_why (h : Rnd N g w Rd A B) (ha : WCl N w A) {v : Nat} (hv : v < N) (hb : B.2 v < A.2 v) : ∃ x, x < N ∧ B.1 x < A.1 x ∧ B.1 x + w x v = B.2 v := by
  apply Classical.byContradiction
  intro hn
  have := h.1.2.2 (B.1, fun y => if y = v then B.2 v + 1 else B.2 y) (fun y hy => ?_) (fun s y hs hy hne => ?_) (fun s t s' t' r c => h.2 s t s' t' r c) v hv
  · have := this.2
    dsimp only at this
    rw [if_pos rfl] at this
    omega
  · have := h.1.1 y hy
    refine ⟨this.1, ?_⟩
    dsimp only
    split
    · rename_i e; rw [e]; omega
    · exact this.2
  · have q := h.1.2.1 s y hs hy hne
    dsimp only
    split
    · rename_i e
      rw [e] at q hne ⊢
      have ne : ¬ (B.1 s < A.1 s ∧ B.1 s + w s v = B.2 v) := fun z => hn ⟨s, hs, z⟩
      have l := ha s v hs hv hne
      have m := h.1.1 s hs
      omega
    · exact q
theorem rw_wc {k : Nat} (hI : WCl N w I) (h : Rw N g w Rd I k L) : WCl N w L := by
  cases k with
  | zero =>
    intro s v hs hv hn
    have := hI s v hs hv hn; have := h s hs; have := h v hv; omega
  | succ k =>
    obtain ⟨A, -, h2⟩ := h
    exact h2.1.2.1
/-- a ride that would still be better has so many stops behind it -/
theorem chain_f (hI : WCl N w I) (hw : ∀ x y, x < N → y < N → 0 ≤ w x y) (hg : ∀ x, x < N → 0 ≤ g x) (hR : ∀ s t s' t', Rd s t s' t' → s < N ∧ s' < N ∧ t < t') : ∀ {k : Nat} {L : Lb}, Rw N g w Rd I k L → ∀ s t s' t', Rd s t s' t' → can g L s t → t' < L.1 s' → ∃ f : Nat → Int, (∀ x, x < N → f x = 0 ∨ f x = 1) ∧ muN f N = k ∧ ∀ x, x < N → f x = 1 → L.1 x < t' := by
  have hR2 : ∀ s t s' t', Rd s t s' t' → s < N ∧ s' < N := fun s t s' t' r => ⟨(hR _ _ _ _ r).1, (hR _ _ _ _ r).2.1⟩
  intro k
  induction k with
  | zero => intro L _ s t s' t' _ _ _; exact ⟨fun _ => 0, fun _ _ => Or.inl rfl, muN_zero (fun _ _ => rfl), fun x _ h => by simp at h⟩
  | succ k ih =>
    rintro L ⟨A, h1, h2⟩ s t s' t' r c hlt
    have hr := hR _ _ _ _ r
    have nc : ¬ can g A s t := fun q => by have := h2.2 _ _ _ _ r q; omega
    have le := h2.1.1 s hr.1
    have wa := rw_wc hI h1
    obtain ⟨x, hx, x1, x2⟩ : ∃ x, x < N ∧ L.1 x < A.1 x ∧ L.1 x ≤ t := by
      obtain ⟨c0, c1⟩ := c
      rcases c1 with c1 | c1
      · have : L.2 s < A.2 s := by
          apply Classical.byContradiction
          intro q
          exact nc ⟨c0, Or.inl (by omega)⟩
        obtain ⟨x, hx, x1, x2⟩ := stood_why h2 wa hr.1 this
        have := hw x s hx hr.1
        exact ⟨x, hx, x1, by omega⟩
      · refine ⟨s, hr.1, ?_, ?_⟩
        · apply Classical.byContradiction
          intro q
          exact nc ⟨c0, Or.inr (by omega)⟩
        · have := hg s hr.1
          omega
    obtain ⟨s1, t1, t1', r1, c1, e1⟩ := rode_why hR2 h2 hx x1
    obtain ⟨f, f1, f2, f3⟩ := ih h1 s1 t1 x t1' r1 c1 (by omega)
    have fx : f x = 0 := by
      rcases f1 x hx with q | q
      · exact q
      · have := f3 x hx q
        omega
    refine ⟨fun y => if y = x then 1 else f y, fun y hy => ?_, ?_, fun y hy h => ?_⟩
    · dsimp only
      split
      · exact Or.inr rfl
      · exact f1 y hy
    · rw [muN_set (f := f) hx (fun y _ hn => if_neg hn) fx (if_pos rfl), f2]
    · dsimp only at h
      split at h
      · rename_i e; rw [e]; omega
      · have := f3 y hy h
        have := (h2.1.1 y hy).1
        omega
/-- so many rounds are enough -/
theorem chain_N (hI : WCl N w I) (hw : ∀ x y, x < N → y < N → 0 ≤ w x y) (hg : ∀ x, x < N → 0 ≤ g x) (hR : ∀ s t s' t', Rd s t s' t' → s < N ∧ s' < N ∧ t < t') {k : Nat} (h : Rw N g w Rd I k L) {s s' : Nat} {t t' : Int} (r : Rd s t s' t') (c : can g L s t) (hlt : t' < L.1 s') : k + 1 ≤ N := by
  obtain ⟨f, f1, f2, f3⟩ := chain_f hI hw hg hR h s t s' t' r c hlt
  have hs := (hR _ _ _ _ r).2.1
  have fx : f s' = 0 := by
    rcases f1 s' hs with q | q
    · exact q
    · have := f3 s' hs q
      omega
  have a := muN_set (f := f) (g := fun y => if y = s' then 1 else f y) hs (fun y _ hn => if_neg hn) fx (if_pos rfl)
  have b := (muN_full (f := fun y => if y = s' then 1 else f y) (n := N) (fun y hy => by
    split
    · exact Or.inr rfl
    · exact f1 y hy)).1
  omega
theorem rnd_self (hI : WCl N w L) (h : ∀ s t s' t', Rd s t s' t' → can g L s t → L.1 s' ≤ t') : Rnd N g w Rd L L := ⟨ru_rfl hI, h⟩
end RND
