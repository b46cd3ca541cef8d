/-! ===== WP rules for straight code ===== -/
section WPR
variable {α β γ : Type}
theorem wp_bind {x : Option β} {f : β → Option α} {P : α → Prop} (h : Ok x (fun r => Ok (f r) P)) : Ok (x.bind f) P := ok_bind h (fun _ q => q)
theorem wp_bq1 {α1 : Type} {x : Option α1} {f : α1 → Option β} {P : β → Prop} (h : Ok x (fun r => Ok (f r) P)) : Ok (bq1 x f) P := ok_bq1 h (fun _ q => q)
theorem wp_bq2 {α1 α2 : Type} {x : Option (α1 × α2)} {f : α1 → α2 → Option β} {P : β → Prop} (h : Ok x (fun r => Ok (f r.1 r.2) P)) : Ok (bq2 x f) P := ok_bq2 h (fun _ _ q => q)
theorem wp_bq3 {α1 α2 α3 : Type} {x : Option (α1 × α2 × α3)} {f : α1 → α2 → α3 → Option β} {P : β → Prop} (h : Ok x (fun r => Ok (f r.1 r.2.1 r.2.2) P)) : Ok (bq3 x f) P := ok_bq3 h (fun _ _ _ q => q)
theorem wp_bq4 {α1 α2 α3 α4 : Type} {x : Option (α1 × α2 × α3 × α4)} {f : α1 → α2 → α3 → α4 → Option β} {P : β → Prop} (h : Ok x (fun r => Ok (f r.1 r.2.1 r.2.2.1 r.2.2.2) P)) : Ok (bq4 x f) P := ok_bq4 h (fun _ _ _ _ q => q)
theorem ok_tbd_inl {α β : Type} {a : α} {m : Mem} {f : α → Mem → Option ((β ⊕ Nat) × Mem)} {P : (β ⊕ Nat) × Mem → Prop} (h : Ok (f a m) P) : Ok (tbd (.inl a, m) f) P := h
theorem ok_tbd_inr {α β : Type} {x : Nat} {m : Mem} {f : α → Mem → Option ((β ⊕ Nat) × Mem)} {P : (β ⊕ Nat) × Mem → Prop} (h : P (.inr x, m)) : Ok (tbd (.inr x, m) f) P := ⟨_, rfl, h⟩
end WPR
theorem setM_ne {m : Mem} {c i : Nat} {v : Int} {c' i' : Nat} (h : ¬ (c' = c ∧ i' = i)) : setM m c i v c' i' = m c' i' := if_neg h
theorem setM_hit {m : Mem} {c i : Nat} {v : Int} {c' i' : Nat} (h : c' = c ∧ i' = i) : setM m c i v c' i' = v := if_pos h
theorem inr_of {z : Int} (h1 : -2147483648 ≤ z) (h2 : z ≤ 2147483647) : InR z := ⟨h1, h2⟩
/-- the two answers, as one goal behind another -/
def AgP {α : Type} (ok : α → Prop) (Inv : Mem → Mem → Prop) (exs : List Nat) (rc : (α ⊕ Nat) × Mem) (rm : α × Mem) : Prop := match rc.1 with
  | .inl v => rm.2 0 0 = 0 ∧ rm.1 = v ∧ ok v ∧ Inv rc.2 rm.2
  | .inr x => x ∈ exs ∧ rm.2 0 0 = (exs.idxOf x + 1 : Nat) ∧ Inv rc.2 rm.2
theorem ag_of {α : Type} {ok : α → Prop} {Inv : Mem → Mem → Prop} {exs : List Nat} {rc : Option ((α ⊕ Nat) × Mem)} {rm : Option (α × Mem)} (h : Ok rc (fun a => Ok rm (fun b => AgP ok Inv exs a b))) : Ag ok Inv exs rc rm := by
  obtain ⟨⟨a | x, m1⟩, e1, b, e2, h⟩ := h
  · obtain ⟨h1, h2, h3, h4⟩ := h
    exact ⟨_, _, e1, e2, h4, fun v q => (by cases q; exact ⟨h1, h2, h3⟩), fun x q => (by cases q)⟩
  · obtain ⟨h1, h2, h4⟩ := h
    exact ⟨_, _, e1, e2, h4, fun v q => (by cases q), fun x q => (by cases q; exact ⟨h1, h2⟩)⟩
theorem agp_inl {α : Type} {ok : α → Prop} {Inv : Mem → Mem → Prop} {exs : List Nat} {v w : α} {mc mm : Mem} (h1 : mm 0 0 = 0) (h2 : w = v) (h3 : ok v) (h4 : Inv mc mm) : AgP ok Inv exs (.inl v, mc) (w, mm) := ⟨h1, h2, h3, h4⟩
theorem agp_inr {α : Type} {ok : α → Prop} {Inv : Mem → Mem → Prop} {exs : List Nat} {w : α} {x : Nat} {mc mm : Mem} (h1 : x ∈ exs) (h2 : mm 0 0 = (exs.idxOf x + 1 : Nat)) (h4 : Inv mc mm) : AgP ok Inv exs (.inr x, mc) (w, mm) := ⟨h1, h2, h4⟩
/-! ===== THE INVARIANT ===== -/
def told (mc : Mem) : Nat → Nat → Int := fun a b => mc (4 + a) b
/-- the walks, by the stops on the way -/
def fw (T : Nat → Nat → Int) (cut : Int) : Nat → Nat → Nat → Int
  | 0 => fun a b => if T a b = 0 ∨ (a : Int) = cut ∨ (b : Int) = cut then 1000000 else T a b
  | k + 1 => fun a b => if ¬ a = b ∧ ¬ a = k ∧ ¬ b = k ∧ fw T cut k a k + fw T cut k k b < fw T cut k a b then fw T cut k a k + fw T cut k k b else fw T cut k a b
def bit (x : Int) (d : Nat) : Int := if x.toNat.testBit d then 1 else 0
def IS (mc mm : Mem) : Prop := mm 0 1 = mc 1 0 ∧ 0 ≤ mc 1 0 ∧ mc 1 0 ≤ 12 ∧ mc 1 4 = -1 ∧ mm 0 5 = -1 ∧ (∀ a : Nat, (a : Int) < mc 1 0 → mm 1 a = mc 2 a ∧ 0 ≤ mc 2 a ∧ mc 2 a ≤ 30) ∧ (∀ a b : Nat, a < 12 → b < 12 → mm 2 (12 * a + b) = mc (4 + a) b ∧ 0 ≤ mc (4 + a) b ∧ mc (4 + a) b ≤ 60 ∧ (a = b → mc (4 + a) b = 0)) ∧ ∀ a b : Nat, (a : Int) < mc 1 0 → (b : Int) < mc 1 0 → mm 3 (12 * a + b) = if a = b then 0 else fw (told mc) (-1) (mc 1 0).toNat a b
def IV (mc mm : Mem) : Prop := mm 0 6 = mc 29 0 ∧ 0 ≤ mc 29 0 ∧ mc 29 0 ≤ 6 ∧ (∀ s : Nat, s < 6 → 0 ≤ mc 30 s ∧ mc 30 s < 268435456 ∧ (mc 29 0 ≤ s → mc 30 s = 0)) ∧ ∀ s d : Nat, s < 6 → d < 28 → mm 4 (28 * s + d) = bit (mc 30 s) d
def ITc (mc mm : Mem) (t c : Nat) : Prop := mm 7 (8 * t + c) = mc (35 + t) c ∧ 0 ≤ mc (35 + t) c ∧ mc (35 + t) c < mc 1 0 ∧ mm 8 (8 * t + c) = mc (60 + t) c ∧ mm 9 (8 * t + c) = mc (85 + t) c ∧ 0 ≤ mc (60 + t) c ∧ mc (60 + t) c ≤ mc (85 + t) c ∧ mc (85 + t) c ≤ 2879 ∧ (c = 0 → mc (60 + t) c = mc (85 + t) c) ∧ ((c + 1 : Int) < mc 33 t → mc (85 + t) c < mc (60 + t) (c + 1))
def IT (mc mm : Mem) : Prop := mm 0 8 = mc 31 0 ∧ 0 ≤ mc 31 0 ∧ mc 31 0 ≤ 24 ∧ ∀ t : Nat, (t : Int) < mc 31 0 → mm 5 t = mc 32 t ∧ 0 ≤ mc 32 t ∧ mc 32 t < mc 29 0 ∧ mm 6 t = mc 33 t ∧ 1 ≤ mc 33 t ∧ mc 33 t ≤ 8 ∧ ∀ c : Nat, (c : Int) < mc 33 t → ITc mc mm t c
def ID (mc mm : Mem) : Prop := mm 0 14 = mc 109 0 ∧ 0 ≤ mc 109 0 ∧ mc 109 0 ≤ 12 ∧ (∀ k : Nat, (k : Int) < mc 109 0 → mm 10 k = mc 110 k ∧ mm 11 k = mc 111 k ∧ mm 12 k = mc 112 k ∧ mm 13 k = mc 113 k ∧ 0 ≤ mc 112 k ∧ 1 ≤ mc 113 k ∧ mc 113 k ≤ 120) ∧ ∀ j k : Nat, (j : Int) < mc 109 0 → (k : Int) < mc 109 0 → mc 110 j = mc 110 k → mc 111 j = mc 111 k → j = k
def IR (mc mm : Mem) : Prop := mm 0 19 = mc 114 1 ∧ 0 ≤ mc 114 1 ∧ mc 114 1 ≤ 80 ∧ mm 0 21 = mc 114 2 ∧ ∀ k : Nat, (k : Int) < mc 114 1 → mm 14 k = mc 115 k ∧ 0 ≤ mc 115 k ∧ mc 115 k ≤ 65535
def IC (mc mm : Mem) : Prop := 0 ≤ mc 355 4 ∧ mc 355 4 ≤ 12 ∧ -1 ≤ mm 0 29 ∧ mc 355 4 = (if mm 0 29 < 0 then 0 else mm 0 29) ∧ ∀ k : Nat, (k : Int) < mc 355 4 → 0 ≤ mm 19 k ∧ mc 357 k = (mm 19 k).tmod 24 ∧ mc 358 k = (mm 19 k).tdiv 24 - 1 ∧ mc 359 k = mm 20 k ∧ mc 360 k = mm 21 k
def IW (mc mm : Mem) : Prop := mm 0 36 = mc 400 4 ∧ 0 ≤ mc 400 4 ∧ mc 400 4 ≤ 6 ∧ ∀ k : Nat, (k : Int) < mc 400 4 → mm 24 k = mc 401 k ∧ mm 25 k = mc 402 k ∧ mm 26 k = mc 403 k ∧ mm 27 k = mc 404 k ∧ mm 28 k = mc 405 k ∧ 0 ≤ mc 401 k ∧ mc 401 k < mc 31 0 ∧ 1 ≤ mc 402 k ∧ mc 402 k < mc 33 (mc 401 k).toNat ∧ 0 ≤ mc 403 k ∧ mc 403 k < mc 31 0 ∧ 0 ≤ mc 404 k ∧ mc 404 k + 1 < mc 33 (mc 403 k).toNat ∧ 1 ≤ mc 405 k ∧ mc 405 k ≤ 99
def Inv (mc mm : Mem) : Prop := IS mc mm ∧ IV mc mm ∧ IT mc mm ∧ ID mc mm ∧ IR mc mm ∧ IC mc mm ∧ IW mc mm
/-- what lasts -/
def pC (c i : Nat) : Prop := (c = 1 ∧ (i = 0 ∨ i = 4)) ∨ (2 ≤ c ∧ c ≤ 15) ∨ (29 ≤ c ∧ c ≤ 113) ∨ (c = 114 ∧ (i = 1 ∨ i = 2)) ∨ c = 115 ∨ (c = 355 ∧ i = 4) ∨ (357 ≤ c ∧ c ≤ 360) ∨ (c = 400 ∧ i = 4) ∨ (401 ≤ c ∧ c ≤ 405)
def pM (c i : Nat) : Prop := (c = 0 ∧ (i = 1 ∨ i = 5 ∨ i = 6 ∨ i = 8 ∨ i = 14 ∨ i = 19 ∨ i = 21 ∨ i = 29 ∨ i = 36)) ∨ (1 ≤ c ∧ c ≤ 14) ∨ (19 ≤ c ∧ c ≤ 21) ∨ (24 ≤ c ∧ c ≤ 28)
def cS (c i : Nat) : Prop := (c = 1 ∧ (i = 0 ∨ i = 4)) ∨ (2 ≤ c ∧ c ≤ 15)
def mS (c i : Nat) : Prop := (c = 0 ∧ (i = 1 ∨ i = 5)) ∨ (1 ≤ c ∧ c ≤ 3)
def cV (c i : Nat) : Prop := (c = 29 ∧ i = 0) ∨ c = 30
def mV (c i : Nat) : Prop := (c = 0 ∧ i = 6) ∨ c = 4
def cT (c i : Nat) : Prop := ((c = 1 ∨ c = 29 ∨ c = 31) ∧ i = 0) ∨ c = 32 ∨ c = 33 ∨ (35 ≤ c ∧ c ≤ 58) ∨ (60 ≤ c ∧ c ≤ 83) ∨ (85 ≤ c ∧ c ≤ 108)
def mT (c i : Nat) : Prop := (c = 0 ∧ i = 8) ∨ (5 ≤ c ∧ c ≤ 9)
def cD (c i : Nat) : Prop := (c = 109 ∧ i = 0) ∨ (110 ≤ c ∧ c ≤ 113)
def mD (c i : Nat) : Prop := (c = 0 ∧ i = 14) ∨ (10 ≤ c ∧ c ≤ 13)
def cR (c i : Nat) : Prop := (c = 114 ∧ (i = 1 ∨ i = 2)) ∨ c = 115
def mR (c i : Nat) : Prop := (c = 0 ∧ (i = 19 ∨ i = 21)) ∨ c = 14
def cK (c i : Nat) : Prop := (c = 355 ∧ i = 4) ∨ (357 ≤ c ∧ c ≤ 360)
def mK (c i : Nat) : Prop := (c = 0 ∧ i = 29) ∨ (19 ≤ c ∧ c ≤ 21)
def cW (c i : Nat) : Prop := (c = 31 ∧ i = 0) ∨ c = 33 ∨ (c = 400 ∧ i = 4) ∨ (401 ≤ c ∧ c ≤ 405)
def mW (c i : Nat) : Prop := (c = 0 ∧ i = 36) ∨ (24 ≤ c ∧ c ≤ 28)
section FRS
variable {mc mc' mm mm' : Mem}
theorem fw_congr {T T' : Nat → Nat → Int} {cut : Int} (h : ∀ a b, a < 12 → b < 12 → T' a b = T a b) : ∀ k a b, k ≤ 12 → a < 12 → b < 12 → fw T' cut k a b = fw T cut k a b := by
  intro k
  induction k with
  | zero => intro a b _ ha hb; simp only [fw]; rw [h a b ha hb]
  | succ k ih => intro a b hk ha hb; simp only [fw]; rw [ih a k (by omega) ha (by omega), ih k b (by omega) (by omega) hb, ih a b (by omega) ha hb]
theorem IS_fr (I : IS mc mm) (hc : ∀ c i, cS c i → mc' c i = mc c i) (hm : ∀ c i, mS c i → mm' c i = mm c i) : IS mc' mm' := by
  obtain ⟨i1, i2, i3, i4, i5, i6, i7, i8⟩ := I
  have e0 := hc 1 0 (by unfold cS; omega)
  have e4 := hc 1 4 (by unfold cS; omega)
  have f1 := hm 0 1 (by unfold mS; omega)
  have f5 := hm 0 5 (by unfold mS; omega)
  refine ⟨by omega, by omega, by omega, by omega, by omega, fun a ha => ?_, fun a b ha hb => ?_, fun a b ha hb => ?_⟩
  · have := i6 a (by omega)
    rw [hm 1 a (by unfold mS; omega), hc 2 a (by unfold cS; omega)]
    exact this
  · have := i7 a b ha hb
    rw [hm 2 _ (by unfold mS; omega), hc (4 + a) b (by unfold cS; omega)]
    exact this
  · have := i8 a b (by omega) (by omega)
    rw [hm 3 _ (by unfold mS; omega), this, e0]
    congr 1
    symm
    exact fw_congr (fun a b ha hb => by unfold told; exact hc (4 + a) b (by unfold cS; omega)) _ _ _ (by omega) (by omega) (by omega)
theorem IV_fr (I : IV mc mm) (hc : ∀ c i, cV c i → mc' c i = mc c i) (hm : ∀ c i, mV c i → mm' c i = mm c i) : IV mc' mm' := by
  obtain ⟨i1, i2, i3, i4, i5⟩ := I
  have e0 := hc 29 0 (by unfold cV; omega)
  have f1 := hm 0 6 (by unfold mV; omega)
  refine ⟨by omega, by omega, by omega, fun s hs => ?_, fun s d hs hd => ?_⟩
  · have := i4 s hs
    rw [hc 30 s (by unfold cV; omega), e0]
    exact this
  · have := i5 s d hs hd
    rw [hc 30 s (by unfold cV; omega), hm 4 _ (by unfold mV; omega)]
    exact this
theorem IT_fr (I : IT mc mm) (hc : ∀ c i, cT c i → mc' c i = mc c i) (hm : ∀ c i, mT c i → mm' c i = mm c i) : IT mc' mm' := by
  obtain ⟨i1, i2, i3, i4⟩ := I
  have e0 := hc 31 0 (by unfold cT; omega)
  have e1 := hc 1 0 (by unfold cT; omega)
  have e2 := hc 29 0 (by unfold cT; omega)
  have f1 := hm 0 8 (by unfold mT; omega)
  refine ⟨by omega, by omega, by omega, fun t ht => ?_⟩
  have q := i4 t (by omega)
  have ht2 : t < 24 := by omega
  rw [hm 5 t (by unfold mT; omega), hc 32 t (by unfold cT; omega), hm 6 t (by unfold mT; omega), hc 33 t (by unfold cT; omega), e2]
  refine ⟨q.1, q.2.1, q.2.2.1, q.2.2.2.1, q.2.2.2.2.1, q.2.2.2.2.2.1, fun c hcl => ?_⟩
  have r := q.2.2.2.2.2.2 c hcl
  unfold ITc at r ⊢
  rw [hm 7 _ (by unfold mT; omega), hm 8 _ (by unfold mT; omega), hm 9 _ (by unfold mT; omega), hc (35 + t) c (by unfold cT; omega), hc (60 + t) c (by unfold cT; omega), hc (85 + t) c (by unfold cT; omega), hc (60 + t) (c + 1) (by unfold cT; omega), hc 33 t (by unfold cT; omega), e1]
  exact r
theorem ID_fr (I : ID mc mm) (hc : ∀ c i, cD c i → mc' c i = mc c i) (hm : ∀ c i, mD c i → mm' c i = mm c i) : ID mc' mm' := by
  obtain ⟨i1, i2, i3, i4, i5⟩ := I
  have e0 := hc 109 0 (by unfold cD; omega)
  have f1 := hm 0 14 (by unfold mD; omega)
  refine ⟨by omega, by omega, by omega, fun k hk => ?_, fun j k hj hk => ?_⟩
  · have := i4 k (by omega)
    rw [hm 10 k (by unfold mD; omega), hm 11 k (by unfold mD; omega), hm 12 k (by unfold mD; omega), hm 13 k (by unfold mD; omega), hc 110 k (by unfold cD; omega), hc 111 k (by unfold cD; omega), hc 112 k (by unfold cD; omega), hc 113 k (by unfold cD; omega)]
    exact this
  · have := i5 j k (by omega) (by omega)
    rw [hc 110 j (by unfold cD; omega), hc 110 k (by unfold cD; omega), hc 111 j (by unfold cD; omega), hc 111 k (by unfold cD; omega)]
    exact this
theorem IR_fr (I : IR mc mm) (hc : ∀ c i, cR c i → mc' c i = mc c i) (hm : ∀ c i, mR c i → mm' c i = mm c i) : IR mc' mm' := by
  obtain ⟨i1, i2, i3, i4, i5⟩ := I
  have e0 := hc 114 1 (by unfold cR; omega)
  have e1 := hc 114 2 (by unfold cR; omega)
  have f1 := hm 0 19 (by unfold mR; omega)
  have f2 := hm 0 21 (by unfold mR; omega)
  refine ⟨by omega, by omega, by omega, by omega, fun k hk => ?_⟩
  have := i5 k (by omega)
  rw [hm 14 k (by unfold mR; omega), hc 115 k (by unfold cR; omega)]
  exact this
theorem IC_fr (I : IC mc mm) (hc : ∀ c i, cK c i → mc' c i = mc c i) (hm : ∀ c i, mK c i → mm' c i = mm c i) : IC mc' mm' := by
  obtain ⟨i1, i2, i3, i4, i5⟩ := I
  have e0 := hc 355 4 (by unfold cK; omega)
  have f1 := hm 0 29 (by unfold mK; omega)
  refine ⟨by omega, by omega, by omega, by rw [e0, f1]; exact i4, fun k hk => ?_⟩
  have := i5 k (by omega)
  rw [hm 19 k (by unfold mK; omega), hm 20 k (by unfold mK; omega), hm 21 k (by unfold mK; omega), hc 357 k (by unfold cK; omega), hc 358 k (by unfold cK; omega), hc 359 k (by unfold cK; omega), hc 360 k (by unfold cK; omega)]
  exact this
theorem IW_fr (I : IW mc mm) (hc : ∀ c i, cW c i → mc' c i = mc c i) (hm : ∀ c i, mW c i → mm' c i = mm c i) : IW mc' mm' := by
  obtain ⟨i1, i2, i3, i4⟩ := I
  have e0 := hc 400 4 (by unfold cW; omega)
  have e1 := hc 31 0 (by unfold cW; omega)
  have f1 := hm 0 36 (by unfold mW; omega)
  refine ⟨by omega, by omega, by omega, fun k hk => ?_⟩
  have := i4 k (by omega)
  rw [hm 24 k (by unfold mW; omega), hm 25 k (by unfold mW; omega), hm 26 k (by unfold mW; omega), hm 27 k (by unfold mW; omega), hm 28 k (by unfold mW; omega), hc 401 k (by unfold cW; omega), hc 402 k (by unfold cW; omega), hc 403 k (by unfold cW; omega), hc 404 k (by unfold cW; omega), hc 405 k (by unfold cW; omega), hc 33 _ (by unfold cW; omega), hc 33 _ (by unfold cW; omega), e1]
  exact this
theorem Inv_fr (I : Inv mc mm) (hc : ∀ c i, pC c i → mc' c i = mc c i) (hm : ∀ c i, pM c i → mm' c i = mm c i) : Inv mc' mm' := by
  obtain ⟨a, b, c, d, e, f, g⟩ := I
  refine ⟨IS_fr a (fun c i h => hc c i ?_) (fun c i h => hm c i ?_), IV_fr b (fun c i h => hc c i ?_) (fun c i h => hm c i ?_), IT_fr c (fun c i h => hc c i ?_) (fun c i h => hm c i ?_), ID_fr d (fun c i h => hc c i ?_) (fun c i h => hm c i ?_), IR_fr e (fun c i h => hc c i ?_) (fun c i h => hm c i ?_), IC_fr f (fun c i h => hc c i ?_) (fun c i h => hm c i ?_), IW_fr g (fun c i h => hc c i ?_) (fun c i h => hm c i ?_)⟩
  · unfold cS at h; unfold pC; omega
  · unfold mS at h; unfold pM; omega
  · unfold cV at h; unfold pC; omega
  · unfold mV at h; unfold pM; omega
  · unfold cT at h; unfold pC; omega
  · unfold mT at h; unfold pM; omega
  · unfold cD at h; unfold pC; omega
  · unfold mD at h; unfold pM; omega
  · unfold cR at h; unfold pC; omega
  · unfold mR at h; unfold pM; omega
  · unfold cK at h; unfold pC; omega
  · unfold mK at h; unfold pM; omega
  · unfold cW at h; unfold pC; omega
  · unfold mW at h; unfold pM; omega
theorem Inv_thr (I : Inv mc mm) (k : Int) : Inv mc (setM mm 0 0 k) := Inv_fr I (fun _ _ _ => rfl) (fun c i h => setM_ne (by unfold pM at h; omega))
theorem InvC_Inv : InvC Inv := fun mc mc' mm mm' h h' I => Inv_fr I (fun c i q => (h c (by unfold pC at q; omega) i).symm) (fun c i q => (h' c (by unfold pM at q; omega) i).symm)
end FRS
