/-! ===== rules for the binds of tuples ===== -/
theorem ok_bq1 {α1 β : Type} {x : Option (α1)} {f : α1 → Option β} {Q : (α1) → Prop} {P : β → Prop} (hx : Ok x Q) (h : ∀ a1, Q a1 → Ok (f a1) P) : Ok (bq1 x f) P := by
  obtain ⟨a1, rfl, hr⟩ := hx
  exact h _ hr
theorem ok_br1 {α1 β γ : Type} {w : γ → Option β} {x : Option ((α1) ⊕ γ)} {f : α1 → Option β} {Q : ((α1) ⊕ γ) → Prop} {P : β → Prop} (hx : Ok x Q) (h : ∀ a1, Q (.inl a1) → Ok (f a1) P) (h2 : ∀ q, Q (.inr q) → Ok (w q) P) : Ok (br1 w x f) P := by
  obtain ⟨s, rfl, hr⟩ := hx
  cases s with
  | inl q => exact h _ hr
  | inr q => exact h2 _ hr
theorem ok_bq2 {α1 α2 β : Type} {x : Option (α1 × α2)} {f : α1 → α2 → Option β} {Q : (α1 × α2) → Prop} {P : β → Prop} (hx : Ok x Q) (h : ∀ a1 a2, Q (a1, a2) → Ok (f a1 a2) P) : Ok (bq2 x f) P := by
  obtain ⟨⟨a1, a2⟩, rfl, hr⟩ := hx
  exact h _ _ hr
theorem ok_br2 {α1 α2 β γ : Type} {w : γ → Option β} {x : Option ((α1 × α2) ⊕ γ)} {f : α1 → α2 → Option β} {Q : ((α1 × α2) ⊕ γ) → Prop} {P : β → Prop} (hx : Ok x Q) (h : ∀ a1 a2, Q (.inl (a1, a2)) → Ok (f a1 a2) P) (h2 : ∀ q, Q (.inr q) → Ok (w q) P) : Ok (br2 w x f) P := by
  obtain ⟨s, rfl, hr⟩ := hx
  cases s with
  | inl q =>
    obtain ⟨a1, a2⟩ := q
    exact h _ _ hr
  | inr q => exact h2 _ hr
theorem ok_bq3 {α1 α2 α3 β : Type} {x : Option (α1 × α2 × α3)} {f : α1 → α2 → α3 → Option β} {Q : (α1 × α2 × α3) → Prop} {P : β → Prop} (hx : Ok x Q) (h : ∀ a1 a2 a3, Q (a1, a2, a3) → Ok (f a1 a2 a3) P) : Ok (bq3 x f) P := by
  obtain ⟨⟨a1, a2, a3⟩, rfl, hr⟩ := hx
  exact h _ _ _ hr
theorem ok_br3 {α1 α2 α3 β γ : Type} {w : γ → Option β} {x : Option ((α1 × α2 × α3) ⊕ γ)} {f : α1 → α2 → α3 → Option β} {Q : ((α1 × α2 × α3) ⊕ γ) → Prop} {P : β → Prop} (hx : Ok x Q) (h : ∀ a1 a2 a3, Q (.inl (a1, a2, a3)) → Ok (f a1 a2 a3) P) (h2 : ∀ q, Q (.inr q) → Ok (w q) P) : Ok (br3 w x f) P := by
  obtain ⟨s, rfl, hr⟩ := hx
  cases s with
  | inl q =>
    obtain ⟨a1, a2, a3⟩ := q
    exact h _ _ _ hr
  | inr q => exact h2 _ hr
theorem ok_bq4 {α1 α2 α3 α4 β : Type} {x : Option (α1 × α2 × α3 × α4)} {f : α1 → α2 → α3 → α4 → Option β} {Q : (α1 × α2 × α3 × α4) → Prop} {P : β → Prop} (hx : Ok x Q) (h : ∀ a1 a2 a3 a4, Q (a1, a2, a3, a4) → Ok (f a1 a2 a3 a4) P) : Ok (bq4 x f) P := by
  obtain ⟨⟨a1, a2, a3, a4⟩, rfl, hr⟩ := hx
  exact h _ _ _ _ hr
theorem ok_br4 {α1 α2 α3 α4 β γ : Type} {w : γ → Option β} {x : Option ((α1 × α2 × α3 × α4) ⊕ γ)} {f : α1 → α2 → α3 → α4 → Option β} {Q : ((α1 × α2 × α3 × α4) ⊕ γ) → Prop} {P : β → Prop} (hx : Ok x Q) (h : ∀ a1 a2 a3 a4, Q (.inl (a1, a2, a3, a4)) → Ok (f a1 a2 a3 a4) P) (h2 : ∀ q, Q (.inr q) → Ok (w q) P) : Ok (br4 w x f) P := by
  obtain ⟨s, rfl, hr⟩ := hx
  cases s with
  | inl q =>
    obtain ⟨a1, a2, a3, a4⟩ := q
    exact h _ _ _ _ hr
  | inr q => exact h2 _ hr
theorem ok_bq5 {α1 α2 α3 α4 α5 β : Type} {x : Option (α1 × α2 × α3 × α4 × α5)} {f : α1 → α2 → α3 → α4 → α5 → Option β} {Q : (α1 × α2 × α3 × α4 × α5) → Prop} {P : β → Prop} (hx : Ok x Q) (h : ∀ a1 a2 a3 a4 a5, Q (a1, a2, a3, a4, a5) → Ok (f a1 a2 a3 a4 a5) P) : Ok (bq5 x f) P := by
  obtain ⟨⟨a1, a2, a3, a4, a5⟩, rfl, hr⟩ := hx
  exact h _ _ _ _ _ hr
theorem ok_br5 {α1 α2 α3 α4 α5 β γ : Type} {w : γ → Option β} {x : Option ((α1 × α2 × α3 × α4 × α5) ⊕ γ)} {f : α1 → α2 → α3 → α4 → α5 → Option β} {Q : ((α1 × α2 × α3 × α4 × α5) ⊕ γ) → Prop} {P : β → Prop} (hx : Ok x Q) (h : ∀ a1 a2 a3 a4 a5, Q (.inl (a1, a2, a3, a4, a5)) → Ok (f a1 a2 a3 a4 a5) P) (h2 : ∀ q, Q (.inr q) → Ok (w q) P) : Ok (br5 w x f) P := by
  obtain ⟨s, rfl, hr⟩ := hx
  cases s with
  | inl q =>
    obtain ⟨a1, a2, a3, a4, a5⟩ := q
    exact h _ _ _ _ _ hr
  | inr q => exact h2 _ hr
theorem ok_bq6 {α1 α2 α3 α4 α5 α6 β : Type} {x : Option (α1 × α2 × α3 × α4 × α5 × α6)} {f : α1 → α2 → α3 → α4 → α5 → α6 → Option β} {Q : (α1 × α2 × α3 × α4 × α5 × α6) → Prop} {P : β → Prop} (hx : Ok x Q) (h : ∀ a1 a2 a3 a4 a5 a6, Q (a1, a2, a3, a4, a5, a6) → Ok (f a1 a2 a3 a4 a5 a6) P) : Ok (bq6 x f) P := by
  obtain ⟨⟨a1, a2, a3, a4, a5, a6⟩, rfl, hr⟩ := hx
  exact h _ _ _ _ _ _ hr
theorem ok_br6 {α1 α2 α3 α4 α5 α6 β γ : Type} {w : γ → Option β} {x : Option ((α1 × α2 × α3 × α4 × α5 × α6) ⊕ γ)} {f : α1 → α2 → α3 → α4 → α5 → α6 → Option β} {Q : ((α1 × α2 × α3 × α4 × α5 × α6) ⊕ γ) → Prop} {P : β → Prop} (hx : Ok x Q) (h : ∀ a1 a2 a3 a4 a5 a6, Q (.inl (a1, a2, a3, a4, a5, a6)) → Ok (f a1 a2 a3 a4 a5 a6) P) (h2 : ∀ q, Q (.inr q) → Ok (w q) P) : Ok (br6 w x f) P := by
  obtain ⟨s, rfl, hr⟩ := hx
  cases s with
  | inl q =>
    obtain ⟨a1, a2, a3, a4, a5, a6⟩ := q
    exact h _ _ _ _ _ _ hr
  | inr q => exact h2 _ hr
theorem ok_bq7 {α1 α2 α3 α4 α5 α6 α7 β : Type} {x : Option (α1 × α2 × α3 × α4 × α5 × α6 × α7)} {f : α1 → α2 → α3 → α4 → α5 → α6 → α7 → Option β} {Q : (α1 × α2 × α3 × α4 × α5 × α6 × α7) → Prop} {P : β → Prop} (hx : Ok x Q) (h : ∀ a1 a2 a3 a4 a5 a6 a7, Q (a1, a2, a3, a4, a5, a6, a7) → Ok (f a1 a2 a3 a4 a5 a6 a7) P) : Ok (bq7 x f) P := by
  obtain ⟨⟨a1, a2, a3, a4, a5, a6, a7⟩, rfl, hr⟩ := hx
  exact h _ _ _ _ _ _ _ hr
theorem ok_br7 {α1 α2 α3 α4 α5 α6 α7 β γ : Type} {w : γ → Option β} {x : Option ((α1 × α2 × α3 × α4 × α5 × α6 × α7) ⊕ γ)} {f : α1 → α2 → α3 → α4 → α5 → α6 → α7 → Option β} {Q : ((α1 × α2 × α3 × α4 × α5 × α6 × α7) ⊕ γ) → Prop} {P : β → Prop} (hx : Ok x Q) (h : ∀ a1 a2 a3 a4 a5 a6 a7, Q (.inl (a1, a2, a3, a4, a5, a6, a7)) → Ok (f a1 a2 a3 a4 a5 a6 a7) P) (h2 : ∀ q, Q (.inr q) → Ok (w q) P) : Ok (br7 w x f) P := by
  obtain ⟨s, rfl, hr⟩ := hx
  cases s with
  | inl q =>
    obtain ⟨a1, a2, a3, a4, a5, a6, a7⟩ := q
    exact h _ _ _ _ _ _ _ hr
  | inr q => exact h2 _ hr
theorem ok_bq8 {α1 α2 α3 α4 α5 α6 α7 α8 β : Type} {x : Option (α1 × α2 × α3 × α4 × α5 × α6 × α7 × α8)} {f : α1 → α2 → α3 → α4 → α5 → α6 → α7 → α8 → Option β} {Q : (α1 × α2 × α3 × α4 × α5 × α6 × α7 × α8) → Prop} {P : β → Prop} (hx : Ok x Q) (h : ∀ a1 a2 a3 a4 a5 a6 a7 a8, Q (a1, a2, a3, a4, a5, a6, a7, a8) → Ok (f a1 a2 a3 a4 a5 a6 a7 a8) P) : Ok (bq8 x f) P := by
  obtain ⟨⟨a1, a2, a3, a4, a5, a6, a7, a8⟩, rfl, hr⟩ := hx
  exact h _ _ _ _ _ _ _ _ hr
theorem ok_br8 {α1 α2 α3 α4 α5 α6 α7 α8 β γ : Type} {w : γ → Option β} {x : Option ((α1 × α2 × α3 × α4 × α5 × α6 × α7 × α8) ⊕ γ)} {f : α1 → α2 → α3 → α4 → α5 → α6 → α7 → α8 → Option β} {Q : ((α1 × α2 × α3 × α4 × α5 × α6 × α7 × α8) ⊕ γ) → Prop} {P : β → Prop} (hx : Ok x Q) (h : ∀ a1 a2 a3 a4 a5 a6 a7 a8, Q (.inl (a1, a2, a3, a4, a5, a6, a7, a8)) → Ok (f a1 a2 a3 a4 a5 a6 a7 a8) P) (h2 : ∀ q, Q (.inr q) → Ok (w q) P) : Ok (br8 w x f) P := by
  obtain ⟨s, rfl, hr⟩ := hx
  cases s with
  | inl q =>
    obtain ⟨a1, a2, a3, a4, a5, a6, a7, a8⟩ := q
    exact h _ _ _ _ _ _ _ _ hr
  | inr q => exact h2 _ hr
theorem ok_bq9 {α1 α2 α3 α4 α5 α6 α7 α8 α9 β : Type} {x : Option (α1 × α2 × α3 × α4 × α5 × α6 × α7 × α8 × α9)} {f : α1 → α2 → α3 → α4 → α5 → α6 → α7 → α8 → α9 → Option β} {Q : (α1 × α2 × α3 × α4 × α5 × α6 × α7 × α8 × α9) → Prop} {P : β → Prop} (hx : Ok x Q) (h : ∀ a1 a2 a3 a4 a5 a6 a7 a8 a9, Q (a1, a2, a3, a4, a5, a6, a7, a8, a9) → Ok (f a1 a2 a3 a4 a5 a6 a7 a8 a9) P) : Ok (bq9 x f) P := by
  obtain ⟨⟨a1, a2, a3, a4, a5, a6, a7, a8, a9⟩, rfl, hr⟩ := hx
  exact h _ _ _ _ _ _ _ _ _ hr
theorem ok_br9 {α1 α2 α3 α4 α5 α6 α7 α8 α9 β γ : Type} {w : γ → Option β} {x : Option ((α1 × α2 × α3 × α4 × α5 × α6 × α7 × α8 × α9) ⊕ γ)} {f : α1 → α2 → α3 → α4 → α5 → α6 → α7 → α8 → α9 → Option β} {Q : ((α1 × α2 × α3 × α4 × α5 × α6 × α7 × α8 × α9) ⊕ γ) → Prop} {P : β → Prop} (hx : Ok x Q) (h : ∀ a1 a2 a3 a4 a5 a6 a7 a8 a9, Q (.inl (a1, a2, a3, a4, a5, a6, a7, a8, a9)) → Ok (f a1 a2 a3 a4 a5 a6 a7 a8 a9) P) (h2 : ∀ q, Q (.inr q) → Ok (w q) P) : Ok (br9 w x f) P := by
  obtain ⟨s, rfl, hr⟩ := hx
  cases s with
  | inl q =>
    obtain ⟨a1, a2, a3, a4, a5, a6, a7, a8, a9⟩ := q
    exact h _ _ _ _ _ _ _ _ _ hr
  | inr q => exact h2 _ hr
theorem ok_tbd {α β : Type} {q : (α ⊕ Nat) × Mem} {f : α → Mem → Option ((β ⊕ Nat) × Mem)} {P : (β ⊕ Nat) × Mem → Prop} (h1 : ∀ a m, q = (.inl a, m) → Ok (f a m) P) (h2 : ∀ x m, q = (.inr x, m) → P (.inr x, m)) : Ok (tbd q f) P := by
  obtain ⟨a | x, m⟩ := q
  · exact h1 a m rfl
  · exact ⟨_, rfl, h2 x m rfl⟩
