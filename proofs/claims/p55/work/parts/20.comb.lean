/-! ===== THE COMBINATORS of the F functions ===== -/
noncomputable def grd {α : Type} (P : Prop) (x : Option α) : Option α := @ite _ P (Classical.propDecidable P) x none
theorem grd_pos {α : Type} {P : Prop} {x : Option α} (h : P) : grd P x = x := by
  unfold grd
  exact if_pos h
theorem grd_some {α : Type} {P : Prop} {x : Option α} {r : α} (h : grd P x = some r) : P ∧ x = some r := by
  unfold grd at h
  by_cases hp : P
  · rw [if_pos hp] at h
    exact ⟨hp, h⟩
  · rw [if_neg hp] at h
    cases h
def ltv {α β : Type} (e : α) (f : α → β) : β := f e
theorem ltv_elim {α β : Type} {e : α} {f : α → β} {r : β} (h : ltv e f = r) : ∃ v, v = e ∧ f v = r := ⟨e, rfl, h⟩
theorem ite_pos {c : Prop} [Decidable c] {α : Type} {a b r : α} (h : (if c then a else b) = r) (hc : c) : a = r := by rw [if_pos hc] at h; exact h
theorem ite_neg {c : Prop} [Decidable c] {α : Type} {a b r : α} (h : (if c then a else b) = r) (hc : ¬ c) : b = r := by rw [if_neg hc] at h; exact h
theorem bnd_some {α β : Type} {x : Option α} {f : α → Option β} {r : β} (h : x.bind f = some r) : ∃ a, x = some a ∧ f a = some r := by
  cases x with
  | none => cases h
  | some a => exact ⟨a, rfl, h⟩
def iter {σ ρ : Type} (b : σ → Option (σ ⊕ ρ)) : Nat → σ → Option ρ
  | 0, _ => none
  | n + 1, s => (b s).bind fun x => match x with
    | .inl s' => iter b n s'
    | .inr q => some q
def nx {σ ρ : Type} (b : σ → Option (σ ⊕ ρ)) (n : Nat) (x : σ ⊕ ρ) : Option ρ := match x with
  | .inl s' => iter b n s'
  | .inr q => some q
theorem iter_succ {σ ρ : Type} {b : σ → Option (σ ⊕ ρ)} {n : Nat} {s : σ} {r : ρ} (h : iter b (n + 1) s = some r) : ∃ x, b s = some x ∧ nx b n x = some r := by
  obtain ⟨x, h1, h2⟩ := bnd_some h
  refine ⟨x, h1, ?_⟩
  cases x <;> exact h2
theorem iter_next {σ ρ : Type} {b : σ → Option (σ ⊕ ρ)} {n : Nat} {a : σ} {x : σ ⊕ ρ} {r : ρ} (h : some (Sum.inl a : σ ⊕ ρ) = some x) (hc : nx b n x = some r) : iter b n a = some r := by
  cases h
  exact hc
theorem iter_exit {σ ρ : Type} {b : σ → Option (σ ⊕ ρ)} {n : Nat} {q : ρ} {x : σ ⊕ ρ} {r : ρ} (h : some (Sum.inr q : σ ⊕ ρ) = some x) (hc : nx b n x = some r) : q = r := by
  cases h
  exact Option.some.inj hc
theorem iter_det {σ ρ : Type} {b : σ → Option (σ ⊕ ρ)} : ∀ (n k : Nat) (s : σ) (r q : ρ), iter b n s = some r → iter b k s = some q → r = q := by
  intro n
  induction n with
  | zero => intro k s r q h; cases h
  | succ n ih =>
    intro k s r q h1 h2
    cases k with
    | zero => cases h2
    | succ k =>
      obtain ⟨x, e1, c1⟩ := iter_succ h1
      obtain ⟨y, e2, c2⟩ := iter_succ h2
      cases e1.symm.trans e2
      cases x with
      | inl s' => exact ih k s' r q c1 c2
      | inr z => exact (Option.some.inj c1).symm.trans (Option.some.inj c2)
noncomputable def loop {σ ρ : Type} (b : σ → Option (σ ⊕ ρ)) (s : σ) : Option ρ := @dite _ (∃ (n : Nat) (r : ρ), iter b n s = some r) (Classical.propDecidable _) (fun h => some h.choose_spec.choose) (fun _ => none)
theorem loop_iter {σ ρ : Type} {b : σ → Option (σ ⊕ ρ)} {s : σ} {r : ρ} (h : loop b s = some r) : ∃ n, iter b n s = some r := by
  unfold loop at h
  by_cases hp : ∃ (n : Nat) (r : ρ), iter b n s = some r
  · rw [dif_pos hp] at h
    refine ⟨hp.choose, ?_⟩
    rw [← h]
    exact hp.choose_spec.choose_spec
  · rw [dif_neg hp] at h
    cases h
theorem iter_loop {σ ρ : Type} {b : σ → Option (σ ⊕ ρ)} {n : Nat} {s : σ} {r : ρ} (h : iter b n s = some r) : loop b s = some r := by
  have hp : ∃ (n : Nat) (r : ρ), iter b n s = some r := ⟨n, r, h⟩
  unfold loop
  rw [dif_pos hp]
  exact congrArg some (iter_det _ _ _ _ _ hp.choose_spec.choose_spec h)
/-- a loop's first turn -/
theorem loop_eq {σ ρ : Type} {b : σ → Option (σ ⊕ ρ)} {s : σ} : loop b s = (b s).bind fun x => match x with | .inl s' => loop b s' | .inr q => some q := by
  cases hb : b s with
  | none =>
    cases hl : loop b s with
    | none => rfl
    | some r =>
      obtain ⟨n, hn⟩ := loop_iter hl
      cases n with
      | zero => cases hn
      | succ n =>
        obtain ⟨x, e1, -⟩ := iter_succ hn
        rw [hb] at e1
        cases e1
  | some x =>
    cases x with
    | inr q => exact iter_loop (n := 1) (by simp [iter, hb])
    | inl s' =>
      show loop b s = loop b s'
      cases hl : loop b s' with
      | some r =>
        obtain ⟨n, hn⟩ := loop_iter hl
        exact iter_loop (n := n + 1) (by simp [iter, hb, hn])
      | none =>
        cases hm : loop b s with
        | none => rfl
        | some r =>
          obtain ⟨n, hn⟩ := loop_iter hm
          cases n with
          | zero => cases hn
          | succ n =>
            obtain ⟨x, e1, c1⟩ := iter_succ hn
            rw [hb] at e1
            cases e1
            rw [iter_loop c1] at hl
            cases hl

def bq1 {α1 β : Type} (x : Option (α1)) (f : α1 → Option β) : Option β := x.bind fun s => f s
theorem bq1_some {α1 β : Type} {x : Option (α1)} {f : α1 → Option β} {r : β} (h : bq1 x f = some r) : ∃ a1, x = some a1 ∧ f a1 = some r := by
  obtain ⟨s, h1, h2⟩ := bnd_some h
  exact ⟨s, h1, h2⟩
def brm1 {α1 β γ : Type} (w : γ → Option β) (f : α1 → Option β) (s : (α1) ⊕ γ) : Option β := match s with
  | .inl q => f q
  | .inr q => w q
def br1 {α1 β γ : Type} (w : γ → Option β) (x : Option ((α1) ⊕ γ)) (f : α1 → Option β) : Option β := x.bind (brm1 w f)
theorem br1_some {α1 β γ : Type} {w : γ → Option β} {x : Option ((α1) ⊕ γ)} {f : α1 → Option β} {r : β} (h : br1 w x f = some r) : ∃ s, x = some s ∧ brm1 w f s = some r := bnd_some h
theorem brm1_inl {α1 β γ : Type} {w : γ → Option β} {f : α1 → Option β} {a1 : _} {r : β} (h : brm1 w f (.inl a1) = some r) : f a1 = some r := h
theorem brm1_inr {α1 β γ : Type} {w : γ → Option β} {f : α1 → Option β} {q : γ} {r : β} (h : brm1 w f (.inr q) = some r) : w q = some r := h
def bq2 {α1 α2 β : Type} (x : Option (α1 × α2)) (f : α1 → α2 → Option β) : Option β := x.bind fun s => f s.1 s.2
theorem bq2_some {α1 α2 β : Type} {x : Option (α1 × α2)} {f : α1 → α2 → Option β} {r : β} (h : bq2 x f = some r) : ∃ a1 a2, x = some (a1, a2) ∧ f a1 a2 = some r := by
  obtain ⟨s, h1, h2⟩ := bnd_some h
  exact ⟨s.1, s.2, h1, h2⟩
def brm2 {α1 α2 β γ : Type} (w : γ → Option β) (f : α1 → α2 → Option β) (s : (α1 × α2) ⊕ γ) : Option β := match s with
  | .inl q => f q.1 q.2
  | .inr q => w q
def br2 {α1 α2 β γ : Type} (w : γ → Option β) (x : Option ((α1 × α2) ⊕ γ)) (f : α1 → α2 → Option β) : Option β := x.bind (brm2 w f)
theorem br2_some {α1 α2 β γ : Type} {w : γ → Option β} {x : Option ((α1 × α2) ⊕ γ)} {f : α1 → α2 → Option β} {r : β} (h : br2 w x f = some r) : ∃ s, x = some s ∧ brm2 w f s = some r := bnd_some h
theorem brm2_inl {α1 α2 β γ : Type} {w : γ → Option β} {f : α1 → α2 → Option β} {a1 a2 : _} {r : β} (h : brm2 w f (.inl (a1, a2)) = some r) : f a1 a2 = some r := h
theorem brm2_inr {α1 α2 β γ : Type} {w : γ → Option β} {f : α1 → α2 → Option β} {q : γ} {r : β} (h : brm2 w f (.inr q) = some r) : w q = some r := h
def bq3 {α1 α2 α3 β : Type} (x : Option (α1 × α2 × α3)) (f : α1 → α2 → α3 → Option β) : Option β := x.bind fun s => f s.1 s.2.1 s.2.2
theorem bq3_some {α1 α2 α3 β : Type} {x : Option (α1 × α2 × α3)} {f : α1 → α2 → α3 → Option β} {r : β} (h : bq3 x f = some r) : ∃ a1 a2 a3, x = some (a1, a2, a3) ∧ f a1 a2 a3 = some r := by
  obtain ⟨s, h1, h2⟩ := bnd_some h
  exact ⟨s.1, s.2.1, s.2.2, h1, h2⟩
def brm3 {α1 α2 α3 β γ : Type} (w : γ → Option β) (f : α1 → α2 → α3 → Option β) (s : (α1 × α2 × α3) ⊕ γ) : Option β := match s with
  | .inl q => f q.1 q.2.1 q.2.2
  | .inr q => w q
def br3 {α1 α2 α3 β γ : Type} (w : γ → Option β) (x : Option ((α1 × α2 × α3) ⊕ γ)) (f : α1 → α2 → α3 → Option β) : Option β := x.bind (brm3 w f)
theorem br3_some {α1 α2 α3 β γ : Type} {w : γ → Option β} {x : Option ((α1 × α2 × α3) ⊕ γ)} {f : α1 → α2 → α3 → Option β} {r : β} (h : br3 w x f = some r) : ∃ s, x = some s ∧ brm3 w f s = some r := bnd_some h
theorem brm3_inl {α1 α2 α3 β γ : Type} {w : γ → Option β} {f : α1 → α2 → α3 → Option β} {a1 a2 a3 : _} {r : β} (h : brm3 w f (.inl (a1, a2, a3)) = some r) : f a1 a2 a3 = some r := h
theorem brm3_inr {α1 α2 α3 β γ : Type} {w : γ → Option β} {f : α1 → α2 → α3 → Option β} {q : γ} {r : β} (h : brm3 w f (.inr q) = some r) : w q = some r := h
def bq4 {α1 α2 α3 α4 β : Type} (x : Option (α1 × α2 × α3 × α4)) (f : α1 → α2 → α3 → α4 → Option β) : Option β := x.bind fun s => f s.1 s.2.1 s.2.2.1 s.2.2.2
theorem bq4_some {α1 α2 α3 α4 β : Type} {x : Option (α1 × α2 × α3 × α4)} {f : α1 → α2 → α3 → α4 → Option β} {r : β} (h : bq4 x f = some r) : ∃ a1 a2 a3 a4, x = some (a1, a2, a3, a4) ∧ f a1 a2 a3 a4 = some r := by
  obtain ⟨s, h1, h2⟩ := bnd_some h
  exact ⟨s.1, s.2.1, s.2.2.1, s.2.2.2, h1, h2⟩
def brm4 {α1 α2 α3 α4 β γ : Type} (w : γ → Option β) (f : α1 → α2 → α3 → α4 → Option β) (s : (α1 × α2 × α3 × α4) ⊕ γ) : Option β := match s with
  | .inl q => f q.1 q.2.1 q.2.2.1 q.2.2.2
  | .inr q => w q
def br4 {α1 α2 α3 α4 β γ : Type} (w : γ → Option β) (x : Option ((α1 × α2 × α3 × α4) ⊕ γ)) (f : α1 → α2 → α3 → α4 → Option β) : Option β := x.bind (brm4 w f)
theorem br4_some {α1 α2 α3 α4 β γ : Type} {w : γ → Option β} {x : Option ((α1 × α2 × α3 × α4) ⊕ γ)} {f : α1 → α2 → α3 → α4 → Option β} {r : β} (h : br4 w x f = some r) : ∃ s, x = some s ∧ brm4 w f s = some r := bnd_some h
theorem brm4_inl {α1 α2 α3 α4 β γ : Type} {w : γ → Option β} {f : α1 → α2 → α3 → α4 → Option β} {a1 a2 a3 a4 : _} {r : β} (h : brm4 w f (.inl (a1, a2, a3, a4)) = some r) : f a1 a2 a3 a4 = some r := h
theorem brm4_inr {α1 α2 α3 α4 β γ : Type} {w : γ → Option β} {f : α1 → α2 → α3 → α4 → Option β} {q : γ} {r : β} (h : brm4 w f (.inr q) = some r) : w q = some r := h
def bq5 {α1 α2 α3 α4 α5 β : Type} (x : Option (α1 × α2 × α3 × α4 × α5)) (f : α1 → α2 → α3 → α4 → α5 → Option β) : Option β := x.bind fun s => f s.1 s.2.1 s.2.2.1 s.2.2.2.1 s.2.2.2.2
theorem bq5_some {α1 α2 α3 α4 α5 β : Type} {x : Option (α1 × α2 × α3 × α4 × α5)} {f : α1 → α2 → α3 → α4 → α5 → Option β} {r : β} (h : bq5 x f = some r) : ∃ a1 a2 a3 a4 a5, x = some (a1, a2, a3, a4, a5) ∧ f a1 a2 a3 a4 a5 = some r := by
  obtain ⟨s, h1, h2⟩ := bnd_some h
  exact ⟨s.1, s.2.1, s.2.2.1, s.2.2.2.1, s.2.2.2.2, h1, h2⟩
def brm5 {α1 α2 α3 α4 α5 β γ : Type} (w : γ → Option β) (f : α1 → α2 → α3 → α4 → α5 → Option β) (s : (α1 × α2 × α3 × α4 × α5) ⊕ γ) : Option β := match s with
  | .inl q => f q.1 q.2.1 q.2.2.1 q.2.2.2.1 q.2.2.2.2
  | .inr q => w q
def br5 {α1 α2 α3 α4 α5 β γ : Type} (w : γ → Option β) (x : Option ((α1 × α2 × α3 × α4 × α5) ⊕ γ)) (f : α1 → α2 → α3 → α4 → α5 → Option β) : Option β := x.bind (brm5 w f)
theorem br5_some {α1 α2 α3 α4 α5 β γ : Type} {w : γ → Option β} {x : Option ((α1 × α2 × α3 × α4 × α5) ⊕ γ)} {f : α1 → α2 → α3 → α4 → α5 → Option β} {r : β} (h : br5 w x f = some r) : ∃ s, x = some s ∧ brm5 w f s = some r := bnd_some h
theorem brm5_inl {α1 α2 α3 α4 α5 β γ : Type} {w : γ → Option β} {f : α1 → α2 → α3 → α4 → α5 → Option β} {a1 a2 a3 a4 a5 : _} {r : β} (h : brm5 w f (.inl (a1, a2, a3, a4, a5)) = some r) : f a1 a2 a3 a4 a5 = some r := h
theorem brm5_inr {α1 α2 α3 α4 α5 β γ : Type} {w : γ → Option β} {f : α1 → α2 → α3 → α4 → α5 → Option β} {q : γ} {r : β} (h : brm5 w f (.inr q) = some r) : w q = some r := h
def bq6 {α1 α2 α3 α4 α5 α6 β : Type} (x : Option (α1 × α2 × α3 × α4 × α5 × α6)) (f : α1 → α2 → α3 → α4 → α5 → α6 → Option β) : Option β := x.bind fun s => f s.1 s.2.1 s.2.2.1 s.2.2.2.1 s.2.2.2.2.1 s.2.2.2.2.2
theorem bq6_some {α1 α2 α3 α4 α5 α6 β : Type} {x : Option (α1 × α2 × α3 × α4 × α5 × α6)} {f : α1 → α2 → α3 → α4 → α5 → α6 → Option β} {r : β} (h : bq6 x f = some r) : ∃ a1 a2 a3 a4 a5 a6, x = some (a1, a2, a3, a4, a5, a6) ∧ f a1 a2 a3 a4 a5 a6 = some r := by
  obtain ⟨s, h1, h2⟩ := bnd_some h
  exact ⟨s.1, s.2.1, s.2.2.1, s.2.2.2.1, s.2.2.2.2.1, s.2.2.2.2.2, h1, h2⟩
def brm6 {α1 α2 α3 α4 α5 α6 β γ : Type} (w : γ → Option β) (f : α1 → α2 → α3 → α4 → α5 → α6 → Option β) (s : (α1 × α2 × α3 × α4 × α5 × α6) ⊕ γ) : Option β := match s with
  | .inl q => f q.1 q.2.1 q.2.2.1 q.2.2.2.1 q.2.2.2.2.1 q.2.2.2.2.2
  | .inr q => w q
def br6 {α1 α2 α3 α4 α5 α6 β γ : Type} (w : γ → Option β) (x : Option ((α1 × α2 × α3 × α4 × α5 × α6) ⊕ γ)) (f : α1 → α2 → α3 → α4 → α5 → α6 → Option β) : Option β := x.bind (brm6 w f)
theorem br6_some {α1 α2 α3 α4 α5 α6 β γ : Type} {w : γ → Option β} {x : Option ((α1 × α2 × α3 × α4 × α5 × α6) ⊕ γ)} {f : α1 → α2 → α3 → α4 → α5 → α6 → Option β} {r : β} (h : br6 w x f = some r) : ∃ s, x = some s ∧ brm6 w f s = some r := bnd_some h
theorem brm6_inl {α1 α2 α3 α4 α5 α6 β γ : Type} {w : γ → Option β} {f : α1 → α2 → α3 → α4 → α5 → α6 → Option β} {a1 a2 a3 a4 a5 a6 : _} {r : β} (h : brm6 w f (.inl (a1, a2, a3, a4, a5, a6)) = some r) : f a1 a2 a3 a4 a5 a6 = some r := h
theorem brm6_inr {α1 α2 α3 α4 α5 α6 β γ : Type} {w : γ → Option β} {f : α1 → α2 → α3 → α4 → α5 → α6 → Option β} {q : γ} {r : β} (h : brm6 w f (.inr q) = some r) : w q = some r := h
def bq7 {α1 α2 α3 α4 α5 α6 α7 β : Type} (x : Option (α1 × α2 × α3 × α4 × α5 × α6 × α7)) (f : α1 → α2 → α3 → α4 → α5 → α6 → α7 → Option β) : Option β := x.bind fun s => f s.1 s.2.1 s.2.2.1 s.2.2.2.1 s.2.2.2.2.1 s.2.2.2.2.2.1 s.2.2.2.2.2.2
theorem bq7_some {α1 α2 α3 α4 α5 α6 α7 β : Type} {x : Option (α1 × α2 × α3 × α4 × α5 × α6 × α7)} {f : α1 → α2 → α3 → α4 → α5 → α6 → α7 → Option β} {r : β} (h : bq7 x f = some r) : ∃ a1 a2 a3 a4 a5 a6 a7, x = some (a1, a2, a3, a4, a5, a6, a7) ∧ f a1 a2 a3 a4 a5 a6 a7 = some r := by
  obtain ⟨s, h1, h2⟩ := bnd_some h
  exact ⟨s.1, s.2.1, s.2.2.1, s.2.2.2.1, s.2.2.2.2.1, s.2.2.2.2.2.1, s.2.2.2.2.2.2, h1, h2⟩
def brm7 {α1 α2 α3 α4 α5 α6 α7 β γ : Type} (w : γ → Option β) (f : α1 → α2 → α3 → α4 → α5 → α6 → α7 → Option β) (s : (α1 × α2 × α3 × α4 × α5 × α6 × α7) ⊕ γ) : Option β := match s with
  | .inl q => f q.1 q.2.1 q.2.2.1 q.2.2.2.1 q.2.2.2.2.1 q.2.2.2.2.2.1 q.2.2.2.2.2.2
  | .inr q => w q
def br7 {α1 α2 α3 α4 α5 α6 α7 β γ : Type} (w : γ → Option β) (x : Option ((α1 × α2 × α3 × α4 × α5 × α6 × α7) ⊕ γ)) (f : α1 → α2 → α3 → α4 → α5 → α6 → α7 → Option β) : Option β := x.bind (brm7 w f)
theorem br7_some {α1 α2 α3 α4 α5 α6 α7 β γ : Type} {w : γ → Option β} {x : Option ((α1 × α2 × α3 × α4 × α5 × α6 × α7) ⊕ γ)} {f : α1 → α2 → α3 → α4 → α5 → α6 → α7 → Option β} {r : β} (h : br7 w x f = some r) : ∃ s, x = some s ∧ brm7 w f s = some r := bnd_some h
theorem brm7_inl {α1 α2 α3 α4 α5 α6 α7 β γ : Type} {w : γ → Option β} {f : α1 → α2 → α3 → α4 → α5 → α6 → α7 → Option β} {a1 a2 a3 a4 a5 a6 a7 : _} {r : β} (h : brm7 w f (.inl (a1, a2, a3, a4, a5, a6, a7)) = some r) : f a1 a2 a3 a4 a5 a6 a7 = some r := h
theorem brm7_inr {α1 α2 α3 α4 α5 α6 α7 β γ : Type} {w : γ → Option β} {f : α1 → α2 → α3 → α4 → α5 → α6 → α7 → Option β} {q : γ} {r : β} (h : brm7 w f (.inr q) = some r) : w q = some r := h
def bq8 {α1 α2 α3 α4 α5 α6 α7 α8 β : Type} (x : Option (α1 × α2 × α3 × α4 × α5 × α6 × α7 × α8)) (f : α1 → α2 → α3 → α4 → α5 → α6 → α7 → α8 → Option β) : Option β := x.bind fun s => f s.1 s.2.1 s.2.2.1 s.2.2.2.1 s.2.2.2.2.1 s.2.2.2.2.2.1 s.2.2.2.2.2.2.1 s.2.2.2.2.2.2.2
theorem bq8_some {α1 α2 α3 α4 α5 α6 α7 α8 β : Type} {x : Option (α1 × α2 × α3 × α4 × α5 × α6 × α7 × α8)} {f : α1 → α2 → α3 → α4 → α5 → α6 → α7 → α8 → Option β} {r : β} (h : bq8 x f = some r) : ∃ a1 a2 a3 a4 a5 a6 a7 a8, x = some (a1, a2, a3, a4, a5, a6, a7, a8) ∧ f a1 a2 a3 a4 a5 a6 a7 a8 = some r := by
  obtain ⟨s, h1, h2⟩ := bnd_some h
  exact ⟨s.1, s.2.1, s.2.2.1, s.2.2.2.1, s.2.2.2.2.1, s.2.2.2.2.2.1, s.2.2.2.2.2.2.1, s.2.2.2.2.2.2.2, h1, h2⟩
def brm8 {α1 α2 α3 α4 α5 α6 α7 α8 β γ : Type} (w : γ → Option β) (f : α1 → α2 → α3 → α4 → α5 → α6 → α7 → α8 → Option β) (s : (α1 × α2 × α3 × α4 × α5 × α6 × α7 × α8) ⊕ γ) : Option β := match s with
  | .inl q => f q.1 q.2.1 q.2.2.1 q.2.2.2.1 q.2.2.2.2.1 q.2.2.2.2.2.1 q.2.2.2.2.2.2.1 q.2.2.2.2.2.2.2
  | .inr q => w q
def br8 {α1 α2 α3 α4 α5 α6 α7 α8 β γ : Type} (w : γ → Option β) (x : Option ((α1 × α2 × α3 × α4 × α5 × α6 × α7 × α8) ⊕ γ)) (f : α1 → α2 → α3 → α4 → α5 → α6 → α7 → α8 → Option β) : Option β := x.bind (brm8 w f)
theorem br8_some {α1 α2 α3 α4 α5 α6 α7 α8 β γ : Type} {w : γ → Option β} {x : Option ((α1 × α2 × α3 × α4 × α5 × α6 × α7 × α8) ⊕ γ)} {f : α1 → α2 → α3 → α4 → α5 → α6 → α7 → α8 → Option β} {r : β} (h : br8 w x f = some r) : ∃ s, x = some s ∧ brm8 w f s = some r := bnd_some h
theorem brm8_inl {α1 α2 α3 α4 α5 α6 α7 α8 β γ : Type} {w : γ → Option β} {f : α1 → α2 → α3 → α4 → α5 → α6 → α7 → α8 → Option β} {a1 a2 a3 a4 a5 a6 a7 a8 : _} {r : β} (h : brm8 w f (.inl (a1, a2, a3, a4, a5, a6, a7, a8)) = some r) : f a1 a2 a3 a4 a5 a6 a7 a8 = some r := h
theorem brm8_inr {α1 α2 α3 α4 α5 α6 α7 α8 β γ : Type} {w : γ → Option β} {f : α1 → α2 → α3 → α4 → α5 → α6 → α7 → α8 → Option β} {q : γ} {r : β} (h : brm8 w f (.inr q) = some r) : w q = some r := h
def bq9 {α1 α2 α3 α4 α5 α6 α7 α8 α9 β : Type} (x : Option (α1 × α2 × α3 × α4 × α5 × α6 × α7 × α8 × α9)) (f : α1 → α2 → α3 → α4 → α5 → α6 → α7 → α8 → α9 → Option β) : Option β := x.bind fun s => f s.1 s.2.1 s.2.2.1 s.2.2.2.1 s.2.2.2.2.1 s.2.2.2.2.2.1 s.2.2.2.2.2.2.1 s.2.2.2.2.2.2.2.1 s.2.2.2.2.2.2.2.2
theorem bq9_some {α1 α2 α3 α4 α5 α6 α7 α8 α9 β : Type} {x : Option (α1 × α2 × α3 × α4 × α5 × α6 × α7 × α8 × α9)} {f : α1 → α2 → α3 → α4 → α5 → α6 → α7 → α8 → α9 → Option β} {r : β} (h : bq9 x f = some r) : ∃ a1 a2 a3 a4 a5 a6 a7 a8 a9, x = some (a1, a2, a3, a4, a5, a6, a7, a8, a9) ∧ f a1 a2 a3 a4 a5 a6 a7 a8 a9 = some r := by
  obtain ⟨s, h1, h2⟩ := bnd_some h
  exact ⟨s.1, s.2.1, s.2.2.1, s.2.2.2.1, s.2.2.2.2.1, s.2.2.2.2.2.1, s.2.2.2.2.2.2.1, s.2.2.2.2.2.2.2.1, s.2.2.2.2.2.2.2.2, h1, h2⟩
def brm9 {α1 α2 α3 α4 α5 α6 α7 α8 α9 β γ : Type} (w : γ → Option β) (f : α1 → α2 → α3 → α4 → α5 → α6 → α7 → α8 → α9 → Option β) (s : (α1 × α2 × α3 × α4 × α5 × α6 × α7 × α8 × α9) ⊕ γ) : Option β := match s with
  | .inl q => f q.1 q.2.1 q.2.2.1 q.2.2.2.1 q.2.2.2.2.1 q.2.2.2.2.2.1 q.2.2.2.2.2.2.1 q.2.2.2.2.2.2.2.1 q.2.2.2.2.2.2.2.2
  | .inr q => w q
def br9 {α1 α2 α3 α4 α5 α6 α7 α8 α9 β γ : Type} (w : γ → Option β) (x : Option ((α1 × α2 × α3 × α4 × α5 × α6 × α7 × α8 × α9) ⊕ γ)) (f : α1 → α2 → α3 → α4 → α5 → α6 → α7 → α8 → α9 → Option β) : Option β := x.bind (brm9 w f)
theorem br9_some {α1 α2 α3 α4 α5 α6 α7 α8 α9 β γ : Type} {w : γ → Option β} {x : Option ((α1 × α2 × α3 × α4 × α5 × α6 × α7 × α8 × α9) ⊕ γ)} {f : α1 → α2 → α3 → α4 → α5 → α6 → α7 → α8 → α9 → Option β} {r : β} (h : br9 w x f = some r) : ∃ s, x = some s ∧ brm9 w f s = some r := bnd_some h
theorem brm9_inl {α1 α2 α3 α4 α5 α6 α7 α8 α9 β γ : Type} {w : γ → Option β} {f : α1 → α2 → α3 → α4 → α5 → α6 → α7 → α8 → α9 → Option β} {a1 a2 a3 a4 a5 a6 a7 a8 a9 : _} {r : β} (h : brm9 w f (.inl (a1, a2, a3, a4, a5, a6, a7, a8, a9)) = some r) : f a1 a2 a3 a4 a5 a6 a7 a8 a9 = some r := h
theorem brm9_inr {α1 α2 α3 α4 α5 α6 α7 α8 α9 β γ : Type} {w : γ → Option β} {f : α1 → α2 → α3 → α4 → α5 → α6 → α7 → α8 → α9 → Option β} {q : γ} {r : β} (h : brm9 w f (.inr q) = some r) : w q = some r := h
/-! throwing functions: a value or the number of an exception, and the memory -/
def tbd {α β : Type} (q : (α ⊕ Nat) × Mem) (f : α → Mem → Option ((β ⊕ Nat) × Mem)) : Option ((β ⊕ Nat) × Mem) := match q.1 with
  | .inl a => f a q.2
  | .inr x => some (.inr x, q.2)
theorem tbd_inl {α β : Type} {a : α} {m : Mem} {f : α → Mem → Option ((β ⊕ Nat) × Mem)} {r : (β ⊕ Nat) × Mem} (h : tbd (.inl a, m) f = some r) : f a m = some r := h
def oT {α : Type} (w : α → Option V) (r : (α ⊕ Nat) × Mem) : Res × Mem := (match r.1 with
  | .inl a => .inl (w a)
  | .inr x => .inr x, r.2)
def wI (z : Int) : Option V := some (VI z)
def wU (_ : Unit) : Option V := none
def wL (z : Int64) : Option V := some (VL z)
def wF (z : UInt32) : Option V := some (VF z)
def wD (z : UInt64) : Option V := some (VD z)
theorem thr_up {α β : Type} {w1 : α → Option V} {w2 : β → Option V} {q : (α ⊕ Nat) × Mem} {r : (β ⊕ Nat) × Mem} {f : α → Mem → Option ((β ⊕ Nat) × Mem)} {O : OutT} (hO : isO O (oT w2 r)) (h : tbd q f = some r) : ∀ x, (oT w1 q).1 = .inr x → isO O (.inr x, (oT w1 q).2) := by
  obtain ⟨a | x0, m⟩ := q
  · intro x hx; cases hx
  · intro x hx
    cases hx
    have h : some (Sum.inr x0, m) = some r := h
    cases h
    exact hO
section KK
variable {SH : List Sh} {G : Gl} {R : Room} {O : OutT} {C : Ct} {k n pc : Nat} {L : List (Nat × V)} {st : List V} {mm : Mem}
theorem noT {v : Option V} {m1 : Mem} {P : Nat → Prop} : ∀ x, (((.inl v, m1) : Res × Mem)).1 = .inr x → P x := fun x h => by cases h
theorem kkR {v0 : V} {m1 : Mem} (kk : J SH G R O C k n pc L (v0 :: st) m1) : ∀ v, (((.inl (some v0), m1) : Res × Mem)).1 = .inl v → J SH G R O C k n pc L (v.toList ++ st) (((.inl (some v0), m1) : Res × Mem)).2 := fun v h => by cases h; exact kk
theorem kkU {m1 : Mem} (kk : J SH G R O C k n pc L st m1) : ∀ v, (((.inl none, m1) : Res × Mem)).1 = .inl v → J SH G R O C k n pc L (v.toList ++ st) (((.inl none, m1) : Res × Mem)).2 := fun v h => by cases h; exact kk
theorem kkT {α : Type} {w : α → Option V} {q : (α ⊕ Nat) × Mem} (kk : ∀ (a : α) (m1 : Mem), q = (.inl a, m1) → J SH G R O C k n pc L ((w a).toList ++ st) m1) : ∀ v, (oT w q).1 = .inl v → J SH G R O C k n pc L (v.toList ++ st) (oT w q).2 := by
  obtain ⟨a | x, m1⟩ := q
  · intro v h
    cases h
    exact kk a m1 rfl
  · intro v h
    cases h
theorem s_eqt {z w : Int} (e : w = z) (kk : J SH G R O C k n pc L (VI w :: st) mm) : J SH G R O C k n pc L (VI z :: st) mm := e ▸ kk
theorem s_kn {k' n' : Nat} (h1 : Nat.ble k k' = true) (h2 : Nat.ble n n' = true) (kk : J SH G R O C k' n' pc L st mm) : J SH G R O C k n pc L st mm := by
  obtain ⟨p, e, s, m, args, below, meth, c, A0⟩ := C
  intro a1 a2 a3 H locs ls hP hD hS hl
  exact W.widen (Nat.le_of_ble_eq_true h1) (Nat.le_of_ble_eq_true h2) (kk a1 a2 a3 H locs ls hP hD hS hl)
end KK
/-! arrays whose length only the shape tells -/
def alen (SH : List Sh) (x : Nat) : Int := match SH[x]? with
  | some (.inr (_, n, _)) => n
  | _ => 0
def isArr (SH : List Sh) (x : Nat) : Prop := ∃ n : Nat, SH[x]? = some (.inr (0, n, none))
theorem isArr_sh {SH : List Sh} {x : Nat} (h : isArr SH x) : SH[x]? = some (.inr (0, (alen SH x).toNat, none)) := by
  obtain ⟨n, hn⟩ := h
  unfold alen
  rw [hn]
  simp
theorem alen_nn (SH : List Sh) (x : Nat) : ((alen SH x).toNat : Int) = alen SH x := by
  unfold alen
  split <;> simp
