/-! ===== TOTAL CORRECTNESS of the F functions ===== -/
def Ok {α : Type} (x : Option α) (P : α → Prop) : Prop := ∃ r, x = some r ∧ P r
section OKS
variable {α β γ σ ρ : Type}
theorem Ok.mono {x : Option α} {P Q : α → Prop} (h : Ok x P) (hq : ∀ r, P r → Q r) : Ok x Q := h.imp fun r ⟨a, b⟩ => ⟨a, hq r b⟩
theorem ok_some {r : α} {P : α → Prop} (h : P r) : Ok (some r) P := ⟨r, rfl, h⟩
theorem ok_grd {G : Prop} {x : Option α} {P : α → Prop} (hg : G) (h : Ok x P) : Ok (grd G x) P := by
  rw [grd_pos hg]
  exact h
theorem ok_ltv {e : β} {f : β → Option α} {P : α → Prop} (h : Ok (f e) P) : Ok (ltv e f) P := h
theorem ok_bind {x : Option β} {f : β → Option α} {Q : β → Prop} {P : α → Prop} (hx : Ok x Q) (h : ∀ r, Q r → Ok (f r) P) : Ok (x.bind f) P := by
  obtain ⟨r, rfl, hr⟩ := hx
  exact h r hr
theorem ok_ite {c : Prop} [Decidable c] {x y : Option α} {P : α → Prop} (h1 : c → Ok x P) (h2 : ¬ c → Ok y P) : Ok (if c then x else y) P := by
  by_cases h : c
  · rw [if_pos h]; exact h1 h
  · rw [if_neg h]; exact h2 h
theorem ok_loop {b : σ → Option (σ ⊕ ρ)} {s : σ} {P : ρ → Prop} (Inv : σ → Prop) (μ : σ → Nat) (h0 : Inv s) (step : ∀ s, Inv s → Ok (b s) (fun x => match x with | .inl t => Inv t ∧ μ t < μ s | .inr q => P q)) : Ok (loop b s) P := by
  have key : ∀ (n : Nat) (s : σ), μ s < n → Inv s → Ok (loop b s) P := by
    intro n
    induction n with
    | zero => intro s h; omega
    | succ n ih =>
      intro s hn hi
      obtain ⟨x, e, hx⟩ := step s hi
      cases x with
      | inl t => rw [loop_eq, e]; exact ih t (by have := hx.2; omega) hx.1
      | inr q => exact ⟨q, by rw [loop_eq, e]; rfl, hx⟩
  exact key _ s (Nat.lt_succ_self _) h0
theorem ok_eq {x : Option α} {P : α → Prop} {r : α} (h : Ok x P) (e : x = some r) : P r := by
  obtain ⟨q, e2, hq⟩ := h
  cases e.symm.trans e2
  exact hq
end OKS
/-- a counting loop over one memory: for (i = i0; i < n; i++) -/
theorem ok_for {b : Int → Mem → Option ((Int × Mem) ⊕ (Int × Mem))} {i0 n : Int} {m0 : Mem} (Inv : Int → Mem → Prop) (hle : i0 ≤ n) (h0 : Inv i0 m0) (step : ∀ i m, i0 ≤ i → i < n → Inv i m → Ok (b i m) (fun x => ∃ m', x = .inl (i + 1, m') ∧ Inv (i + 1) m')) (stop : ∀ m, Inv n m → b n m = some (.inr (n, m))) : Ok (loop (fun s => b s.1 s.2) (i0, m0)) (fun r => r.1 = n ∧ Inv n r.2) := by
  refine ok_loop (fun s => i0 ≤ s.1 ∧ s.1 ≤ n ∧ Inv s.1 s.2) (fun s => (n - s.1).toNat) ⟨Int.le_refl _, hle, h0⟩ ?_
  rintro ⟨i, m⟩ ⟨h1, h2, h3⟩
  by_cases hi : i < n
  · obtain ⟨x, e, m', rfl, h4⟩ := step i m h1 hi h3
    refine ⟨_, e, ⟨?_, ?_, h4⟩, ?_⟩ <;> dsimp only at * <;> omega
  · have hn : i = n := by dsimp only at h2; omega
    subst hn
    exact ⟨_, stop m h3, rfl, h3⟩
/-- reads behind a write -/
theorem setM_eq (m : Mem) (c i : Nat) (v : Int) (c' i' : Nat) : setM m c i v c' i' = if c' = c ∧ i' = i then v else m c' i' := rfl
