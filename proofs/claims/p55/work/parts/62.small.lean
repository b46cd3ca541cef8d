/-! ===== small functions ===== -/
theorem M_isThrown_eq (z k : Int) (m : Mem) (h : z = 0 ∨ z = 1) : M_isThrown z k m = some (z, setM m 0 0 (if ¬ z = 0 then k else 0)) := by
  unfold M_isThrown
  show grd _ _ = _
  rw [grd_pos h]
theorem b01 {P : Prop} [Decidable P] : (if P then (1 : Int) else 0) = 0 ∨ (if P then (1 : Int) else 0) = 1 := by
  by_cases h : P
  · exact Or.inr (if_pos h)
  · exact Or.inl (if_neg h)
theorem i01 {P : Prop} [Decidable P] : (if P then (1 : Int) else 0) = 0 ↔ ¬ P := by
  by_cases h : P
  · simp [h]
  · simp [h]
