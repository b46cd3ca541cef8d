/-! ===== printed by a program out of the Java source and the decode rows: 26.late ===== -/
/-! rows of shapes that the links name by a number -/
theorem SHC_17 : SHC[17]? = some (.inr (0, 12, none)) := by rfl
