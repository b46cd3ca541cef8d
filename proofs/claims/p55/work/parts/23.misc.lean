/-! ===== small rows that the printed links use ===== -/
theorem okT_ite {P : Prop} [Decidable P] : okT .boolean (if P then 1 else 0) := by
  show (if P then (1 : Int) else 0) = 0 ∨ (if P then (1 : Int) else 0) = 1
  split
  · exact Or.inr rfl
  · exact Or.inl rfl
section AI
variable {SH : List Sh} {G : Gl} {R : Room} {O : OutT} {C : Ct} {k n pc : Nat} {L : List (Nat × V)} {st : List V} {mm : Mem} {cc : ByteArray} {nL : Nat} {own : String} {ret : Option FieldType} {nx : Bool}
theorem s_aaldI (X : Cx SH G R C cc nL own ret nx) {x t N b1 b2 id : Nat} {i : Int} (hid : b1 + b2 * i.toNat = id) (ht : t = 3 ∨ t = 4) (sh : SH[x]? = some (.inr (t, N, some (b1, b2)))) (h0 : 0 ≤ i) (hN : i < N) (d : decode cc pc = .ok (.aaload, 1)) (kk : J SH G R O C k n (pc + 1) L (VR id :: st) mm) : J SH G R O C k n pc L (VI i :: VR x :: st) mm :=
  s_aald (b := (b1, b2)) X ht sh h0 hN d (by rw [show (b1, b2).1 + (b1, b2).2 * i.toNat = id from hid]; exact kk)
end AI
