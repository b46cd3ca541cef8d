/-! ===== THE ABSTRACT MEMORY: cells by static numbers (ids), their int slots; a shape says what each id is ===== -/
abbrev Mem : Type := Nat → Nat → Int
abbrev V : Type := Int ⊕ (Nat ⊕ (Int64 ⊕ (UInt32 ⊕ UInt64)))
abbrev VI (z : Int) : V := .inl z
abbrev VR (a : Nat) : V := .inr (.inl a)
abbrev VL (x : Int64) : V := .inr (.inr (.inl x))
abbrev VF (x : UInt32) : V := .inr (.inr (.inr (.inl x)))
abbrev VD (x : UInt64) : V := .inr (.inr (.inr (.inr x)))
abbrev Res : Type := Option V ⊕ Nat
def InR (z : Int) : Prop := -2147483648 ≤ z ∧ z ≤ 2147483647
def i32 (z : Int) : Int32 := Int32.ofInt z
def cv (al : Nat → Nat) : V → Value
  | .inl z => .int (i32 z)
  | .inr (.inl a) => .ref (al a)
  | .inr (.inr (.inl x)) => .long x
  | .inr (.inr (.inr (.inl x))) => .float x
  | .inr (.inr (.inr (.inr x))) => .double x
def cat2 : V → Bool
  | .inr (.inr (.inl _)) => true
  | .inr (.inr (.inr (.inr _))) => true
  | _ => false
def okV : V → Prop
  | .inl z => InR z
  | _ => True
def okM (m : Mem) : Prop := ∀ c i, InR (m c i)
def setM (m : Mem) (c i : Nat) (v : Int) : Mem := fun c' i' => if c' = c ∧ i' = i then v else m c' i'
theorem setM_same (m : Mem) (c i : Nat) (v : Int) : setM m c i v c i = v := if_pos ⟨rfl, rfl⟩
theorem setM_cell (m : Mem) (c i : Nat) (v : Int) {c' i' : Nat} (h : c' ≠ c) : setM m c i v c' i' = m c' i' := if_neg fun q => h q.1
theorem okM.set {m : Mem} (h : okM m) {c i : Nat} {v : Int} (hv : InR v) : okM (setM m c i v) := by
  intro c' i'
  unfold setM
  split
  · exact hv
  · exact h c' i'
theorem cat2_eq (al : Nat → Nat) (v : V) : ((cv al v).category == 2) = cat2 v := by
  rcases v with z | a | x | x | x <;> rfl
theorem cv_cat1 {al : Nat → Nat} {v : V} (h : cat2 v = false) : (cv al v).category = 1 := by
  rcases v with z | a | x | x | x <;> first | rfl | (simp [cat2] at h)
-- shapes: an object (class, its fields: none = a number, some id = that object), or an array (type, length; of references: base id and step)
abbrev Sh : Type := (Nat × List (Option Nat)) ⊕ (Nat × Nat × Option (Nat × Nat))
def fvl (al : Nat → Nat) (m : Mem) (c : Nat) (q : Option Nat × Nat) : Value := match q.1 with
  | none => .int (i32 (m c q.2))
  | some id => .ref (al id)
/-- an array's elements: ints, and (types 5 and 6) longs and doubles out of two ints each -/
def lng (a b : Int) : Int64 := Int64.ofInt (a * 4294967296 + b % 4294967296)
def kon (f : Nat → Int) : Nat → ((Nat → Int32) ⊕ (Nat → Int64) ⊕ (Nat → UInt32) ⊕ (Nat → UInt64) ⊕ (Nat → Option Nat))
  | 5 => .inr (.inl (fun j => lng (f (2 * j)) (f (2 * j + 1))))
  | 6 => .inr (.inr (.inr (.inl (fun j => (lng (f (2 * j)) (f (2 * j + 1))).toUInt64))))
  | _ => .inl (fun j => i32 (f j))
def cel (ta : Nat → ClassId) (al : Nat → Nat) (m : Mem) (c : Nat) : Sh → va_E
  | .inl o => .inr (o.1, o.2.zipIdx.map (fvl al m c))
  | .inr (t, n, none) => .inl (ta t, n, kon (m c) t)
  | .inr (t, n, some b) => .inl (ta t, n, .inr (.inr (.inr (.inr (fun j => if j < n then some (al (b.1 + b.2 * j)) else none)))))
def wsOf (SH : List Sh) (ta : Nat → ClassId) (al : Nat → Nat) (m : Mem) : va_W := SH.zipIdx.map (fun q => (al q.2, cel ta al m q.2 q.1))
theorem wsOf_at {SH : List Sh} {ta : Nat → ClassId} {al : Nat → Nat} {m : Mem} {x : Nat} {sh : Sh} (h : SH[x]? = some sh) : (wsOf SH ta al m)[x]? = some (al x, cel ta al m x sh) := by
  simp [wsOf, List.getElem?_map, List.getElem?_zipIdx, h]
theorem cel_congr {ta : Nat → ClassId} {al : Nat → Nat} {m m' : Mem} {c : Nat} (h : ∀ i, m' c i = m c i) (sh : Sh) : cel ta al m' c sh = cel ta al m c sh := by
  rcases sh with o | ⟨t, n, b | b⟩
  · unfold cel
    have : fvl al m' c = fvl al m c := by
      funext q
      unfold fvl
      rw [h]
    rw [this]
  · unfold cel
    rw [show m' c = m c from funext h]
  · rfl
theorem wsOf_set {SH : List Sh} {ta : Nat → ClassId} {al : Nat → Nat} {m m' : Mem} {x : Nat} {sh : Sh} (h : SH[x]? = some sh) (ho : ∀ c, c ≠ x → ∀ i, m' c i = m c i) : (wsOf SH ta al m).set x (al x, cel ta al m' x sh) = wsOf SH ta al m' := by
  apply List.ext_getElem?
  intro k
  rw [List.getElem?_set]
  by_cases hk : x = k
  · subst hk
    rw [wsOf_at (m := m') h]
    have hl : x < (wsOf SH ta al m).length := (List.getElem?_eq_some_iff.mp (wsOf_at (ta := ta) (al := al) (m := m) h)).1
    simp [hl]
  · rw [if_neg hk]
    cases hs : SH[k]? with
    | none => simp [wsOf, List.getElem?_map, List.getElem?_zipIdx, hs]
    | some q => rw [wsOf_at hs, wsOf_at hs, cel_congr (ho k (fun z => hk z.symm))]
theorem zip_at (fs : List (Option Nat)) (f : Option Nat × Nat → Value) {k : Nat} {kd : Option Nat} (h : fs[k]? = some kd) : (fs.zipIdx.map f)[k]? = some (f (kd, k)) := by
  simp [List.getElem?_map, List.getElem?_zipIdx, h]
theorem zip_set (fs : List (Option Nat)) (al : Nat → Nat) (m : Mem) (x k : Nat) (v : Int) (h : fs[k]? = some none) : (fs.zipIdx.map (fvl al m x)).set k (.int (i32 v)) = fs.zipIdx.map (fvl al (setM m x k v) x) := by
  apply List.ext_getElem?
  intro j
  rw [List.getElem?_set]
  by_cases hk : k = j
  · subst hk
    have hl : k < fs.length := (List.getElem?_eq_some_iff.mp h).1
    rw [zip_at fs (fvl al (setM m x k v) x) h, if_pos rfl, if_pos (by simpa using hl)]
    simp [fvl, setM]
  · rw [if_neg hk]
    cases hs : fs[j]? with
    | none => simp [List.getElem?_map, List.getElem?_zipIdx, hs]
    | some q =>
      rw [zip_at fs _ hs, zip_at fs _ hs]
      cases q with
      | none =>
        show some (Value.int (i32 (m x j))) = some (Value.int (i32 (setM m x k v x j)))
        unfold setM
        rw [if_neg (fun z => hk z.2.symm)]
      | some id => rfl
/-! ===== Int32 and Int ===== -/
theorem i32_toInt {z : Int} (h : InR z) : (i32 z).toInt = z := by
  unfold i32
  exact Int32.toInt_ofInt_of_le (by have := h.1; omega) (by have := h.2; omega)
theorem i32_inj {a b : Int} (ha : InR a) (hb : InR b) : i32 a = i32 b ↔ a = b := by
  constructor
  · intro h
    rw [← i32_toInt ha, ← i32_toInt hb, h]
  · intro h; rw [h]
theorem i32_lt {a b : Int} (ha : InR a) (hb : InR b) : i32 a < i32 b ↔ a < b := by
  rw [Int32.lt_iff_toInt_lt, i32_toInt ha, i32_toInt hb]
theorem i32_le {a b : Int} (ha : InR a) (hb : InR b) : i32 a ≤ i32 b ↔ a ≤ b := by
  rw [Int32.le_iff_toInt_le, i32_toInt ha, i32_toInt hb]
theorem i32_add (a b : Int) : i32 a + i32 b = i32 (a + b) := (Int32.ofInt_add a b).symm
theorem i32_sub (a b : Int) : i32 a - i32 b = i32 (a - b) := (Int32.ofInt_sub a b).symm
theorem i32_mul (a b : Int) : i32 a * i32 b = i32 (a * b) := (Int32.ofInt_mul a b).symm
theorem i32_neg (a : Int) : -i32 a = i32 (-a) := (Int32.ofInt_neg a).symm
theorem i32_of (x : Int32) : i32 x.toInt = x := Int32.ofInt_toInt x
theorem InR_of (x : Int32) : InR x.toInt := ⟨by have := Int32.le_toInt x; omega, by have := Int32.toInt_lt x; omega⟩
theorem i32_nat {z : Int} (h0 : 0 ≤ z) (h : InR z) : (i32 z).toNatClampNeg = z.toNat := by
  have h1 : (i32 z).toNatClampNeg = (i32 z).toInt.toNat := rfl
  rw [h1, i32_toInt h]
theorem i32_in {z : Int} {n : Nat} (h0 : 0 ≤ z) (hn : z < n) (h : InR z) : vp_in (i32 z) n := by
  rintro (q | q)
  · have : i32 z < i32 0 := q
    rw [i32_lt h ⟨by omega, by omega⟩] at this
    omega
  · rw [i32_nat h0 h] at q
    omega
