/-! ===== little facts of numbers ===== -/
theorem b8 {z : Int} (h : -128 ≤ z ∧ z ≤ 127) : (Int8.ofInt z).toInt32 = i32 z := by
  apply Int32.toInt_inj.mp
  rw [Int8.toInt_toInt32, Int8.toInt_ofInt_of_le (by omega) (by omega), i32_toInt ⟨by omega, by omega⟩]
theorem b16 {z : Int} (h : -32768 ≤ z ∧ z ≤ 32767) : (Int16.ofInt z).toInt32 = i32 z := by
  apply Int32.toInt_inj.mp
  rw [Int16.toInt_toInt32, Int16.toInt_ofInt_of_le (by omega) (by omega), i32_toInt ⟨by omega, by omega⟩]
theorem i32_ne0 {b : Int} (h : 0 < b) (hb : InR b) : ¬ i32 b = 0 := by
  intro q
  have : i32 b = i32 0 := q
  rw [i32_inj hb ⟨by omega, by omega⟩] at this
  omega
theorem InR_tdiv {a b : Int} (ha : InR a) (h : 0 < b) : InR (a.tdiv b) := by
  have h1 := ha.1
  have h2 := ha.2
  have h3 : (a.tdiv b).natAbs ≤ a.natAbs := by
    rw [Int.natAbs_tdiv]
    exact Nat.div_le_self _ _
  constructor
  · rcases Int.le_total 0 a with q | q
    · have : 0 ≤ a.tdiv b := Int.tdiv_nonneg q (by omega)
      omega
    · omega
  · rcases Int.le_total 0 a with q | q
    · omega
    · have : 0 ≤ (-a).tdiv b := Int.tdiv_nonneg (by omega) (by omega)
      rw [Int.neg_tdiv] at this
      omega
theorem InR_tmod {a b : Int} (ha : InR a) (h : 0 < b) : InR (a.tmod b) := by
  have h1 := ha.1
  have h2 := ha.2
  have h3 : (a.tmod b).natAbs ≤ a.natAbs := by
    rw [Int.natAbs_tmod]
    exact Nat.mod_le _ _
  rcases Int.le_total 0 a with q | q
  · have : 0 ≤ a.tmod b := Int.tmod_nonneg _ q
    constructor <;> omega
  · have : 0 ≤ (-a).tmod b := Int.tmod_nonneg _ (by omega)
    rw [Int.neg_tmod] at this
    constructor <;> omega
theorem i32_div {a b : Int} (ha : InR a) (hb : InR b) (h : 0 < b) : i32 a / i32 b = i32 (a.tdiv b) := by
  apply Int32.toInt_inj.mp
  rw [i32_toInt (InR_tdiv ha h)]
  rw [Int32.toInt_div_of_ne_right (i32 a) (i32 b) (by
    intro q
    have := congrArg Int32.toInt q
    rw [i32_toInt hb] at this
    have e : (-1 : Int32).toInt = -1 := by decide
    omega), i32_toInt ha, i32_toInt hb]
theorem i32_rem {a b : Int} (ha : InR a) (hb : InR b) (h : 0 < b) : i32 a - i32 a / i32 b * i32 b = i32 (a.tmod b) := by
  rw [i32_div ha hb h, i32_mul, i32_sub]
  congr 1
  have := Int.tmod_def a b
  rw [this, Int.mul_comm]
def jiand (a b : Int) : Int := (i32 a &&& i32 b).toInt
def jior (a b : Int) : Int := (i32 a ||| i32 b).toInt
def jixor (a b : Int) : Int := (i32 a ^^^ i32 b).toInt
def jishl (a b : Int) : Int := (i32 a <<< (i32 b &&& 31)).toInt
def jishr (a b : Int) : Int := (i32 a >>> (i32 b &&& 31)).toInt
theorem i32_c (a : Int) : ((i32 a).toUInt32 % 65536).toInt32 = i32 (a % 65536) := by
  apply Int32.toBitVec_inj.mp
  apply BitVec.eq_of_toNat_eq
  show ((BitVec.ofInt 32 a) % 65536#32).toNat = (BitVec.ofInt 32 (a % 65536)).toNat
  rw [BitVec.toNat_umod, BitVec.toNat_ofInt, BitVec.toNat_ofInt]
  have h1 := Int.emod_nonneg a (by omega : (4294967296 : Int) ≠ 0)
  have h2 := Int.emod_lt_of_pos a (by omega : (0 : Int) < 4294967296)
  have h3 := Int.emod_nonneg a (by omega : (65536 : Int) ≠ 0)
  have h4 := Int.emod_lt_of_pos a (by omega : (0 : Int) < 65536)
  simp
  omega
theorem i32_64 {a : Int} (ha : InR a) : (i32 a).toInt64 = Int64.ofInt a := by
  apply Int64.toInt_inj.mp
  rw [Int32.toInt_toInt64, i32_toInt ha, Int64.toInt_ofInt_of_le (by have := ha.1; omega) (by have := ha.2; omega)]
/-! ===== ONE ROW AN INSTRUCTION, over J ===== -/
section ST2
variable {SH : List Sh} {G : Gl} {R : Room} {O : OutT} {C : Ct} {k n pc : Nat} {L : List (Nat × V)} {st : List V} {mm : Mem} {cc : ByteArray} {nL : Nat} {own : String} {ret : Option FieldType} {nx : Bool}

theorem s_const (X : Cx SH G R C cc nL own ret nx) {z : Int} (hz : InR z) (d : decode cc pc = .ok (.iconst z, 1)) (kk : J SH G R O C k n (pc + 1) L (VI z :: st) mm) : J SH G R O C k n pc L st mm := by
  obtain ⟨p, e, s, m, args, below, meth, c, A0⟩ := C
  obtain ⟨hx, hb, hml, hown, hts, hK, hr, hlk, hex, hXB, hst, hA⟩ := X
  intro h1 h2 h3 H locs ls hP hD hS hl
  exact lv_iconst hx hb d (v := i32 z) rfl (kk h1 (ok_cons hz h2) h3 H locs ls hP hD hS hl)
theorem s_bipush (X : Cx SH G R C cc nL own ret nx) {z : Int} (hz : -128 ≤ z ∧ z ≤ 127) (d : decode cc pc = .ok (.bipush z, 2)) (kk : J SH G R O C k n (pc + 2) L (VI z :: st) mm) : J SH G R O C k n pc L st mm := by
  obtain ⟨p, e, s, m, args, below, meth, c, A0⟩ := C
  obtain ⟨hx, hb, hml, hown, hts, hK, hr, hlk, hex, hXB, hst, hA⟩ := X
  intro h1 h2 h3 H locs ls hP hD hS hl
  exact lv_bipush hx hb d (v := i32 z) (b8 hz) (kk h1 (ok_cons ⟨by omega, by omega⟩ h2) h3 H locs ls hP hD hS hl)
theorem s_sipush (X : Cx SH G R C cc nL own ret nx) {z : Int} (hz : -32768 ≤ z ∧ z ≤ 32767) (d : decode cc pc = .ok (.sipush z, 3)) (kk : J SH G R O C k n (pc + 3) L (VI z :: st) mm) : J SH G R O C k n pc L st mm := by
  obtain ⟨p, e, s, m, args, below, meth, c, A0⟩ := C
  obtain ⟨hx, hb, hml, hown, hts, hK, hr, hlk, hex, hXB, hst, hA⟩ := X
  intro h1 h2 h3 H locs ls hP hD hS hl
  exact lv_sipush hx hb d (v := i32 z) (b16 hz) (kk h1 (ok_cons ⟨by omega, by omega⟩ h2) h3 H locs ls hP hD hS hl)
theorem s_ldc (X : Cx SH G R C cc nL own ret nx) {z : Int} {i : Nat} (hz : InR z) (hw : Cond.constant own i (i32 z) ∈ lw_U) (d : decode cc pc = .ok (.ldc i, 2)) (kk : J SH G R O C k n (pc + 2) L (VI z :: st) mm) : J SH G R O C k n pc L st mm := by
  obtain ⟨p, e, s, m, args, below, meth, c, A0⟩ := C
  obtain ⟨hx, hb, hml, hown, hts, hK, hr, hlk, hex, hXB, hst, hA⟩ := X
  intro h1 h2 h3 H locs ls hP hD hS hl
  exact lv_ldc hx hb hown (hts _ hw) d (kk h1 (ok_cons hz h2) h3 H locs ls hP hD hS hl)
theorem s_ldc2 (X : Cx SH G R C cc nL own ret nx) {z : Int64} {i : Nat} (hw : Cond.constantLong own i z ∈ lw_U) (d : decode cc pc = .ok (.ldc2_w i, 3)) (kk : J SH G R O C k n (pc + 3) L (VL z :: st) mm) : J SH G R O C k n pc L st mm := by
  obtain ⟨p, e, s, m, args, below, meth, c, A0⟩ := C
  obtain ⟨hx, hb, hml, hown, hts, hK, hr, hlk, hex, hXB, hst, hA⟩ := X
  intro h1 h2 h3 H locs ls hP hD hS hl
  exact lv_ldc2 hx hb hown (hts _ hw) d (kk h1 (ok_cons trivial h2) h3 H locs ls hP hD hS hl)
theorem s_lconst (X : Cx SH G R C cc nL own ret nx) {f : Fin 2} (d : decode cc pc = .ok (.lconst f, 1)) (kk : J SH G R O C k n (pc + 1) L (VL (Int64.ofNat f.val) :: st) mm) : J SH G R O C k n pc L st mm := by
  obtain ⟨p, e, s, m, args, below, meth, c, A0⟩ := C
  obtain ⟨hx, hb, hml, hown, hts, hK, hr, hlk, hex, hXB, hst, hA⟩ := X
  intro h1 h2 h3 H locs ls hP hD hS hl
  exact lv_lconst hx hb d rfl (kk h1 (ok_cons trivial h2) h3 H locs ls hP hD hS hl)
theorem s_lload (X : Cx SH G R C cc nL own ret nx) {i : Nat} {z : Int64} (j : Nat) (hj : L[j]? = some (i, VL z)) (d : decode cc pc = .ok (.lload i, 2)) (kk : J SH G R O C k n (pc + 2) L (VL z :: st) mm) : J SH G R O C k n pc L st mm := by
  obtain ⟨p, e, s, m, args, below, meth, c, A0⟩ := C
  obtain ⟨hx, hb, hml, hown, hts, hK, hr, hlk, hex, hXB, hst, hA⟩ := X
  intro h1 h2 h3 H locs ls hP hD hS hl
  exact lv_lload hx hb d (jl_cat hl j hj) (kk h1 (ok_cons trivial h2) h3 H locs ls hP hD hS hl)
theorem s_lload_n (X : Cx SH G R C cc nL own ret nx) {i : Fin 4} {z : Int64} (j : Nat) (hj : L[j]? = some (i.val, VL z)) (d : decode cc pc = .ok (.lload_n i, 1)) (kk : J SH G R O C k n (pc + 1) L (VL z :: st) mm) : J SH G R O C k n pc L st mm := by
  obtain ⟨p, e, s, m, args, below, meth, c, A0⟩ := C
  obtain ⟨hx, hb, hml, hown, hts, hK, hr, hlk, hex, hXB, hst, hA⟩ := X
  intro h1 h2 h3 H locs ls hP hD hS hl
  exact lv_lload_n hx hb d rfl (jl_cat hl j hj) (kk h1 (ok_cons trivial h2) h3 H locs ls hP hD hS hl)
theorem s_istore (X : Cx SH G R C cc nL own ret nx) {i : Nat} {z w : Int} {L' : List (Nat × V)} (hv : w = z) (hL : stL L i (VI w) = L') (hi : i < nL) (d : decode cc pc = .ok (.istore i, 2)) (kk : J SH G R O C k n (pc + 2) L' st mm) : J SH G R O C k n pc L (VI z :: st) mm := by
  obtain ⟨p, e, s, m, args, below, meth, c, A0⟩ := C
  obtain ⟨hx, hb, hml, hown, hts, hK, hr, hlk, hex, hXB, hst, hA⟩ := X
  intro h1 h2 h3 H locs ls hP hD hS hl
  subst hv
  subst hL
  exact lv_istore hx hb d hl (by rw [hml]; exact hi) (stL_map (L := L) (v := VI w) (al := G.2.2.2)) (fun ls' hl' => kk (stL_ok h1 (ok_hd h2)) (ok_tl h2) h3 H locs ls' hP hD hS hl')
theorem s_istore_n (X : Cx SH G R C cc nL own ret nx) {i : Fin 4} {z w : Int} {L' : List (Nat × V)} (hv : w = z) (hL : stL L i.val (VI w) = L') (hi : i.val < nL) (d : decode cc pc = .ok (.istore_n i, 1)) (kk : J SH G R O C k n (pc + 1) L' st mm) : J SH G R O C k n pc L (VI z :: st) mm := by
  obtain ⟨p, e, s, m, args, below, meth, c, A0⟩ := C
  obtain ⟨hx, hb, hml, hown, hts, hK, hr, hlk, hex, hXB, hst, hA⟩ := X
  intro h1 h2 h3 H locs ls hP hD hS hl
  subst hv
  subst hL
  exact lv_istore_n hx hb d rfl hl (by rw [hml]; exact hi) (stL_map (L := L) (v := VI w) (al := G.2.2.2)) (fun ls' hl' => kk (stL_ok h1 (ok_hd h2)) (ok_tl h2) h3 H locs ls' hP hD hS hl')
theorem s_astore (X : Cx SH G R C cc nL own ret nx) {i : Nat} {z w : Nat} {L' : List (Nat × V)} (hv : w = z) (hL : stL L i (VR w) = L') (hi : i < nL) (d : decode cc pc = .ok (.astore i, 2)) (kk : J SH G R O C k n (pc + 2) L' st mm) : J SH G R O C k n pc L (VR z :: st) mm := by
  obtain ⟨p, e, s, m, args, below, meth, c, A0⟩ := C
  obtain ⟨hx, hb, hml, hown, hts, hK, hr, hlk, hex, hXB, hst, hA⟩ := X
  intro h1 h2 h3 H locs ls hP hD hS hl
  subst hv
  subst hL
  exact lv_astore hx hb d hl (by rw [hml]; exact hi) (stL_map (L := L) (v := VR w) (al := G.2.2.2)) (fun ls' hl' => kk (stL_ok h1 (ok_hd h2)) (ok_tl h2) h3 H locs ls' hP hD hS hl')
theorem s_astore_n (X : Cx SH G R C cc nL own ret nx) {i : Fin 4} {z w : Nat} {L' : List (Nat × V)} (hv : w = z) (hL : stL L i.val (VR w) = L') (hi : i.val < nL) (d : decode cc pc = .ok (.astore_n i, 1)) (kk : J SH G R O C k n (pc + 1) L' st mm) : J SH G R O C k n pc L (VR z :: st) mm := by
  obtain ⟨p, e, s, m, args, below, meth, c, A0⟩ := C
  obtain ⟨hx, hb, hml, hown, hts, hK, hr, hlk, hex, hXB, hst, hA⟩ := X
  intro h1 h2 h3 H locs ls hP hD hS hl
  subst hv
  subst hL
  exact lv_astore_n hx hb d rfl hl (by rw [hml]; exact hi) (stL_map (L := L) (v := VR w) (al := G.2.2.2)) (fun ls' hl' => kk (stL_ok h1 (ok_hd h2)) (ok_tl h2) h3 H locs ls' hP hD hS hl')
theorem s_lstore (X : Cx SH G R C cc nL own ret nx) {i : Nat} {z w : Int64} {L' : List (Nat × V)} (hv : w = z) (hL : stL2 L i (VL w) = L') (hi : i + 1 < nL) (d : decode cc pc = .ok (.lstore i, 2)) (kk : J SH G R O C k n (pc + 2) L' st mm) : J SH G R O C k n pc L (VL z :: st) mm := by
  obtain ⟨p, e, s, m, args, below, meth, c, A0⟩ := C
  obtain ⟨hx, hb, hml, hown, hts, hK, hr, hlk, hex, hXB, hst, hA⟩ := X
  intro h1 h2 h3 H locs ls hP hD hS hl
  subst hv
  subst hL
  exact lv_lstore hx hb d hl (by rw [hml]; exact hi) (stL2_map (L := L) (v := VL w) (al := G.2.2.2)) (fun ls' hl' => kk (stL2_ok h1 (ok_hd h2)) (ok_tl h2) h3 H locs ls' hP hD hS hl')
theorem s_lstore_n (X : Cx SH G R C cc nL own ret nx) {i : Fin 4} {z w : Int64} {L' : List (Nat × V)} (hv : w = z) (hL : stL2 L i.val (VL w) = L') (hi : i.val + 1 < nL) (d : decode cc pc = .ok (.lstore_n i, 1)) (kk : J SH G R O C k n (pc + 1) L' st mm) : J SH G R O C k n pc L (VL z :: st) mm := by
  obtain ⟨p, e, s, m, args, below, meth, c, A0⟩ := C
  obtain ⟨hx, hb, hml, hown, hts, hK, hr, hlk, hex, hXB, hst, hA⟩ := X
  intro h1 h2 h3 H locs ls hP hD hS hl
  subst hv
  subst hL
  exact lv_lstore_n hx hb d rfl hl (by rw [hml]; exact hi) (stL2_map (L := L) (v := VL w) (al := G.2.2.2)) (fun ls' hl' => kk (stL2_ok h1 (ok_hd h2)) (ok_tl h2) h3 H locs ls' hP hD hS hl')
theorem s_iinc (X : Cx SH G R C cc nL own ret nx) {i : Nat} {q z w : Int} {L' : List (Nat × V)} (j : Nat) (hj : L[j]? = some (i, VI z)) (hr9 : InR (z + q)) (hv : w = z + q) (hL : stL L i (VI w) = L') (hi : i < nL) (d : decode cc pc = .ok (.iinc i q, 3)) (kk : J SH G R O C k n (pc + 3) L' st mm) : J SH G R O C k n pc L st mm := by
  obtain ⟨p, e, s, m, args, below, meth, c, A0⟩ := C
  obtain ⟨hx, hb, hml, hown, hts, hK, hr, hlk, hex, hXB, hst, hA⟩ := X
  intro h1 h2 h3 H locs ls hP hD hS hl
  subst hv
  subst hL
  refine lv_iinc hx hb d hl (k := j) (x := i32 z) (v := i32 (z + q)) (by rw [List.getElem?_map, hj]; rfl) (i32_add z q) (by rw [hml]; exact hi) (stL_map (L := L) (v := VI (z + q)) (al := G.2.2.2)) (fun ls' hl' => kk (stL_ok h1 hr9) h2 h3 H locs ls' hP hD hS hl')
theorem s_isub (X : Cx SH G R C cc nL own ret nx) {a b : Int} (h : InR (a - b)) (d : decode cc pc = .ok (.isub, 1)) (kk : J SH G R O C k n (pc + 1) L (VI (a - b) :: st) mm) : J SH G R O C k n pc L (VI b :: VI a :: st) mm := by
  obtain ⟨p, e, s, m, args, below, meth, c, A0⟩ := C
  obtain ⟨hx, hb, hml, hown, hts, hK, hr, hlk, hex, hXB, hst, hA⟩ := X
  intro h1 h2 h3 H locs ls hP hD hS hl
  refine lv_isub hx hb d ?_
  have := kk h1 (ok_cons h (ok_tl (ok_tl h2))) h3 H locs ls hP hD hS hl
  rw [i32_sub]
  exact this
theorem s_imul (X : Cx SH G R C cc nL own ret nx) {a b : Int} (h : InR (a * b)) (d : decode cc pc = .ok (.imul, 1)) (kk : J SH G R O C k n (pc + 1) L (VI (a * b) :: st) mm) : J SH G R O C k n pc L (VI b :: VI a :: st) mm := by
  obtain ⟨p, e, s, m, args, below, meth, c, A0⟩ := C
  obtain ⟨hx, hb, hml, hown, hts, hK, hr, hlk, hex, hXB, hst, hA⟩ := X
  intro h1 h2 h3 H locs ls hP hD hS hl
  refine lv_imul hx hb d ?_
  have := kk h1 (ok_cons h (ok_tl (ok_tl h2))) h3 H locs ls hP hD hS hl
  rw [i32_mul]
  exact this
theorem s_ineg (X : Cx SH G R C cc nL own ret nx) {a : Int} (h : InR (-a)) (d : decode cc pc = .ok (.ineg, 1)) (kk : J SH G R O C k n (pc + 1) L (VI (-a) :: st) mm) : J SH G R O C k n pc L (VI a :: st) mm := by
  obtain ⟨p, e, s, m, args, below, meth, c, A0⟩ := C
  obtain ⟨hx, hb, hml, hown, hts, hK, hr, hlk, hex, hXB, hst, hA⟩ := X
  intro h1 h2 h3 H locs ls hP hD hS hl
  refine lv_ineg hx hb d ?_
  have := kk h1 (ok_cons h (ok_tl h2)) h3 H locs ls hP hD hS hl
  rw [i32_neg]
  exact this
theorem s_idiv (X : Cx SH G R C cc nL own ret nx) {a b : Int} (h : 0 < b) (d : decode cc pc = .ok (.idiv, 1)) (kk : J SH G R O C k n (pc + 1) L (VI (a.tdiv b) :: st) mm) : J SH G R O C k n pc L (VI b :: VI a :: st) mm := by
  obtain ⟨p, e, s, m, args, below, meth, c, A0⟩ := C
  obtain ⟨hx, hb, hml, hown, hts, hK, hr, hlk, hex, hXB, hst, hA⟩ := X
  intro h1 h2 h3 H locs ls hP hD hS hl
  have ha : InR a := h2 (VI a) (List.mem_cons_of_mem _ List.mem_cons_self)
  have hb9 : InR b := h2 (VI b) List.mem_cons_self
  refine lv_idiv hx hb d (i32_ne0 h hb9) ?_
  have := kk h1 (ok_cons (InR_tdiv ha h) (ok_tl (ok_tl h2))) h3 H locs ls hP hD hS hl
  rw [i32_div ha hb9 h]
  exact this
theorem s_irem (X : Cx SH G R C cc nL own ret nx) {a b : Int} (h : 0 < b) (d : decode cc pc = .ok (.irem, 1)) (kk : J SH G R O C k n (pc + 1) L (VI (a.tmod b) :: st) mm) : J SH G R O C k n pc L (VI b :: VI a :: st) mm := by
  obtain ⟨p, e, s, m, args, below, meth, c, A0⟩ := C
  obtain ⟨hx, hb, hml, hown, hts, hK, hr, hlk, hex, hXB, hst, hA⟩ := X
  intro h1 h2 h3 H locs ls hP hD hS hl
  have ha : InR a := h2 (VI a) (List.mem_cons_of_mem _ List.mem_cons_self)
  have hb9 : InR b := h2 (VI b) List.mem_cons_self
  refine lv_irem hx hb d (i32_ne0 h hb9) ?_
  have := kk h1 (ok_cons (InR_tmod ha h) (ok_tl (ok_tl h2))) h3 H locs ls hP hD hS hl
  rw [i32_rem ha hb9 h]
  exact this
theorem s_iand (X : Cx SH G R C cc nL own ret nx) {a b : Int} (d : decode cc pc = .ok (.iand, 1)) (kk : J SH G R O C k n (pc + 1) L (VI (jiand a b) :: st) mm) : J SH G R O C k n pc L (VI b :: VI a :: st) mm := by
  obtain ⟨p, e, s, m, args, below, meth, c, A0⟩ := C
  obtain ⟨hx, hb, hml, hown, hts, hK, hr, hlk, hex, hXB, hst, hA⟩ := X
  intro h1 h2 h3 H locs ls hP hD hS hl
  refine lv_iand hx hb d ?_
  have := kk h1 (ok_cons (InR_of _) (ok_tl (ok_tl h2))) h3 H locs ls hP hD hS hl
  rw [show i32 a &&& i32 b = i32 (jiand a b) from (i32_of _).symm]
  exact this
theorem s_ior (X : Cx SH G R C cc nL own ret nx) {a b : Int} (d : decode cc pc = .ok (.ior, 1)) (kk : J SH G R O C k n (pc + 1) L (VI (jior a b) :: st) mm) : J SH G R O C k n pc L (VI b :: VI a :: st) mm := by
  obtain ⟨p, e, s, m, args, below, meth, c, A0⟩ := C
  obtain ⟨hx, hb, hml, hown, hts, hK, hr, hlk, hex, hXB, hst, hA⟩ := X
  intro h1 h2 h3 H locs ls hP hD hS hl
  refine lv_ior hx hb d ?_
  have := kk h1 (ok_cons (InR_of _) (ok_tl (ok_tl h2))) h3 H locs ls hP hD hS hl
  rw [show i32 a ||| i32 b = i32 (jior a b) from (i32_of _).symm]
  exact this
theorem s_ixor (X : Cx SH G R C cc nL own ret nx) {a b : Int} (d : decode cc pc = .ok (.ixor, 1)) (kk : J SH G R O C k n (pc + 1) L (VI (jixor a b) :: st) mm) : J SH G R O C k n pc L (VI b :: VI a :: st) mm := by
  obtain ⟨p, e, s, m, args, below, meth, c, A0⟩ := C
  obtain ⟨hx, hb, hml, hown, hts, hK, hr, hlk, hex, hXB, hst, hA⟩ := X
  intro h1 h2 h3 H locs ls hP hD hS hl
  refine lv_ixor hx hb d ?_
  have := kk h1 (ok_cons (InR_of _) (ok_tl (ok_tl h2))) h3 H locs ls hP hD hS hl
  rw [show i32 a ^^^ i32 b = i32 (jixor a b) from (i32_of _).symm]
  exact this
theorem s_ishl (X : Cx SH G R C cc nL own ret nx) {a b : Int} (d : decode cc pc = .ok (.ishl, 1)) (kk : J SH G R O C k n (pc + 1) L (VI (jishl a b) :: st) mm) : J SH G R O C k n pc L (VI b :: VI a :: st) mm := by
  obtain ⟨p, e, s, m, args, below, meth, c, A0⟩ := C
  obtain ⟨hx, hb, hml, hown, hts, hK, hr, hlk, hex, hXB, hst, hA⟩ := X
  intro h1 h2 h3 H locs ls hP hD hS hl
  refine lv_ishl hx hb d ?_
  have := kk h1 (ok_cons (InR_of _) (ok_tl (ok_tl h2))) h3 H locs ls hP hD hS hl
  rw [show _ = i32 (jishl a b) from (i32_of _).symm]
  exact this
theorem s_ishr (X : Cx SH G R C cc nL own ret nx) {a b : Int} (d : decode cc pc = .ok (.ishr, 1)) (kk : J SH G R O C k n (pc + 1) L (VI (jishr a b) :: st) mm) : J SH G R O C k n pc L (VI b :: VI a :: st) mm := by
  obtain ⟨p, e, s, m, args, below, meth, c, A0⟩ := C
  obtain ⟨hx, hb, hml, hown, hts, hK, hr, hlk, hex, hXB, hst, hA⟩ := X
  intro h1 h2 h3 H locs ls hP hD hS hl
  refine lv_ishr hx hb d ?_
  have := kk h1 (ok_cons (InR_of _) (ok_tl (ok_tl h2))) h3 H locs ls hP hD hS hl
  rw [show _ = i32 (jishr a b) from (i32_of _).symm]
  exact this
theorem s_i2c (X : Cx SH G R C cc nL own ret nx) {a : Int} (d : decode cc pc = .ok (.i2c, 1)) (kk : J SH G R O C k n (pc + 1) L (VI (a % 65536) :: st) mm) : J SH G R O C k n pc L (VI a :: st) mm := by
  obtain ⟨p, e, s, m, args, below, meth, c, A0⟩ := C
  obtain ⟨hx, hb, hml, hown, hts, hK, hr, hlk, hex, hXB, hst, hA⟩ := X
  intro h1 h2 h3 H locs ls hP hD hS hl
  exact lv_i2c hx hb d (v := i32 (a % 65536)) (i32_c a) (kk h1 (ok_cons ⟨by omega, by omega⟩ (ok_tl h2)) h3 H locs ls hP hD hS hl)
theorem s_i2l (X : Cx SH G R C cc nL own ret nx) {a : Int} (d : decode cc pc = .ok (.i2l, 1)) (kk : J SH G R O C k n (pc + 1) L (VL (Int64.ofInt a) :: st) mm) : J SH G R O C k n pc L (VI a :: st) mm := by
  obtain ⟨p, e, s, m, args, below, meth, c, A0⟩ := C
  obtain ⟨hx, hb, hml, hown, hts, hK, hr, hlk, hex, hXB, hst, hA⟩ := X
  intro h1 h2 h3 H locs ls hP hD hS hl
  have ha : InR a := ok_hd h2
  exact lv_i2l hx hb d (v := Int64.ofInt a) (i32_64 ha) (kk h1 (ok_cons trivial (ok_tl h2)) h3 H locs ls hP hD hS hl)
theorem s_ladd (X : Cx SH G R C cc nL own ret nx) {a b : Int64} (d : decode cc pc = .ok (.ladd, 1)) (kk : J SH G R O C k n (pc + 1) L (VL (a + b) :: st) mm) : J SH G R O C k n pc L (VL b :: VL a :: st) mm := by
  obtain ⟨p, e, s, m, args, below, meth, c, A0⟩ := C
  obtain ⟨hx, hb, hml, hown, hts, hK, hr, hlk, hex, hXB, hst, hA⟩ := X
  intro h1 h2 h3 H locs ls hP hD hS hl
  exact lv_ladd hx hb d (kk h1 (ok_cons trivial (ok_tl (ok_tl h2))) h3 H locs ls hP hD hS hl)
theorem s_lmul (X : Cx SH G R C cc nL own ret nx) {a b : Int64} (d : decode cc pc = .ok (.lmul, 1)) (kk : J SH G R O C k n (pc + 1) L (VL (a * b) :: st) mm) : J SH G R O C k n pc L (VL b :: VL a :: st) mm := by
  obtain ⟨p, e, s, m, args, below, meth, c, A0⟩ := C
  obtain ⟨hx, hb, hml, hown, hts, hK, hr, hlk, hex, hXB, hst, hA⟩ := X
  intro h1 h2 h3 H locs ls hP hD hS hl
  exact lv_lmul hx hb d (kk h1 (ok_cons trivial (ok_tl (ok_tl h2))) h3 H locs ls hP hD hS hl)
theorem s_dup (X : Cx SH G R C cc nL own ret nx) {v : V} (hc : cat2 v = false) (d : decode cc pc = .ok (.dup, 1)) (kk : J SH G R O C k n (pc + 1) L (v :: v :: st) mm) : J SH G R O C k n pc L (v :: st) mm := by
  obtain ⟨p, e, s, m, args, below, meth, c, A0⟩ := C
  obtain ⟨hx, hb, hml, hown, hts, hK, hr, hlk, hex, hXB, hst, hA⟩ := X
  intro h1 h2 h3 H locs ls hP hD hS hl
  exact lv_dup hx hb d (cv_cat1 hc) (kk h1 (ok_cons (ok_hd h2) h2) h3 H locs ls hP hD hS hl)
theorem s_dup2 (X : Cx SH G R C cc nL own ret nx) {v w : V} (hv : cat2 v = false) (hw : cat2 w = false) (d : decode cc pc = .ok (.dup2, 1)) (kk : J SH G R O C k n (pc + 1) L (w :: v :: w :: v :: st) mm) : J SH G R O C k n pc L (w :: v :: st) mm := by
  obtain ⟨p, e, s, m, args, below, meth, c, A0⟩ := C
  obtain ⟨hx, hb, hml, hown, hts, hK, hr, hlk, hex, hXB, hst, hA⟩ := X
  intro h1 h2 h3 H locs ls hP hD hS hl
  exact lv_dup2_11 hx hb d (cv_cat1 hw) (cv_cat1 hv) (kk h1 (ok_cons (ok_hd h2) (ok_cons (ok_hd (ok_tl h2)) h2)) h3 H locs ls hP hD hS hl)
theorem s_pop (X : Cx SH G R C cc nL own ret nx) {v : V} (hc : cat2 v = false) (d : decode cc pc = .ok (.pop, 1)) (kk : J SH G R O C k n (pc + 1) L st mm) : J SH G R O C k n pc L (v :: st) mm := by
  obtain ⟨p, e, s, m, args, below, meth, c, A0⟩ := C
  obtain ⟨hx, hb, hml, hown, hts, hK, hr, hlk, hex, hXB, hst, hA⟩ := X
  intro h1 h2 h3 H locs ls hP hD hS hl
  exact lv_pop hx hb d (cv_cat1 hc) (kk h1 (ok_tl h2) h3 H locs ls hP hD hS hl)
theorem s_goto (X : Cx SH G R C cc nL own ret nx) {off : Int} {tgt : Nat} (d : decode cc pc = .ok (.goto off, 3)) (ht : (pc : Int) + off = (tgt : Int)) (kk : J SH G R O C k n tgt L st mm) : J SH G R O C k n pc L st mm := by
  obtain ⟨p, e, s, m, args, below, meth, c, A0⟩ := C
  obtain ⟨hx, hb, hml, hown, hts, hK, hr, hlk, hex, hXB, hst, hA⟩ := X
  intro h1 h2 h3 H locs ls hP hD hS hl
  exact lv_goto hx hb d ht (kk h1 h2 h3 H locs ls hP hD hS hl)
theorem s_icmplt_t (X : Cx SH G R C cc nL own ret nx) {a b : Int} {off : Int} {tgt : Nat} (d : decode cc pc = .ok (.if_icmp .lt off, 3)) (ht : (pc : Int) + off = (tgt : Int)) (kt : a < b → J SH G R O C k n tgt L st mm) (kf : ¬ (a < b) → J SH G R O C k n (pc + 3) L st mm) : J SH G R O C k n pc L (VI b :: VI a :: st) mm := by
  obtain ⟨p, e, s, m, args, below, meth, c, A0⟩ := C
  obtain ⟨hx, hb, hml, hown, hts, hK, hr, hlk, hex, hXB, hst, hA⟩ := X
  intro h1 h2 h3 H locs ls hP hD hS hl
  have ha : InR a := h2 (VI a) (List.mem_cons_of_mem _ List.mem_cons_self)
  have hb9 : InR b := h2 (VI b) List.mem_cons_self
  have hq : i32 a < i32 b ↔ a < b := (i32_lt ha hb9)
  refine lv_icmp_lt hx hb d ht (fun q => kt ?_ h1 (ok_tl (ok_tl h2)) h3 H locs ls hP hD hS hl) (fun q => kf ?_ h1 (ok_tl (ok_tl h2)) h3 H locs ls hP hD hS hl)
  · first | exact hq.mp q | exact fun z => q (hq.mpr z) | (have := hq.mp q; omega) | (have : ¬ (a < b) := (fun z => q (hq.mpr z)); omega)
  · first | exact hq.mp q | exact fun z => q (hq.mpr z) | (have := hq.mp q; omega) | (have : ¬ (a < b) := (fun z => q (hq.mpr z)); omega)
theorem s_icmplt_f (X : Cx SH G R C cc nL own ret nx) {a b : Int} {off : Int} {tgt : Nat} (d : decode cc pc = .ok (.if_icmp .lt off, 3)) (ht : (pc : Int) + off = (tgt : Int)) (kt : ¬ (b ≤ a) → J SH G R O C k n tgt L st mm) (kf : b ≤ a → J SH G R O C k n (pc + 3) L st mm) : J SH G R O C k n pc L (VI b :: VI a :: st) mm := by
  obtain ⟨p, e, s, m, args, below, meth, c, A0⟩ := C
  obtain ⟨hx, hb, hml, hown, hts, hK, hr, hlk, hex, hXB, hst, hA⟩ := X
  intro h1 h2 h3 H locs ls hP hD hS hl
  have ha : InR a := h2 (VI a) (List.mem_cons_of_mem _ List.mem_cons_self)
  have hb9 : InR b := h2 (VI b) List.mem_cons_self
  have hq : i32 a < i32 b ↔ a < b := (i32_lt ha hb9)
  refine lv_icmp_lt hx hb d ht (fun q => kt ?_ h1 (ok_tl (ok_tl h2)) h3 H locs ls hP hD hS hl) (fun q => kf ?_ h1 (ok_tl (ok_tl h2)) h3 H locs ls hP hD hS hl)
  · first | exact hq.mp q | exact fun z => q (hq.mpr z) | (have := hq.mp q; omega) | (have : ¬ (a < b) := (fun z => q (hq.mpr z)); omega)
  · first | exact hq.mp q | exact fun z => q (hq.mpr z) | (have := hq.mp q; omega) | (have : ¬ (a < b) := (fun z => q (hq.mpr z)); omega)
theorem s_icmpge_t (X : Cx SH G R C cc nL own ret nx) {a b : Int} {off : Int} {tgt : Nat} (d : decode cc pc = .ok (.if_icmp .ge off, 3)) (ht : (pc : Int) + off = (tgt : Int)) (kt : b ≤ a → J SH G R O C k n tgt L st mm) (kf : ¬ (b ≤ a) → J SH G R O C k n (pc + 3) L st mm) : J SH G R O C k n pc L (VI b :: VI a :: st) mm := by
  obtain ⟨p, e, s, m, args, below, meth, c, A0⟩ := C
  obtain ⟨hx, hb, hml, hown, hts, hK, hr, hlk, hex, hXB, hst, hA⟩ := X
  intro h1 h2 h3 H locs ls hP hD hS hl
  have ha : InR a := h2 (VI a) (List.mem_cons_of_mem _ List.mem_cons_self)
  have hb9 : InR b := h2 (VI b) List.mem_cons_self
  have hq : i32 b ≤ i32 a ↔ b ≤ a := (i32_le hb9 ha)
  refine lv_icmp_ge hx hb d ht (fun q => kt ?_ h1 (ok_tl (ok_tl h2)) h3 H locs ls hP hD hS hl) (fun q => kf ?_ h1 (ok_tl (ok_tl h2)) h3 H locs ls hP hD hS hl)
  · first | exact hq.mp q | exact fun z => q (hq.mpr z) | (have := hq.mp q; omega) | (have : ¬ (b ≤ a) := (fun z => q (hq.mpr z)); omega)
  · first | exact hq.mp q | exact fun z => q (hq.mpr z) | (have := hq.mp q; omega) | (have : ¬ (b ≤ a) := (fun z => q (hq.mpr z)); omega)
theorem s_icmpge_f (X : Cx SH G R C cc nL own ret nx) {a b : Int} {off : Int} {tgt : Nat} (d : decode cc pc = .ok (.if_icmp .ge off, 3)) (ht : (pc : Int) + off = (tgt : Int)) (kt : ¬ (a < b) → J SH G R O C k n tgt L st mm) (kf : a < b → J SH G R O C k n (pc + 3) L st mm) : J SH G R O C k n pc L (VI b :: VI a :: st) mm := by
  obtain ⟨p, e, s, m, args, below, meth, c, A0⟩ := C
  obtain ⟨hx, hb, hml, hown, hts, hK, hr, hlk, hex, hXB, hst, hA⟩ := X
  intro h1 h2 h3 H locs ls hP hD hS hl
  have ha : InR a := h2 (VI a) (List.mem_cons_of_mem _ List.mem_cons_self)
  have hb9 : InR b := h2 (VI b) List.mem_cons_self
  have hq : i32 b ≤ i32 a ↔ b ≤ a := (i32_le hb9 ha)
  refine lv_icmp_ge hx hb d ht (fun q => kt ?_ h1 (ok_tl (ok_tl h2)) h3 H locs ls hP hD hS hl) (fun q => kf ?_ h1 (ok_tl (ok_tl h2)) h3 H locs ls hP hD hS hl)
  · first | exact hq.mp q | exact fun z => q (hq.mpr z) | (have := hq.mp q; omega) | (have : ¬ (b ≤ a) := (fun z => q (hq.mpr z)); omega)
  · first | exact hq.mp q | exact fun z => q (hq.mpr z) | (have := hq.mp q; omega) | (have : ¬ (b ≤ a) := (fun z => q (hq.mpr z)); omega)
theorem s_icmpgt_t (X : Cx SH G R C cc nL own ret nx) {a b : Int} {off : Int} {tgt : Nat} (d : decode cc pc = .ok (.if_icmp .gt off, 3)) (ht : (pc : Int) + off = (tgt : Int)) (kt : b < a → J SH G R O C k n tgt L st mm) (kf : ¬ (b < a) → J SH G R O C k n (pc + 3) L st mm) : J SH G R O C k n pc L (VI b :: VI a :: st) mm := by
  obtain ⟨p, e, s, m, args, below, meth, c, A0⟩ := C
  obtain ⟨hx, hb, hml, hown, hts, hK, hr, hlk, hex, hXB, hst, hA⟩ := X
  intro h1 h2 h3 H locs ls hP hD hS hl
  have ha : InR a := h2 (VI a) (List.mem_cons_of_mem _ List.mem_cons_self)
  have hb9 : InR b := h2 (VI b) List.mem_cons_self
  have hq : i32 b < i32 a ↔ b < a := (i32_lt hb9 ha)
  refine lv_icmp_gt hx hb d ht (fun q => kt ?_ h1 (ok_tl (ok_tl h2)) h3 H locs ls hP hD hS hl) (fun q => kf ?_ h1 (ok_tl (ok_tl h2)) h3 H locs ls hP hD hS hl)
  · first | exact hq.mp q | exact fun z => q (hq.mpr z) | (have := hq.mp q; omega) | (have : ¬ (b < a) := (fun z => q (hq.mpr z)); omega)
  · first | exact hq.mp q | exact fun z => q (hq.mpr z) | (have := hq.mp q; omega) | (have : ¬ (b < a) := (fun z => q (hq.mpr z)); omega)
theorem s_icmpgt_f (X : Cx SH G R C cc nL own ret nx) {a b : Int} {off : Int} {tgt : Nat} (d : decode cc pc = .ok (.if_icmp .gt off, 3)) (ht : (pc : Int) + off = (tgt : Int)) (kt : ¬ (a ≤ b) → J SH G R O C k n tgt L st mm) (kf : a ≤ b → J SH G R O C k n (pc + 3) L st mm) : J SH G R O C k n pc L (VI b :: VI a :: st) mm := by
  obtain ⟨p, e, s, m, args, below, meth, c, A0⟩ := C
  obtain ⟨hx, hb, hml, hown, hts, hK, hr, hlk, hex, hXB, hst, hA⟩ := X
  intro h1 h2 h3 H locs ls hP hD hS hl
  have ha : InR a := h2 (VI a) (List.mem_cons_of_mem _ List.mem_cons_self)
  have hb9 : InR b := h2 (VI b) List.mem_cons_self
  have hq : i32 b < i32 a ↔ b < a := (i32_lt hb9 ha)
  refine lv_icmp_gt hx hb d ht (fun q => kt ?_ h1 (ok_tl (ok_tl h2)) h3 H locs ls hP hD hS hl) (fun q => kf ?_ h1 (ok_tl (ok_tl h2)) h3 H locs ls hP hD hS hl)
  · first | exact hq.mp q | exact fun z => q (hq.mpr z) | (have := hq.mp q; omega) | (have : ¬ (b < a) := (fun z => q (hq.mpr z)); omega)
  · first | exact hq.mp q | exact fun z => q (hq.mpr z) | (have := hq.mp q; omega) | (have : ¬ (b < a) := (fun z => q (hq.mpr z)); omega)
theorem s_icmple_t (X : Cx SH G R C cc nL own ret nx) {a b : Int} {off : Int} {tgt : Nat} (d : decode cc pc = .ok (.if_icmp .le off, 3)) (ht : (pc : Int) + off = (tgt : Int)) (kt : a ≤ b → J SH G R O C k n tgt L st mm) (kf : ¬ (a ≤ b) → J SH G R O C k n (pc + 3) L st mm) : J SH G R O C k n pc L (VI b :: VI a :: st) mm := by
  obtain ⟨p, e, s, m, args, below, meth, c, A0⟩ := C
  obtain ⟨hx, hb, hml, hown, hts, hK, hr, hlk, hex, hXB, hst, hA⟩ := X
  intro h1 h2 h3 H locs ls hP hD hS hl
  have ha : InR a := h2 (VI a) (List.mem_cons_of_mem _ List.mem_cons_self)
  have hb9 : InR b := h2 (VI b) List.mem_cons_self
  have hq : i32 a ≤ i32 b ↔ a ≤ b := (i32_le ha hb9)
  refine lv_icmp_le hx hb d ht (fun q => kt ?_ h1 (ok_tl (ok_tl h2)) h3 H locs ls hP hD hS hl) (fun q => kf ?_ h1 (ok_tl (ok_tl h2)) h3 H locs ls hP hD hS hl)
  · first | exact hq.mp q | exact fun z => q (hq.mpr z) | (have := hq.mp q; omega) | (have : ¬ (a ≤ b) := (fun z => q (hq.mpr z)); omega)
  · first | exact hq.mp q | exact fun z => q (hq.mpr z) | (have := hq.mp q; omega) | (have : ¬ (a ≤ b) := (fun z => q (hq.mpr z)); omega)
theorem s_icmple_f (X : Cx SH G R C cc nL own ret nx) {a b : Int} {off : Int} {tgt : Nat} (d : decode cc pc = .ok (.if_icmp .le off, 3)) (ht : (pc : Int) + off = (tgt : Int)) (kt : ¬ (b < a) → J SH G R O C k n tgt L st mm) (kf : b < a → J SH G R O C k n (pc + 3) L st mm) : J SH G R O C k n pc L (VI b :: VI a :: st) mm := by
  obtain ⟨p, e, s, m, args, below, meth, c, A0⟩ := C
  obtain ⟨hx, hb, hml, hown, hts, hK, hr, hlk, hex, hXB, hst, hA⟩ := X
  intro h1 h2 h3 H locs ls hP hD hS hl
  have ha : InR a := h2 (VI a) (List.mem_cons_of_mem _ List.mem_cons_self)
  have hb9 : InR b := h2 (VI b) List.mem_cons_self
  have hq : i32 a ≤ i32 b ↔ a ≤ b := (i32_le ha hb9)
  refine lv_icmp_le hx hb d ht (fun q => kt ?_ h1 (ok_tl (ok_tl h2)) h3 H locs ls hP hD hS hl) (fun q => kf ?_ h1 (ok_tl (ok_tl h2)) h3 H locs ls hP hD hS hl)
  · first | exact hq.mp q | exact fun z => q (hq.mpr z) | (have := hq.mp q; omega) | (have : ¬ (a ≤ b) := (fun z => q (hq.mpr z)); omega)
  · first | exact hq.mp q | exact fun z => q (hq.mpr z) | (have := hq.mp q; omega) | (have : ¬ (a ≤ b) := (fun z => q (hq.mpr z)); omega)
theorem s_icmpeq_t (X : Cx SH G R C cc nL own ret nx) {a b : Int} {off : Int} {tgt : Nat} (d : decode cc pc = .ok (.if_icmp .eq off, 3)) (ht : (pc : Int) + off = (tgt : Int)) (kt : a = b → J SH G R O C k n tgt L st mm) (kf : ¬ (a = b) → J SH G R O C k n (pc + 3) L st mm) : J SH G R O C k n pc L (VI b :: VI a :: st) mm := by
  obtain ⟨p, e, s, m, args, below, meth, c, A0⟩ := C
  obtain ⟨hx, hb, hml, hown, hts, hK, hr, hlk, hex, hXB, hst, hA⟩ := X
  intro h1 h2 h3 H locs ls hP hD hS hl
  have ha : InR a := h2 (VI a) (List.mem_cons_of_mem _ List.mem_cons_self)
  have hb9 : InR b := h2 (VI b) List.mem_cons_self
  have hq : i32 a = i32 b ↔ a = b := (i32_inj ha hb9)
  refine lv_icmp_eq hx hb d ht (fun q => kt ?_ h1 (ok_tl (ok_tl h2)) h3 H locs ls hP hD hS hl) (fun q => kf ?_ h1 (ok_tl (ok_tl h2)) h3 H locs ls hP hD hS hl)
  · first | exact hq.mp q | exact fun z => q (hq.mpr z) | (have := hq.mp q; omega) | (have : ¬ (a = b) := (fun z => q (hq.mpr z)); omega)
  · first | exact hq.mp q | exact fun z => q (hq.mpr z) | (have := hq.mp q; omega) | (have : ¬ (a = b) := (fun z => q (hq.mpr z)); omega)
theorem s_icmpeq_f (X : Cx SH G R C cc nL own ret nx) {a b : Int} {off : Int} {tgt : Nat} (d : decode cc pc = .ok (.if_icmp .eq off, 3)) (ht : (pc : Int) + off = (tgt : Int)) (kt : ¬ (¬ a = b) → J SH G R O C k n tgt L st mm) (kf : ¬ a = b → J SH G R O C k n (pc + 3) L st mm) : J SH G R O C k n pc L (VI b :: VI a :: st) mm := by
  obtain ⟨p, e, s, m, args, below, meth, c, A0⟩ := C
  obtain ⟨hx, hb, hml, hown, hts, hK, hr, hlk, hex, hXB, hst, hA⟩ := X
  intro h1 h2 h3 H locs ls hP hD hS hl
  have ha : InR a := h2 (VI a) (List.mem_cons_of_mem _ List.mem_cons_self)
  have hb9 : InR b := h2 (VI b) List.mem_cons_self
  have hq : i32 a = i32 b ↔ a = b := (i32_inj ha hb9)
  refine lv_icmp_eq hx hb d ht (fun q => kt ?_ h1 (ok_tl (ok_tl h2)) h3 H locs ls hP hD hS hl) (fun q => kf ?_ h1 (ok_tl (ok_tl h2)) h3 H locs ls hP hD hS hl)
  · first | exact hq.mp q | exact fun z => q (hq.mpr z) | (have := hq.mp q; omega) | (have : ¬ (a = b) := (fun z => q (hq.mpr z)); omega)
  · first | exact hq.mp q | exact fun z => q (hq.mpr z) | (have := hq.mp q; omega) | (have : ¬ (a = b) := (fun z => q (hq.mpr z)); omega)
theorem s_icmpne_t (X : Cx SH G R C cc nL own ret nx) {a b : Int} {off : Int} {tgt : Nat} (d : decode cc pc = .ok (.if_icmp .ne off, 3)) (ht : (pc : Int) + off = (tgt : Int)) (kt : ¬ a = b → J SH G R O C k n tgt L st mm) (kf : ¬ (¬ a = b) → J SH G R O C k n (pc + 3) L st mm) : J SH G R O C k n pc L (VI b :: VI a :: st) mm := by
  obtain ⟨p, e, s, m, args, below, meth, c, A0⟩ := C
  obtain ⟨hx, hb, hml, hown, hts, hK, hr, hlk, hex, hXB, hst, hA⟩ := X
  intro h1 h2 h3 H locs ls hP hD hS hl
  have ha : InR a := h2 (VI a) (List.mem_cons_of_mem _ List.mem_cons_self)
  have hb9 : InR b := h2 (VI b) List.mem_cons_self
  have hq : i32 a = i32 b ↔ a = b := (i32_inj ha hb9)
  refine lv_icmp_ne hx hb d ht (fun q => kt ?_ h1 (ok_tl (ok_tl h2)) h3 H locs ls hP hD hS hl) (fun q => kf ?_ h1 (ok_tl (ok_tl h2)) h3 H locs ls hP hD hS hl)
  · first | exact hq.mp q | exact fun z => q (hq.mpr z) | (have := hq.mp q; omega) | (have : ¬ (a = b) := (fun z => q (hq.mpr z)); omega)
  · first | exact hq.mp q | exact fun z => q (hq.mpr z) | (have := hq.mp q; omega) | (have : ¬ (a = b) := (fun z => q (hq.mpr z)); omega)
theorem s_icmpne_f (X : Cx SH G R C cc nL own ret nx) {a b : Int} {off : Int} {tgt : Nat} (d : decode cc pc = .ok (.if_icmp .ne off, 3)) (ht : (pc : Int) + off = (tgt : Int)) (kt : ¬ (a = b) → J SH G R O C k n tgt L st mm) (kf : a = b → J SH G R O C k n (pc + 3) L st mm) : J SH G R O C k n pc L (VI b :: VI a :: st) mm := by
  obtain ⟨p, e, s, m, args, below, meth, c, A0⟩ := C
  obtain ⟨hx, hb, hml, hown, hts, hK, hr, hlk, hex, hXB, hst, hA⟩ := X
  intro h1 h2 h3 H locs ls hP hD hS hl
  have ha : InR a := h2 (VI a) (List.mem_cons_of_mem _ List.mem_cons_self)
  have hb9 : InR b := h2 (VI b) List.mem_cons_self
  have hq : i32 a = i32 b ↔ a = b := (i32_inj ha hb9)
  refine lv_icmp_ne hx hb d ht (fun q => kt ?_ h1 (ok_tl (ok_tl h2)) h3 H locs ls hP hD hS hl) (fun q => kf ?_ h1 (ok_tl (ok_tl h2)) h3 H locs ls hP hD hS hl)
  · first | exact hq.mp q | exact fun z => q (hq.mpr z) | (have := hq.mp q; omega) | (have : ¬ (a = b) := (fun z => q (hq.mpr z)); omega)
  · first | exact hq.mp q | exact fun z => q (hq.mpr z) | (have := hq.mp q; omega) | (have : ¬ (a = b) := (fun z => q (hq.mpr z)); omega)
theorem s_iflt_t (X : Cx SH G R C cc nL own ret nx) {a : Int} {off : Int} {tgt : Nat} (d : decode cc pc = .ok (.ifCond .lt off, 3)) (ht : (pc : Int) + off = (tgt : Int)) (kt : a < 0 → J SH G R O C k n tgt L st mm) (kf : ¬ (a < 0) → J SH G R O C k n (pc + 3) L st mm) : J SH G R O C k n pc L (VI a :: st) mm := by
  obtain ⟨p, e, s, m, args, below, meth, c, A0⟩ := C
  obtain ⟨hx, hb, hml, hown, hts, hK, hr, hlk, hex, hXB, hst, hA⟩ := X
  intro h1 h2 h3 H locs ls hP hD hS hl
  have ha : InR a := ok_hd h2
  have hb9 : InR 0 := ⟨by omega, by omega⟩
  have hq : i32 a < i32 0 ↔ a < 0 := (i32_lt ha hb9)
  refine lv_if_lt hx hb d ht (fun q => kt ?_ h1 (ok_tl h2) h3 H locs ls hP hD hS hl) (fun q => kf ?_ h1 (ok_tl h2) h3 H locs ls hP hD hS hl)
  · first | exact hq.mp q | exact fun z => q (hq.mpr z) | (have := hq.mp q; omega) | (have : ¬ (a < 0) := (fun z => q (hq.mpr z)); omega)
  · first | exact hq.mp q | exact fun z => q (hq.mpr z) | (have := hq.mp q; omega) | (have : ¬ (a < 0) := (fun z => q (hq.mpr z)); omega)
theorem s_iflt_f (X : Cx SH G R C cc nL own ret nx) {a : Int} {off : Int} {tgt : Nat} (d : decode cc pc = .ok (.ifCond .lt off, 3)) (ht : (pc : Int) + off = (tgt : Int)) (kt : ¬ (0 ≤ a) → J SH G R O C k n tgt L st mm) (kf : 0 ≤ a → J SH G R O C k n (pc + 3) L st mm) : J SH G R O C k n pc L (VI a :: st) mm := by
  obtain ⟨p, e, s, m, args, below, meth, c, A0⟩ := C
  obtain ⟨hx, hb, hml, hown, hts, hK, hr, hlk, hex, hXB, hst, hA⟩ := X
  intro h1 h2 h3 H locs ls hP hD hS hl
  have ha : InR a := ok_hd h2
  have hb9 : InR 0 := ⟨by omega, by omega⟩
  have hq : i32 a < i32 0 ↔ a < 0 := (i32_lt ha hb9)
  refine lv_if_lt hx hb d ht (fun q => kt ?_ h1 (ok_tl h2) h3 H locs ls hP hD hS hl) (fun q => kf ?_ h1 (ok_tl h2) h3 H locs ls hP hD hS hl)
  · first | exact hq.mp q | exact fun z => q (hq.mpr z) | (have := hq.mp q; omega) | (have : ¬ (a < 0) := (fun z => q (hq.mpr z)); omega)
  · first | exact hq.mp q | exact fun z => q (hq.mpr z) | (have := hq.mp q; omega) | (have : ¬ (a < 0) := (fun z => q (hq.mpr z)); omega)
theorem s_ifge_t (X : Cx SH G R C cc nL own ret nx) {a : Int} {off : Int} {tgt : Nat} (d : decode cc pc = .ok (.ifCond .ge off, 3)) (ht : (pc : Int) + off = (tgt : Int)) (kt : 0 ≤ a → J SH G R O C k n tgt L st mm) (kf : ¬ (0 ≤ a) → J SH G R O C k n (pc + 3) L st mm) : J SH G R O C k n pc L (VI a :: st) mm := by
  obtain ⟨p, e, s, m, args, below, meth, c, A0⟩ := C
  obtain ⟨hx, hb, hml, hown, hts, hK, hr, hlk, hex, hXB, hst, hA⟩ := X
  intro h1 h2 h3 H locs ls hP hD hS hl
  have ha : InR a := ok_hd h2
  have hb9 : InR 0 := ⟨by omega, by omega⟩
  have hq : i32 0 ≤ i32 a ↔ 0 ≤ a := (i32_le hb9 ha)
  refine lv_if_ge hx hb d ht (fun q => kt ?_ h1 (ok_tl h2) h3 H locs ls hP hD hS hl) (fun q => kf ?_ h1 (ok_tl h2) h3 H locs ls hP hD hS hl)
  · first | exact hq.mp q | exact fun z => q (hq.mpr z) | (have := hq.mp q; omega) | (have : ¬ (0 ≤ a) := (fun z => q (hq.mpr z)); omega)
  · first | exact hq.mp q | exact fun z => q (hq.mpr z) | (have := hq.mp q; omega) | (have : ¬ (0 ≤ a) := (fun z => q (hq.mpr z)); omega)
theorem s_ifge_f (X : Cx SH G R C cc nL own ret nx) {a : Int} {off : Int} {tgt : Nat} (d : decode cc pc = .ok (.ifCond .ge off, 3)) (ht : (pc : Int) + off = (tgt : Int)) (kt : ¬ (a < 0) → J SH G R O C k n tgt L st mm) (kf : a < 0 → J SH G R O C k n (pc + 3) L st mm) : J SH G R O C k n pc L (VI a :: st) mm := by
  obtain ⟨p, e, s, m, args, below, meth, c, A0⟩ := C
  obtain ⟨hx, hb, hml, hown, hts, hK, hr, hlk, hex, hXB, hst, hA⟩ := X
  intro h1 h2 h3 H locs ls hP hD hS hl
  have ha : InR a := ok_hd h2
  have hb9 : InR 0 := ⟨by omega, by omega⟩
  have hq : i32 0 ≤ i32 a ↔ 0 ≤ a := (i32_le hb9 ha)
  refine lv_if_ge hx hb d ht (fun q => kt ?_ h1 (ok_tl h2) h3 H locs ls hP hD hS hl) (fun q => kf ?_ h1 (ok_tl h2) h3 H locs ls hP hD hS hl)
  · first | exact hq.mp q | exact fun z => q (hq.mpr z) | (have := hq.mp q; omega) | (have : ¬ (0 ≤ a) := (fun z => q (hq.mpr z)); omega)
  · first | exact hq.mp q | exact fun z => q (hq.mpr z) | (have := hq.mp q; omega) | (have : ¬ (0 ≤ a) := (fun z => q (hq.mpr z)); omega)
theorem s_ifgt_t (X : Cx SH G R C cc nL own ret nx) {a : Int} {off : Int} {tgt : Nat} (d : decode cc pc = .ok (.ifCond .gt off, 3)) (ht : (pc : Int) + off = (tgt : Int)) (kt : 0 < a → J SH G R O C k n tgt L st mm) (kf : ¬ (0 < a) → J SH G R O C k n (pc + 3) L st mm) : J SH G R O C k n pc L (VI a :: st) mm := by
  obtain ⟨p, e, s, m, args, below, meth, c, A0⟩ := C
  obtain ⟨hx, hb, hml, hown, hts, hK, hr, hlk, hex, hXB, hst, hA⟩ := X
  intro h1 h2 h3 H locs ls hP hD hS hl
  have ha : InR a := ok_hd h2
  have hb9 : InR 0 := ⟨by omega, by omega⟩
  have hq : i32 0 < i32 a ↔ 0 < a := (i32_lt hb9 ha)
  refine lv_if_gt hx hb d ht (fun q => kt ?_ h1 (ok_tl h2) h3 H locs ls hP hD hS hl) (fun q => kf ?_ h1 (ok_tl h2) h3 H locs ls hP hD hS hl)
  · first | exact hq.mp q | exact fun z => q (hq.mpr z) | (have := hq.mp q; omega) | (have : ¬ (0 < a) := (fun z => q (hq.mpr z)); omega)
  · first | exact hq.mp q | exact fun z => q (hq.mpr z) | (have := hq.mp q; omega) | (have : ¬ (0 < a) := (fun z => q (hq.mpr z)); omega)
theorem s_ifgt_f (X : Cx SH G R C cc nL own ret nx) {a : Int} {off : Int} {tgt : Nat} (d : decode cc pc = .ok (.ifCond .gt off, 3)) (ht : (pc : Int) + off = (tgt : Int)) (kt : ¬ (a ≤ 0) → J SH G R O C k n tgt L st mm) (kf : a ≤ 0 → J SH G R O C k n (pc + 3) L st mm) : J SH G R O C k n pc L (VI a :: st) mm := by
  obtain ⟨p, e, s, m, args, below, meth, c, A0⟩ := C
  obtain ⟨hx, hb, hml, hown, hts, hK, hr, hlk, hex, hXB, hst, hA⟩ := X
  intro h1 h2 h3 H locs ls hP hD hS hl
  have ha : InR a := ok_hd h2
  have hb9 : InR 0 := ⟨by omega, by omega⟩
  have hq : i32 0 < i32 a ↔ 0 < a := (i32_lt hb9 ha)
  refine lv_if_gt hx hb d ht (fun q => kt ?_ h1 (ok_tl h2) h3 H locs ls hP hD hS hl) (fun q => kf ?_ h1 (ok_tl h2) h3 H locs ls hP hD hS hl)
  · first | exact hq.mp q | exact fun z => q (hq.mpr z) | (have := hq.mp q; omega) | (have : ¬ (0 < a) := (fun z => q (hq.mpr z)); omega)
  · first | exact hq.mp q | exact fun z => q (hq.mpr z) | (have := hq.mp q; omega) | (have : ¬ (0 < a) := (fun z => q (hq.mpr z)); omega)
theorem s_ifle_t (X : Cx SH G R C cc nL own ret nx) {a : Int} {off : Int} {tgt : Nat} (d : decode cc pc = .ok (.ifCond .le off, 3)) (ht : (pc : Int) + off = (tgt : Int)) (kt : a ≤ 0 → J SH G R O C k n tgt L st mm) (kf : ¬ (a ≤ 0) → J SH G R O C k n (pc + 3) L st mm) : J SH G R O C k n pc L (VI a :: st) mm := by
  obtain ⟨p, e, s, m, args, below, meth, c, A0⟩ := C
  obtain ⟨hx, hb, hml, hown, hts, hK, hr, hlk, hex, hXB, hst, hA⟩ := X
  intro h1 h2 h3 H locs ls hP hD hS hl
  have ha : InR a := ok_hd h2
  have hb9 : InR 0 := ⟨by omega, by omega⟩
  have hq : i32 a ≤ i32 0 ↔ a ≤ 0 := (i32_le ha hb9)
  refine lv_if_le hx hb d ht (fun q => kt ?_ h1 (ok_tl h2) h3 H locs ls hP hD hS hl) (fun q => kf ?_ h1 (ok_tl h2) h3 H locs ls hP hD hS hl)
  · first | exact hq.mp q | exact fun z => q (hq.mpr z) | (have := hq.mp q; omega) | (have : ¬ (a ≤ 0) := (fun z => q (hq.mpr z)); omega)
  · first | exact hq.mp q | exact fun z => q (hq.mpr z) | (have := hq.mp q; omega) | (have : ¬ (a ≤ 0) := (fun z => q (hq.mpr z)); omega)
theorem s_ifle_f (X : Cx SH G R C cc nL own ret nx) {a : Int} {off : Int} {tgt : Nat} (d : decode cc pc = .ok (.ifCond .le off, 3)) (ht : (pc : Int) + off = (tgt : Int)) (kt : ¬ (0 < a) → J SH G R O C k n tgt L st mm) (kf : 0 < a → J SH G R O C k n (pc + 3) L st mm) : J SH G R O C k n pc L (VI a :: st) mm := by
  obtain ⟨p, e, s, m, args, below, meth, c, A0⟩ := C
  obtain ⟨hx, hb, hml, hown, hts, hK, hr, hlk, hex, hXB, hst, hA⟩ := X
  intro h1 h2 h3 H locs ls hP hD hS hl
  have ha : InR a := ok_hd h2
  have hb9 : InR 0 := ⟨by omega, by omega⟩
  have hq : i32 a ≤ i32 0 ↔ a ≤ 0 := (i32_le ha hb9)
  refine lv_if_le hx hb d ht (fun q => kt ?_ h1 (ok_tl h2) h3 H locs ls hP hD hS hl) (fun q => kf ?_ h1 (ok_tl h2) h3 H locs ls hP hD hS hl)
  · first | exact hq.mp q | exact fun z => q (hq.mpr z) | (have := hq.mp q; omega) | (have : ¬ (a ≤ 0) := (fun z => q (hq.mpr z)); omega)
  · first | exact hq.mp q | exact fun z => q (hq.mpr z) | (have := hq.mp q; omega) | (have : ¬ (a ≤ 0) := (fun z => q (hq.mpr z)); omega)
theorem s_ifeq_t (X : Cx SH G R C cc nL own ret nx) {a : Int} {off : Int} {tgt : Nat} (d : decode cc pc = .ok (.ifCond .eq off, 3)) (ht : (pc : Int) + off = (tgt : Int)) (kt : a = 0 → J SH G R O C k n tgt L st mm) (kf : ¬ (a = 0) → J SH G R O C k n (pc + 3) L st mm) : J SH G R O C k n pc L (VI a :: st) mm := by
  obtain ⟨p, e, s, m, args, below, meth, c, A0⟩ := C
  obtain ⟨hx, hb, hml, hown, hts, hK, hr, hlk, hex, hXB, hst, hA⟩ := X
  intro h1 h2 h3 H locs ls hP hD hS hl
  have ha : InR a := ok_hd h2
  have hb9 : InR 0 := ⟨by omega, by omega⟩
  have hq : i32 a = i32 0 ↔ a = 0 := (i32_inj ha hb9)
  refine lv_if_eq hx hb d ht (fun q => kt ?_ h1 (ok_tl h2) h3 H locs ls hP hD hS hl) (fun q => kf ?_ h1 (ok_tl h2) h3 H locs ls hP hD hS hl)
  · first | exact hq.mp q | exact fun z => q (hq.mpr z) | (have := hq.mp q; omega) | (have : ¬ (a = 0) := (fun z => q (hq.mpr z)); omega)
  · first | exact hq.mp q | exact fun z => q (hq.mpr z) | (have := hq.mp q; omega) | (have : ¬ (a = 0) := (fun z => q (hq.mpr z)); omega)
theorem s_ifeq_f (X : Cx SH G R C cc nL own ret nx) {a : Int} {off : Int} {tgt : Nat} (d : decode cc pc = .ok (.ifCond .eq off, 3)) (ht : (pc : Int) + off = (tgt : Int)) (kt : ¬ (¬ a = 0) → J SH G R O C k n tgt L st mm) (kf : ¬ a = 0 → J SH G R O C k n (pc + 3) L st mm) : J SH G R O C k n pc L (VI a :: st) mm := by
  obtain ⟨p, e, s, m, args, below, meth, c, A0⟩ := C
  obtain ⟨hx, hb, hml, hown, hts, hK, hr, hlk, hex, hXB, hst, hA⟩ := X
  intro h1 h2 h3 H locs ls hP hD hS hl
  have ha : InR a := ok_hd h2
  have hb9 : InR 0 := ⟨by omega, by omega⟩
  have hq : i32 a = i32 0 ↔ a = 0 := (i32_inj ha hb9)
  refine lv_if_eq hx hb d ht (fun q => kt ?_ h1 (ok_tl h2) h3 H locs ls hP hD hS hl) (fun q => kf ?_ h1 (ok_tl h2) h3 H locs ls hP hD hS hl)
  · first | exact hq.mp q | exact fun z => q (hq.mpr z) | (have := hq.mp q; omega) | (have : ¬ (a = 0) := (fun z => q (hq.mpr z)); omega)
  · first | exact hq.mp q | exact fun z => q (hq.mpr z) | (have := hq.mp q; omega) | (have : ¬ (a = 0) := (fun z => q (hq.mpr z)); omega)
theorem s_ifne_t (X : Cx SH G R C cc nL own ret nx) {a : Int} {off : Int} {tgt : Nat} (d : decode cc pc = .ok (.ifCond .ne off, 3)) (ht : (pc : Int) + off = (tgt : Int)) (kt : ¬ a = 0 → J SH G R O C k n tgt L st mm) (kf : ¬ (¬ a = 0) → J SH G R O C k n (pc + 3) L st mm) : J SH G R O C k n pc L (VI a :: st) mm := by
  obtain ⟨p, e, s, m, args, below, meth, c, A0⟩ := C
  obtain ⟨hx, hb, hml, hown, hts, hK, hr, hlk, hex, hXB, hst, hA⟩ := X
  intro h1 h2 h3 H locs ls hP hD hS hl
  have ha : InR a := ok_hd h2
  have hb9 : InR 0 := ⟨by omega, by omega⟩
  have hq : i32 a = i32 0 ↔ a = 0 := (i32_inj ha hb9)
  refine lv_if_ne hx hb d ht (fun q => kt ?_ h1 (ok_tl h2) h3 H locs ls hP hD hS hl) (fun q => kf ?_ h1 (ok_tl h2) h3 H locs ls hP hD hS hl)
  · first | exact hq.mp q | exact fun z => q (hq.mpr z) | (have := hq.mp q; omega) | (have : ¬ (a = 0) := (fun z => q (hq.mpr z)); omega)
  · first | exact hq.mp q | exact fun z => q (hq.mpr z) | (have := hq.mp q; omega) | (have : ¬ (a = 0) := (fun z => q (hq.mpr z)); omega)
theorem s_ifne_f (X : Cx SH G R C cc nL own ret nx) {a : Int} {off : Int} {tgt : Nat} (d : decode cc pc = .ok (.ifCond .ne off, 3)) (ht : (pc : Int) + off = (tgt : Int)) (kt : ¬ (a = 0) → J SH G R O C k n tgt L st mm) (kf : a = 0 → J SH G R O C k n (pc + 3) L st mm) : J SH G R O C k n pc L (VI a :: st) mm := by
  obtain ⟨p, e, s, m, args, below, meth, c, A0⟩ := C
  obtain ⟨hx, hb, hml, hown, hts, hK, hr, hlk, hex, hXB, hst, hA⟩ := X
  intro h1 h2 h3 H locs ls hP hD hS hl
  have ha : InR a := ok_hd h2
  have hb9 : InR 0 := ⟨by omega, by omega⟩
  have hq : i32 a = i32 0 ↔ a = 0 := (i32_inj ha hb9)
  refine lv_if_ne hx hb d ht (fun q => kt ?_ h1 (ok_tl h2) h3 H locs ls hP hD hS hl) (fun q => kf ?_ h1 (ok_tl h2) h3 H locs ls hP hD hS hl)
  · first | exact hq.mp q | exact fun z => q (hq.mpr z) | (have := hq.mp q; omega) | (have : ¬ (a = 0) := (fun z => q (hq.mpr z)); omega)
  · first | exact hq.mp q | exact fun z => q (hq.mpr z) | (have := hq.mp q; omega) | (have : ¬ (a = 0) := (fun z => q (hq.mpr z)); omega)
end ST2
