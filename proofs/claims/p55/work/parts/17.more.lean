/-! ===== MORE ROWS over J: wide constants, System.arraycopy ===== -/
def ACk (own : String) (i : Nat) : Prop := Cond.methodLink own i arraycopyName ∈ lw_U ∧ Cond.native arraycopyName ∈ lw_U ∧ Cond.static arraycopyName ∈ lw_U ∧ Cond.initialized "java/lang/System" ∈ lw_U
/-- the first n places of array a, copied to array b -/
def cpyM (m : Mem) (a b n : Nat) : Mem := fun c i => if c = b ∧ i < n then m a i else m c i
section MO
variable {SH : List Sh} {G : Gl} {R : Room} {O : OutT} {C : Ct} {k n pc : Nat} {L : List (Nat × V)} {st : List V} {mm : Mem} {cc : ByteArray} {nL : Nat} {own : String} {ret : Option FieldType} {nx : Bool}
theorem s_ldcW (X : Cx SH G R C cc nL own ret nx) {z : Int} {i : Nat} (hz : InR z) (hw : Cond.constant own i (i32 z) ∈ lw_U) (d : decode cc pc = .ok (.ldc_w i, 3)) (kk : J SH G R O C k n (pc + 3) L (VI z :: st) mm) : J SH G R O C k n pc L st mm := by
  obtain ⟨p, e, s, m, args, below, meth, c, A0⟩ := C
  obtain ⟨hx, hb, hml, hown, hts, hK, hr, hlk, hex, hXB, hst, hA⟩ := X
  intro h1 h2 h3 H locs ls hP hD hS hl
  exact lv_ldcw hx hb hown (hts _ hw) d (kk h1 (ok_cons hz h2) h3 H locs ls hP hD hS hl)
theorem s_copy (X : Cx SH G R C cc nL own ret nx) {i x y Nx Ny : Nat} {z : Int} {m' : Mem} (w : ACk own i) (hm : m' = cpyM mm x y z.toNat) (shx : SH[x]? = some (.inr (0, Nx, none))) (shy : SH[y]? = some (.inr (0, Ny, none))) (h0 : 0 ≤ z) (hzx : z ≤ Nx) (hzy : z ≤ Ny)
    (hf : 1 ≤ R.frames) (hloc : ((st.map (cv G.2.2.2)).map fun v => v.category).sum + (nativeFrameWords "java/lang/System" "arraycopy" 5 + 11) ≤ R.locals) (d : decode cc pc = .ok (.invokestatic i, 3)) (kk : J SH G R O C k n (pc + 3) L st m') : J SH G R O C k n pc L (VI z :: VI 0 :: VR y :: VI 0 :: VR x :: st) mm := by
  obtain ⟨p, e, s, m, args, below, meth, c, A0⟩ := C
  obtain ⟨hx, hb, hml, hown, hts, hK, hr, hlk, hex, hXB, hst, hA⟩ := X
  intro h1 h2 h3 H locs ls hP hD hS hl
  obtain ⟨w1, w2, w3, w4⟩ := w
  have hz : InR z := ok_hd h2
  subst hm
  have e0 : (i32 0).toNatClampNeg = 0 := by decide
  have ez : (i32 z).toNatClampNeg = z.toNat := i32_nat h0 hz
  have hnz : ¬ i32 z < 0 := fun q => by
    have : i32 z < i32 0 := q
    rw [i32_lt hz ⟨by omega, by omega⟩] at this
    omega
  refine va_copyi (D := G.2.1) hx hb hl.1.symm hown (hts _ w1) (hts _ w2) (hts _ w3) (hts _ w4) hK hP hD hS x y 0 0 (wsOf_at shx) (wsOf_at shy) rfl rfl rfl (sp := i32 0) (dp := i32 0) (n := i32 z) (by decide) (by decide) hnz (by rw [e0, ez]; omega) (by rw [e0, ez]; omega) (fun _ _ => rfl) hf hloc d (fun H1 locs1 hP1 hD1 hS1 => ?_)
  have e1 : (wsOf SH G.2.2.1 G.2.2.2 mm).set y (G.2.2.2 y, .inl (G.2.2.1 0, Ny, .inl (va_cpy (fun j => i32 (mm x j)) (fun j => i32 (mm y j)) (i32 0).toNatClampNeg (i32 0).toNatClampNeg (i32 z).toNatClampNeg))) = wsOf SH G.2.2.1 G.2.2.2 (cpyM mm x y z.toNat) := by
    have e2 : va_cpy (fun j => i32 (mm x j)) (fun j => i32 (mm y j)) (i32 0).toNatClampNeg (i32 0).toNatClampNeg (i32 z).toNatClampNeg = fun j => i32 (cpyM mm x y z.toNat y j) := by
      funext j
      rw [e0, ez]
      unfold va_cpy cpyM
      by_cases q : j < z.toNat <;> simp [q]
    rw [e2]
    exact wsOf_set (m := mm) (m' := cpyM mm x y z.toNat) shy (fun c hc j => by unfold cpyM; rw [if_neg (fun q => hc q.1)])
  have h3' : okM (cpyM mm x y z.toNat) := fun c j => by
    unfold cpyM
    split
    · exact h3 x j
    · exact h3 c j
  exact kk h1 (ok_tl (ok_tl (ok_tl (ok_tl (ok_tl h2))))) h3' H1 locs1 ls (by rw [← e1]; exact hP1) (by rw [← e1]; exact hD1) hS1 hl
end MO
/-! bits: Integer.bitCount as it is computed -/
def jiushr (a b : Int) : Int := (((i32 a).toUInt32 >>> ((i32 b).toUInt32 &&& Int32.toUInt32 31)).toInt32).toInt
def wr32 (z : Int) : Int := (i32 z).toInt
def jbits (a : Int) : Int :=
  let b := wr32 (a - jiand (jiushr a 1) 1431655765)
  let c := wr32 (jiand b 858993459 + jiand (jiushr b 2) 858993459)
  let d := jiand (wr32 (c + jiushr c 4)) 252645135
  let e := wr32 (d + jiushr d 8)
  let f := wr32 (e + jiushr e 16)
  jiand f 63
section MO2
variable {SH : List Sh} {G : Gl} {R : Room} {O : OutT} {C : Ct} {k n pc : Nat} {L : List (Nat × V)} {st : List V} {mm : Mem} {cc : ByteArray} {nL : Nat} {own : String} {ret : Option FieldType} {nx : Bool}
theorem s_iushr (X : Cx SH G R C cc nL own ret nx) {a b : Int} (d : decode cc pc = .ok (.iushr, 1)) (kk : J SH G R O C k n (pc + 1) L (VI (jiushr a b) :: st) mm) : J SH G R O C k n pc L (VI b :: VI a :: st) mm := by
  obtain ⟨p, e, s, m, args, below, meth, c, A0⟩ := C
  obtain ⟨hx, hb, hml, hown, hts, hK, hr, hlk, hex, hXB, hst, hA⟩ := X
  intro h1 h2 h3 H locs ls hP hD hS hl
  exact lv_iushr hx hb d (v := i32 (jiushr a b)) (i32_of _).symm (kk h1 (ok_cons (InR_of _) (ok_tl (ok_tl h2))) h3 H locs ls hP hD hS hl)
theorem s_iaddW (X : Cx SH G R C cc nL own ret nx) {a b : Int} (d : decode cc pc = .ok (.iadd, 1)) (kk : J SH G R O C k n (pc + 1) L (VI (wr32 (a + b)) :: st) mm) : J SH G R O C k n pc L (VI b :: VI a :: st) mm := by
  obtain ⟨p, e, s, m, args, below, meth, c, A0⟩ := C
  obtain ⟨hx, hb, hml, hown, hts, hK, hr, hlk, hex, hXB, hst, hA⟩ := X
  intro h1 h2 h3 H locs ls hP hD hS hl
  refine lv_iadd hx hb d ?_
  have := kk h1 (ok_cons (InR_of _) (ok_tl (ok_tl h2))) h3 H locs ls hP hD hS hl
  rw [i32_add, show i32 (a + b) = i32 (wr32 (a + b)) from (i32_of _).symm]
  exact this
theorem s_isubW (X : Cx SH G R C cc nL own ret nx) {a b : Int} (d : decode cc pc = .ok (.isub, 1)) (kk : J SH G R O C k n (pc + 1) L (VI (wr32 (a - b)) :: st) mm) : J SH G R O C k n pc L (VI b :: VI a :: st) mm := by
  obtain ⟨p, e, s, m, args, below, meth, c, A0⟩ := C
  obtain ⟨hx, hb, hml, hown, hts, hK, hr, hlk, hex, hXB, hst, hA⟩ := X
  intro h1 h2 h3 H locs ls hP hD hS hl
  refine lv_isub hx hb d ?_
  have := kk h1 (ok_cons (InR_of _) (ok_tl (ok_tl h2))) h3 H locs ls hP hD hS hl
  rw [i32_sub, show i32 (a - b) = i32 (wr32 (a - b)) from (i32_of _).symm]
  exact this
end MO2
