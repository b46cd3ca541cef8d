/-! ===== FIELDS AND ARRAYS, over J ===== -/
/-- own's entry i names field k of class ci -/
def FLk (own : String) (i ci k : Nat) : Prop := ∃ (Cn : String) (T : u_T) (N : Nat), vC[ci]? = some (Cn, T, N) ∧ k < N ∧ (∀ w ∈ u_ws Cn T N, w ∈ lw_U) ∧ Cond.fieldLink own i Cn (T k).2.1 (T k).2.2.1 ∈ lw_U ∧ (T k).1 = Cn
/-- .. and it isn't final, and of this type -/
def FPk (own : String) (i ci k : Nat) (ty : FieldType) : Prop := ∃ (Cn : String) (T : u_T) (N : Nat) (t0 : Nat → FieldType), vC[ci]? = some (Cn, T, N) ∧ k < N ∧ (∀ w ∈ u_ws Cn T N, w ∈ lw_U) ∧ Cond.fieldLink own i Cn (T k).2.1 (T k).2.2.1 ∈ lw_U ∧ (T k).1 = Cn ∧ (∀ k, k < N → parseFieldDescriptor (T k).2.2.1 = some (t0 k)) ∧ (∀ a, a < N → ∀ b, b < N → a ≠ b → (T a).2.1 ≠ (T b).2.1) ∧ (T k).2.2.2 = false ∧ parseFieldDescriptor (T k).2.2.1 = some ty
def okT : FieldType → Int → Prop
  | .boolean, z => z = 0 ∨ z = 1
  | .char, z => 0 ≤ z ∧ z ≤ 65535
  | .int, _ => True
  | _, _ => False
theorem okT_in {ty : FieldType} {z : Int} (h : okT ty z) (hz : InR z) : narrow ty (.int (i32 z)) = .int (i32 z) ∧ fits ty (.int (i32 z)) = true := by
  cases ty with
  | boolean =>
    have h : z = 0 ∨ z = 1 := h
    rcases h with h | h
    · rw [h]; exact ⟨by decide, by decide⟩
    · rw [h]; exact ⟨by decide, by decide⟩
  | char =>
    have h : 0 ≤ z ∧ z ≤ 65535 := h
    have h9 : ((i32 z).toUInt32 % 65536).toInt32 = i32 z := by
      rw [i32_c, Int.emod_eq_of_lt h.1 (by omega)]
    have a1 : (0 : Int32) ≤ i32 z := (i32_le (a := 0) ⟨by omega, by omega⟩ hz).mpr h.1
    have a2 : i32 z ≤ (65535 : Int32) := (i32_le (b := 65535) hz ⟨by omega, by omega⟩).mpr h.2
    refine ⟨?_, ?_⟩
    · simp only [narrow]
      first | (rw [h9]; done) | (congr 1) | skip
    · simp [fits, a1, a2]
  | int => exact ⟨rfl, rfl⟩
  | _ => exact absurd h (by simp [okT])
theorem vp_nar_ok {ty : FieldType} {z : Int} (h : okT ty z) (hz : InR z) : vp_nar ty (i32 z) = i32 z := by
  unfold vp_nar
  rw [(okT_in h hz).1]
section HP
variable {SH : List Sh} {G : Gl} {R : Room} {O : OutT} {C : Ct} {k n pc : Nat} {L : List (Nat × V)} {st : List V} {mm : Mem} {cc : ByteArray} {nL : Nat} {own : String} {ret : Option FieldType} {nx : Bool}
theorem s_getI (X : Cx SH G R C cc nL own ret nx) {x ci f i : Nat} {fs : List (Option Nat)} (fk : FLk own i ci f) (sh : SH[x]? = some (.inl (ci, fs))) (hk : fs[f]? = some none) (d : decode cc pc = .ok (.getfield i, 3)) (kk : J SH G R O C k n (pc + 3) L (VI (mm x f) :: st) mm) : J SH G R O C k n pc L (VR x :: st) mm := by
  obtain ⟨p, e, s, m, args, below, meth, c, A0⟩ := C
  obtain ⟨hx, hb, hml, hown, hts, hK, hr, hlk, hex, hXB, hst, hA⟩ := X
  intro h1 h2 h3 H locs ls hP hD hS hl
  obtain ⟨Cn, T, N, c1, c2, c3, c4, c5⟩ := fk
  exact va_get (D := G.2.1) hx hb hts c3 hown hK hP x (wsOf_at sh) c1 f c2 (hts _ c4) (fun _ h => c5 ▸ h) (v := .int (i32 (mm x f))) (zip_at fs _ hk) d (kk h1 (ok_cons (h3 x f) (ok_tl h2)) h3 H locs ls hP hD hS hl)
theorem s_getR (X : Cx SH G R C cc nL own ret nx) {x ci f i id : Nat} {fs : List (Option Nat)} (fk : FLk own i ci f) (sh : SH[x]? = some (.inl (ci, fs))) (hk : fs[f]? = some (some id)) (d : decode cc pc = .ok (.getfield i, 3)) (kk : J SH G R O C k n (pc + 3) L (VR id :: st) mm) : J SH G R O C k n pc L (VR x :: st) mm := by
  obtain ⟨p, e, s, m, args, below, meth, c, A0⟩ := C
  obtain ⟨hx, hb, hml, hown, hts, hK, hr, hlk, hex, hXB, hst, hA⟩ := X
  intro h1 h2 h3 H locs ls hP hD hS hl
  obtain ⟨Cn, T, N, c1, c2, c3, c4, c5⟩ := fk
  exact va_get (D := G.2.1) hx hb hts c3 hown hK hP x (wsOf_at sh) c1 f c2 (hts _ c4) (fun _ h => c5 ▸ h) (v := .ref (G.2.2.2 id)) (zip_at fs _ hk) d (kk h1 (ok_cons trivial (ok_tl h2)) h3 H locs ls hP hD hS hl)
theorem s_putI (X : Cx SH G R C cc nL own ret nx) {x ci f i : Nat} {v : Int} {fs : List (Option Nat)} {ty : FieldType} {m' : Mem} (hm : m' = setM mm x f v) (fk : FPk own i ci f ty) (sh : SH[x]? = some (.inl (ci, fs))) (hk : fs[f]? = some none) (hok : okT ty v) (d : decode cc pc = .ok (.putfield i, 3)) (kk : J SH G R O C k n (pc + 3) L st m') : J SH G R O C k n pc L (VI v :: VR x :: st) mm := by
  obtain ⟨p, e, s, m, args, below, meth, c, A0⟩ := C
  obtain ⟨hx, hb, hml, hown, hts, hK, hr, hlk, hex, hXB, hst, hA⟩ := X
  intro h1 h2 h3 H locs ls hP hD hS hl
  obtain ⟨Cn, T, N, t0, c1, c2, c3, c4, c5, c6, c7, c8, c9⟩ := fk
  have hv : InR v := ok_hd h2
  subst hm
  have hfl : f < (fs.zipIdx.map (fvl G.2.2.2 mm x)).length := (List.getElem?_eq_some_iff.mp (zip_at fs (fvl G.2.2.2 mm x) hk)).1
  refine va_put (D := G.2.1) hx hb hts c3 t0 c6 c7 hown hK hP hD hS x (wsOf_at sh) c1 f c2 (hts _ c4) (fun _ h => c5 ▸ h) c8 c9 (okT_in hok hv).1 (okT_in hok hv).2 hfl d (fun H1 locs1 hP1 hD1 hS1 => ?_)
  have e1 : (wsOf SH G.2.2.1 G.2.2.2 mm).set x (G.2.2.2 x, .inr (ci, (fs.zipIdx.map (fvl G.2.2.2 mm x)).set f (.int (i32 v)))) = wsOf SH G.2.2.1 G.2.2.2 (setM mm x f v) := by
    rw [zip_set fs _ mm x f v hk]
    exact wsOf_set (m := mm) (m' := setM mm x f v) sh (fun c hc i => setM_cell mm x f v hc)
  exact kk h1 (ok_tl (ok_tl h2)) (h3.set hv) H1 locs1 ls (by rw [← e1]; exact hP1) (by rw [← e1]; exact hD1) hS1 hl
theorem upd_set (mm : Mem) (x j : Nat) (v : Int) : upd (fun j => i32 (mm x j)) j (i32 v) = fun i => i32 (setM mm x j v x i) := by
  funext i
  unfold upd setM
  by_cases h : i = j <;> simp [h]
theorem s_iald (X : Cx SH G R C cc nL own ret nx) {x N : Nat} {i : Int} (sh : SH[x]? = some (.inr (0, N, none))) (h0 : 0 ≤ i) (hN : i < N) (d : decode cc pc = .ok (.iaload, 1)) (kk : J SH G R O C k n (pc + 1) L (VI (mm x i.toNat) :: st) mm) : J SH G R O C k n pc L (VI i :: VR x :: st) mm := by
  obtain ⟨p, e, s, m, args, below, meth, c, A0⟩ := C
  obtain ⟨hx, hb, hml, hown, hts, hK, hr, hlk, hex, hXB, hst, hA⟩ := X
  intro h1 h2 h3 H locs ls hP hD hS hl
  have hi : InR i := ok_hd h2
  refine va_iald (D := G.2.1) hx hb hK hP x 0 (wsOf_at sh) rfl (i32_in h0 hN hi) d ?_
  have := kk h1 (ok_cons (h3 x i.toNat) (ok_tl (ok_tl h2))) h3 H locs ls hP hD hS hl
  rw [i32_nat h0 hi]
  exact this
theorem s_bald (X : Cx SH G R C cc nL own ret nx) {x N : Nat} {i : Int} (sh : SH[x]? = some (.inr (1, N, none))) (h0 : 0 ≤ i) (hN : i < N) (d : decode cc pc = .ok (.baload, 1)) (kk : J SH G R O C k n (pc + 1) L (VI (mm x i.toNat) :: st) mm) : J SH G R O C k n pc L (VI i :: VR x :: st) mm := by
  obtain ⟨p, e, s, m, args, below, meth, c, A0⟩ := C
  obtain ⟨hx, hb, hml, hown, hts, hK, hr, hlk, hex, hXB, hst, hA⟩ := X
  intro h1 h2 h3 H locs ls hP hD hS hl
  have hi : InR i := ok_hd h2
  refine va_zald (D := G.2.1) hx hb hK hP x 1 (wsOf_at sh) rfl (i32_in h0 hN hi) d ?_
  have := kk h1 (ok_cons (h3 x i.toNat) (ok_tl (ok_tl h2))) h3 H locs ls hP hD hS hl
  rw [i32_nat h0 hi]
  exact this
theorem s_cald (X : Cx SH G R C cc nL own ret nx) {x N : Nat} {i : Int} (sh : SH[x]? = some (.inr (2, N, none))) (h0 : 0 ≤ i) (hN : i < N) (d : decode cc pc = .ok (.caload, 1)) (kk : J SH G R O C k n (pc + 1) L (VI (mm x i.toNat) :: st) mm) : J SH G R O C k n pc L (VI i :: VR x :: st) mm := by
  obtain ⟨p, e, s, m, args, below, meth, c, A0⟩ := C
  obtain ⟨hx, hb, hml, hown, hts, hK, hr, hlk, hex, hXB, hst, hA⟩ := X
  intro h1 h2 h3 H locs ls hP hD hS hl
  have hi : InR i := ok_hd h2
  refine va_cald (D := G.2.1) hx hb hK hP x 2 (wsOf_at sh) rfl (i32_in h0 hN hi) d ?_
  have := kk h1 (ok_cons (h3 x i.toNat) (ok_tl (ok_tl h2))) h3 H locs ls hP hD hS hl
  rw [i32_nat h0 hi]
  exact this
theorem s_aald (X : Cx SH G R C cc nL own ret nx) {x t N : Nat} {b : Nat × Nat} {i : Int} (ht : t = 3 ∨ t = 4) (sh : SH[x]? = some (.inr (t, N, some b))) (h0 : 0 ≤ i) (hN : i < N) (d : decode cc pc = .ok (.aaload, 1)) (kk : J SH G R O C k n (pc + 1) L (VR (b.1 + b.2 * i.toNat) :: st) mm) : J SH G R O C k n pc L (VI i :: VR x :: st) mm := by
  obtain ⟨p, e, s, m, args, below, meth, c, A0⟩ := C
  obtain ⟨hx, hb, hml, hown, hts, hK, hr, hlk, hex, hXB, hst, hA⟩ := X
  intro h1 h2 h3 H locs ls hP hD hS hl
  have hi : InR i := ok_hd h2
  have hlt : (i32 i).toNatClampNeg < N := Nat.not_le.mp fun q => (i32_in h0 hN hi) (Or.inr q)
  have hk9 : ∃ ty : FieldType, (tysC G.2.2.1)[t]? = some (G.2.2.1 t, ty) ∧ ty.isReference = true := by
    rcases ht with rfl | rfl
    · exact ⟨_, rfl, rfl⟩
    · exact ⟨_, rfl, rfl⟩
  obtain ⟨ty, t1, t2⟩ := hk9
  refine W.aald (v := .ref (G.2.2.2 (b.1 + b.2 * i.toNat))) (ty := ty) hx hb (hP x _ (wsOf_at sh)) ((hK.2 t _ t1).1 N (fun j => va_rf (if j < N then some (G.2.2.2 (b.1 + b.2 * j)) else none))) t2 (fun q => by cases q) (by show ¬ (i32 i < 0 ∨ (arrV _ _ _).slots.size ≤ _); rw [arrV_size]; exact i32_in h0 hN hi) (by show (arrV _ _ _).slots[_]? = _; rw [arrV_read _ _ hlt]; show some (va_rf (if (i32 i).toNatClampNeg < N then some (G.2.2.2 (b.1 + b.2 * (i32 i).toNatClampNeg)) else none)) = _; rw [if_pos hlt, i32_nat h0 hi]; rfl) rfl rfl d ?_
  exact kk h1 (ok_cons trivial (ok_tl (ok_tl h2))) h3 H locs ls hP hD hS hl
theorem s_iast (X : Cx SH G R C cc nL own ret nx) {x N : Nat} {i v : Int} {m' : Mem} (hm : m' = setM mm x i.toNat v) (sh : SH[x]? = some (.inr (0, N, none))) (h0 : 0 ≤ i) (hN : i < N) (d : decode cc pc = .ok (.iastore, 1)) (kk : J SH G R O C k n (pc + 1) L st m') : J SH G R O C k n pc L (VI v :: VI i :: VR x :: st) mm := by
  obtain ⟨p, e, s, m, args, below, meth, c, A0⟩ := C
  obtain ⟨hx, hb, hml, hown, hts, hK, hr, hlk, hex, hXB, hst, hA⟩ := X
  intro h1 h2 h3 H locs ls hP hD hS hl
  have hv : InR v := ok_hd h2
  have hi : InR i := ok_hd (ok_tl h2)
  subst hm
  refine va_iast (D := G.2.1) hx hb hK hP hD hS x 0 (wsOf_at sh) rfl (i32_in h0 hN hi) d (fun H1 locs1 hP1 hD1 hS1 => ?_)
  have e1 : (wsOf SH G.2.2.1 G.2.2.2 mm).set x (G.2.2.2 x, .inl (G.2.2.1 0, N, .inl (upd (fun j => i32 (mm x j)) (i32 i).toNatClampNeg (i32 v)))) = wsOf SH G.2.2.1 G.2.2.2 (setM mm x i.toNat v) := by
    rw [i32_nat h0 hi, upd_set]
    exact wsOf_set (m := mm) (m' := setM mm x i.toNat v) sh (fun c hc j => setM_cell mm x _ v hc)
  rw [e1] at hP1 hD1
  exact kk h1 (ok_tl (ok_tl (ok_tl h2))) (h3.set hv) H1 locs1 ls hP1 hD1 hS1 hl
theorem s_bast (X : Cx SH G R C cc nL own ret nx) {x N : Nat} {i v : Int} {m' : Mem} (hm : m' = setM mm x i.toNat v) (sh : SH[x]? = some (.inr (1, N, none))) (h0 : 0 ≤ i) (hN : i < N) (hok : okT .boolean v) (d : decode cc pc = .ok (.bastore, 1)) (kk : J SH G R O C k n (pc + 1) L st m') : J SH G R O C k n pc L (VI v :: VI i :: VR x :: st) mm := by
  obtain ⟨p, e, s, m, args, below, meth, c, A0⟩ := C
  obtain ⟨hx, hb, hml, hown, hts, hK, hr, hlk, hex, hXB, hst, hA⟩ := X
  intro h1 h2 h3 H locs ls hP hD hS hl
  have hv : InR v := ok_hd h2
  have hi : InR i := ok_hd (ok_tl h2)
  subst hm
  refine va_zast (D := G.2.1) hx hb hK hP hD hS x 1 (wsOf_at sh) rfl (i32_in h0 hN hi) d (fun H1 locs1 hP1 hD1 hS1 => ?_)
  have e1 : (wsOf SH G.2.2.1 G.2.2.2 mm).set x (G.2.2.2 x, .inl (G.2.2.1 1, N, .inl (upd (fun j => i32 (mm x j)) (i32 i).toNatClampNeg (vp_nar .boolean (i32 v))))) = wsOf SH G.2.2.1 G.2.2.2 (setM mm x i.toNat v) := by
    rw [i32_nat h0 hi, vp_nar_ok hok hv, upd_set]
    exact wsOf_set (m := mm) (m' := setM mm x i.toNat v) sh (fun c hc j => setM_cell mm x _ v hc)
  rw [e1] at hP1 hD1
  exact kk h1 (ok_tl (ok_tl (ok_tl h2))) (h3.set hv) H1 locs1 ls hP1 hD1 hS1 hl
theorem s_cast (X : Cx SH G R C cc nL own ret nx) {x N : Nat} {i v : Int} {m' : Mem} (hm : m' = setM mm x i.toNat v) (sh : SH[x]? = some (.inr (2, N, none))) (h0 : 0 ≤ i) (hN : i < N) (hok : okT .char v) (d : decode cc pc = .ok (.castore, 1)) (kk : J SH G R O C k n (pc + 1) L st m') : J SH G R O C k n pc L (VI v :: VI i :: VR x :: st) mm := by
  obtain ⟨p, e, s, m, args, below, meth, c, A0⟩ := C
  obtain ⟨hx, hb, hml, hown, hts, hK, hr, hlk, hex, hXB, hst, hA⟩ := X
  intro h1 h2 h3 H locs ls hP hD hS hl
  have hv : InR v := ok_hd h2
  have hi : InR i := ok_hd (ok_tl h2)
  subst hm
  refine va_cast (D := G.2.1) hx hb hK hP hD hS x 2 (wsOf_at sh) rfl (i32_in h0 hN hi) d (fun H1 locs1 hP1 hD1 hS1 => ?_)
  have e1 : (wsOf SH G.2.2.1 G.2.2.2 mm).set x (G.2.2.2 x, .inl (G.2.2.1 2, N, .inl (upd (fun j => i32 (mm x j)) (i32 i).toNatClampNeg (vp_nar .char (i32 v))))) = wsOf SH G.2.2.1 G.2.2.2 (setM mm x i.toNat v) := by
    rw [i32_nat h0 hi, vp_nar_ok hok hv, upd_set]
    exact wsOf_set (m := mm) (m' := setM mm x i.toNat v) sh (fun c hc j => setM_cell mm x _ v hc)
  rw [e1] at hP1 hD1
  exact kk h1 (ok_tl (ok_tl (ok_tl h2))) (h3.set hv) H1 locs1 ls hP1 hD1 hS1 hl
end HP
