/-! ===== ROWS FOR THE LAW: longs, doubles, the script, the switch ===== -/
def hiL (z : Int64) : Int := z.toInt / 4294967296
def loL (z : Int64) : Int := if z.toInt % 4294967296 < 2147483648 then z.toInt % 4294967296 else z.toInt % 4294967296 - 4294967296
theorem lng_split (z : Int64) : lng (hiL z) (loL z) = z := by
  unfold lng
  have h1 : hiL z * 4294967296 + loL z % 4294967296 = z.toInt := by
    unfold hiL loL
    split <;> omega
  rw [h1, Int64.ofInt_toInt]
theorem hiL_in (z : Int64) : InR (hiL z) := by
  have h1 := Int64.le_toInt z
  have h2 := Int64.toInt_lt z
  unfold hiL InR
  constructor <;> omega
theorem loL_in (z : Int64) : InR (loL z) := by
  unfold loL InR
  split <;> omega
def setLM (m : Mem) (x : Nat) (z : Int64) : Mem := setM (setM m x 0 (hiL z)) x 1 (loL z)
theorem setLM_cell (m : Mem) (x : Nat) (z : Int64) {c i : Nat} (h : c ≠ x) : setLM m x z c i = m c i := by
  unfold setLM
  rw [setM_cell _ _ _ _ h, setM_cell _ _ _ _ h]
theorem setLM_0 (m : Mem) (x : Nat) (z : Int64) : setLM m x z x 0 = hiL z := by simp [setLM, setM]
theorem setLM_1 (m : Mem) (x : Nat) (z : Int64) : setLM m x z x 1 = loL z := by simp [setLM, setM]
theorem setLM_2 (m : Mem) (x : Nat) (z : Int64) {i : Nat} (h : 2 ≤ i) : setLM m x z x i = m x i := by
  unfold setLM setM
  rw [if_neg (by omega), if_neg (by omega)]
theorem okM.setL {m : Mem} (h : okM m) {x : Nat} {z : Int64} : okM (setLM m x z) := (h.set (hiL_in z)).set (loL_in z)
def lcmpI (a b : Int64) : Int := (lg_cmp a b).toInt
theorem lcmpI_0 (a b : Int64) : lcmpI a b = 0 ↔ a = b := by
  unfold lcmpI lg_cmp
  constructor
  · intro h
    by_cases h1 : b < a
    · simp [h1] at h
    · by_cases h2 : a = b
      · exact h2
      · simp [h1, h2] at h
  · intro h
    subst h
    simp
def Scr (C : Ct) (b Ls : Nat) (xs : Nat → Int32) : Prop := match C with
  | (_, _, s, _, _, _, _, _, A0) => va_X b Ls xs s s.heap ∧ b < s.heap.size ∧ ¬ A0 b
section LR
variable {SH : List Sh} {G : Gl} {R : Room} {O : OutT} {C : Ct} {k n pc : Nat} {L : List (Nat × V)} {st : List V} {mm : Mem} {cc : ByteArray} {nL : Nat} {own : String} {ret : Option FieldType} {nx : Bool}
theorem s_lcmp (X : Cx SH G R C cc nL own ret nx) {a b : Int64} (d : decode cc pc = .ok (.lcmp, 1)) (kk : J SH G R O C k n (pc + 1) L (VI (lcmpI a b) :: st) mm) : J SH G R O C k n pc L (VL b :: VL a :: st) mm := by
  obtain ⟨p, e, s, m, args, below, meth, c, A0⟩ := C
  obtain ⟨hx, hb, hml, hown, hts, hK, hr, hlk, hex, hXB, hst, hA⟩ := X
  intro h1 h2 h3 H locs ls hP hD hS hl
  refine W.lcmp hx hb d ?_
  have := kk h1 (ok_cons (InR_of _) (ok_tl (ok_tl h2))) h3 H locs ls hP hD hS hl
  rw [show lg_cmp a b = i32 (lcmpI a b) from (i32_of _).symm]
  exact this
theorem s_f2d (X : Cx SH G R C cc nL own ret nx) {a : UInt32} (hn : vf_n64 (FP.f2d a)) (d : decode cc pc = .ok (.f2d, 1)) (kk : J SH G R O C k n (pc + 1) L (VD (FP.f2d a) :: st) mm) : J SH G R O C k n pc L (VF a :: st) mm := by
  obtain ⟨p, e, s, m, args, below, meth, c, A0⟩ := C
  obtain ⟨hx, hb, hml, hown, hts, hK, hr, hlk, hex, hXB, hst, hA⟩ := X
  intro h1 h2 h3 H locs ls hP hD hS hl
  exact lv_f2d hx hb d hn (kk h1 (ok_cons trivial (ok_tl h2)) h3 H locs ls hP hD hS hl)
theorem s_slen (X : Cx SH G R C cc nL own ret nx) {b Ls z : Nat} {xs : Nat → Int32} (hs : Scr C b Ls xs) (hz : G.2.2.2 z = b) (hL : Ls ≤ 3072) (d : decode cc pc = .ok (.arraylength, 1)) (kk : J SH G R O C k n (pc + 1) L (VI Ls :: st) mm) : J SH G R O C k n pc L (VR z :: st) mm := by
  obtain ⟨p, e, s, m, args, below, meth, c, A0⟩ := C
  obtain ⟨hx, hb, hml, hown, hts, hK, hr, hlk, hex, hXB, hst, hA⟩ := X
  intro h1 h2 h3 H locs ls hP hD hS hl
  obtain ⟨x1, x2, x3⟩ := hs
  subst hz
  refine va_slen hx hb x1 x2 x3 hS d ?_
  exact kk h1 (ok_cons ⟨by omega, by omega⟩ (ok_tl h2)) h3 H locs ls hP hD hS hl
theorem s_sld (X : Cx SH G R C cc nL own ret nx) {b Ls z : Nat} {i : Int} {xs : Nat → Int32} (hs : Scr C b Ls xs) (hz : G.2.2.2 z = b) (h0 : 0 ≤ i) (hi : i < Ls) (d : decode cc pc = .ok (.iaload, 1)) (kk : J SH G R O C k n (pc + 1) L (VI (xs i.toNat).toInt :: st) mm) : J SH G R O C k n pc L (VI i :: VR z :: st) mm := by
  obtain ⟨p, e, s, m, args, below, meth, c, A0⟩ := C
  obtain ⟨hx, hb, hml, hown, hts, hK, hr, hlk, hex, hXB, hst, hA⟩ := X
  intro h1 h2 h3 H locs ls hP hD hS hl
  obtain ⟨x1, x2, x3⟩ := hs
  subst hz
  have hi9 : InR i := ok_hd h2
  refine va_sld hx hb x1 x2 x3 hS (i32_in h0 hi hi9) d ?_
  have := kk h1 (ok_cons (InR_of _) (ok_tl (ok_tl h2))) h3 H locs ls hP hD hS hl
  rw [i32_nat h0 hi9, ← i32_of (xs i.toNat)]
  exact this
theorem s_tabIn (X : Cx SH G R C cc nL own ret nx) {z : Int} {dflt lo hi : Int} {offs : Array Int} {len : Nat} {off : Int} {tgt : Nat} (d : decode cc pc = .ok (.tableswitch dflt lo hi offs, len)) (h1 : lo ≤ z) (h2 : z ≤ hi) (ho : offs[(z - lo).toNat]? = some off) (ht : (pc : Int) + off = (tgt : Int)) (kk : J SH G R O C k n tgt L st mm) : J SH G R O C k n pc L (VI z :: st) mm := by
  obtain ⟨p, e, s, m, args, below, meth, c, A0⟩ := C
  obtain ⟨hx, hb, hml, hown, hts, hK, hr, hlk, hex, hXB, hst, hA⟩ := X
  intro g1 g2 g3 H locs ls hP hD hS hl
  have hz : InR z := ok_hd g2
  refine lv_tableIn hx hb d (by rw [i32_toInt hz]; omega) (by rw [i32_toInt hz]; omega) (by rw [i32_toInt hz]; exact ho) ht ?_
  exact kk g1 (ok_tl g2) g3 H locs ls hP hD hS hl
theorem s_tabOut (X : Cx SH G R C cc nL own ret nx) {z : Int} {dflt lo hi : Int} {offs : Array Int} {len : Nat} {tgt : Nat} (d : decode cc pc = .ok (.tableswitch dflt lo hi offs, len)) (h1 : z < lo ∨ hi < z) (ht : (pc : Int) + dflt = (tgt : Int)) (kk : J SH G R O C k n tgt L st mm) : J SH G R O C k n pc L (VI z :: st) mm := by
  obtain ⟨p, e, s, m, args, below, meth, c, A0⟩ := C
  obtain ⟨hx, hb, hml, hown, hts, hK, hr, hlk, hex, hXB, hst, hA⟩ := X
  intro g1 g2 g3 H locs ls hP hD hS hl
  have hz : InR z := ok_hd g2
  refine lv_tableOut hx hb d (by rw [i32_toInt hz]; exact h1) ht ?_
  exact kk g1 (ok_tl g2) g3 H locs ls hP hD hS hl
end LR
