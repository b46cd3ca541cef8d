/-! ===== THE LAW'S TURNS: what they rest on ===== -/
section FD
variable {SH : List Sh} {G : Gl} {R : Room} {O : OutT} {C : Ct} {k n pc : Nat} {L : List (Nat × V)} {st : List V} {mm : Mem} {cc : ByteArray} {nL : Nat} {own : String} {ret : Option FieldType} {nx : Bool}
theorem s_fstore (X : Cx SH G R C cc nL own ret nx) {i : Nat} {z w : UInt32} {L' : List (Nat × V)} (hv : w = z) (hL : stL L i (VF w) = L') (hi : i < nL) (d : decode cc pc = .ok (.fstore i, 2)) (kk : J SH G R O C k n (pc + 2) L' st mm) : J SH G R O C k n pc L (VF z :: st) mm := by
  obtain ⟨p, e, s, m, args, below, meth, c, A0⟩ := C
  obtain ⟨hx, hb, hml, hown, hts, hK, hr, hlk, hex, hXB, hst, hA⟩ := X
  intro h1 h2 h3 H locs ls hP hD hS hl
  subst hv
  subst hL
  exact lv_fstore hx hb d hl (by rw [hml]; exact hi) (stL_map (L := L) (v := VF w) (al := G.2.2.2)) (fun ls' hl' => kk (stL_ok h1 (ok_hd h2)) (ok_tl h2) h3 H locs ls' hP hD hS hl')
theorem s_dstore (X : Cx SH G R C cc nL own ret nx) {i : Nat} {z w : UInt64} {L' : List (Nat × V)} (hv : w = z) (hL : stL2 L i (VD w) = L') (hi : i + 1 < nL) (d : decode cc pc = .ok (.dstore i, 2)) (kk : J SH G R O C k n (pc + 2) L' st mm) : J SH G R O C k n pc L (VD z :: st) mm := by
  obtain ⟨p, e, s, m, args, below, meth, c, A0⟩ := C
  obtain ⟨hx, hb, hml, hown, hts, hK, hr, hlk, hex, hXB, hst, hA⟩ := X
  intro h1 h2 h3 H locs ls hP hD hS hl
  subst hv
  subst hL
  exact lv_dstore hx hb d hl (by rw [hml]; exact hi) (stL2_map (L := L) (v := VD w) (al := G.2.2.2)) (fun ls' hl' => kk (stL2_ok h1 (ok_hd h2)) (ok_tl h2) h3 H locs ls' hP hD hS hl')
theorem s_fload (X : Cx SH G R C cc nL own ret nx) {i : Nat} {z : UInt32} (j : Nat) (hj : L[j]? = some (i, VF z)) (d : decode cc pc = .ok (.fload i, 2)) (kk : J SH G R O C k n (pc + 2) L (VF z :: st) mm) : J SH G R O C k n pc L st mm := by
  obtain ⟨p, e, s, m, args, below, meth, c, A0⟩ := C
  obtain ⟨hx, hb, -⟩ := X
  intro h1 h2 h3 H locs ls hP hD hS hl
  exact lv_fload hx hb d (jl_cat hl j hj) (kk h1 (ok_cons trivial h2) h3 H locs ls hP hD hS hl)
theorem s_dload (X : Cx SH G R C cc nL own ret nx) {i : Nat} {z : UInt64} (j : Nat) (hj : L[j]? = some (i, VD z)) (d : decode cc pc = .ok (.dload i, 2)) (kk : J SH G R O C k n (pc + 2) L (VD z :: st) mm) : J SH G R O C k n pc L st mm := by
  obtain ⟨p, e, s, m, args, below, meth, c, A0⟩ := C
  obtain ⟨hx, hb, -⟩ := X
  intro h1 h2 h3 H locs ls hP hD hS hl
  exact lv_dload hx hb d (jl_cat hl j hj) (kk h1 (ok_cons trivial h2) h3 H locs ls hP hD hS hl)
theorem s_le {k' n' : Nat} (h1 : k ≤ k') (h2 : n ≤ n') (kk : J SH G R O C k' n' pc L st mm) : J SH G R O C k n pc L st mm := s_kn (Nat.ble_eq_true_of_le h1) (Nat.ble_eq_true_of_le h2) kk
end FD
def hcode {α : Type} (exs : List Nat) (r : (α ⊕ Nat) × Mem) : Int := match r.1 with
  | .inl _ => 0
  | .inr x => (exs.idxOf x + 1 : Nat)
def hmem {α : Type} (w : α → Mem → Mem) (r : (α ⊕ Nat) × Mem) (m : Mem) : Mem := match r.1 with
  | .inl v => w v (putM 0 455 m r.2)
  | .inr _ => putM 0 455 m r.2
theorem hout_eq {α : Type} (w : α → Mem → Mem) (exs : List Nat) (r : (α ⊕ Nat) × Mem) (m : Mem) : hout w exs r m = (.inl (some (VI (hcode exs r))), hmem w r m) := by
  obtain ⟨a | x, m1⟩ := r <;> rfl
theorem putM_off (m : Mem) (d n : Nat) : putM d n m (offM d m) = m := by
  funext c i
  unfold putM offM
  split
  · rename_i h
    rw [show d + (c - d) = c by omega]
  · rfl
theorem con_Mr {G : Gl} {mm : Mem} {o : Option V ⊕ Nat} {y : MethodName} {cc : ByteArray} {nL : Nat} {ret : Option FieldType} {rm : Room} {As : List V} (hnr : ∀ v, o = .inl (some v) → offV 455 v = v) (h : Con SHM (offG G 455) y cc nL ret rm As (offM 455 mm) (o, offM 455 mm)) : Con SHL G y cc nL ret rm (As.map (offV 455)) mm (o, mm) := by
  have e := con_M hnr h
  rw [putM_off] at e
  exact e
theorem con_Cr {G : Gl} {mm : Mem} {o : Option V ⊕ Nat} {y : MethodName} {cc : ByteArray} {nL : Nat} {ret : Option FieldType} {rm : Room} {As : List V} (h : Con SHC G y cc nL ret rm As mm (o, mm)) : Con SHL G y cc nL ret rm As mm (o, mm) := by
  have e := con_C h
  have e2 : putM 0 455 mm mm = mm := by
    funext c i
    unfold putM
    split <;> rfl
  rw [e2] at e
  exact e
theorem nrI {z : Int} : ∀ v, (.inl (some (VI z)) : Option V ⊕ Nat) = .inl (some v) → offV 455 v = v := fun v h => by cases h; rfl
theorem nrL {z : Int64} : ∀ v, (.inl (some (VL z)) : Option V ⊕ Nat) = .inl (some v) → offV 455 v = v := fun v h => by cases h; rfl
theorem nrF {z : UInt32} : ∀ v, (.inl (some (VF z)) : Option V ⊕ Nat) = .inl (some v) → offV 455 v = v := fun v h => by cases h; rfl
theorem nrD {z : UInt64} : ∀ v, (.inl (some (VD z)) : Option V ⊕ Nat) = .inl (some v) → offV 455 v = v := fun v h => by cases h; rfl
/-- .. and one that only reads -/
theorem inv_put {Inv : Mem → Mem → Prop} (hc : InvC Inv) {a b M1 : Mem} (h : Inv a b) (h1 : ∀ c, c < 455 → ∀ i, M1 c i = a c i) : Inv (putM 455 34 M1 b) (offM 455 (putM 455 34 M1 b)) := by
  refine hc a _ b _ (fun c hl i => ?_) (fun c hl i => ?_) h
  · unfold putM
    rw [if_neg (by omega), h1 c hl i]
  · unfold offM putM
    rw [if_pos ⟨by omega, by omega⟩, Nat.add_sub_cancel_left]
theorem inv_mid {Inv : Mem → Mem → Prop} (hc : InvC Inv) {M M1 : Mem} (h : Inv M (offM 455 M)) (h1 : ∀ c, 455 ≤ c → c < 489 → ∀ i, M1 c i = M c i) : Inv M (offM 455 M1) :=
  hc M _ _ _ (fun _ _ _ => rfl) (fun c hl i => by unfold offM; rw [h1 (455 + c) (by omega) (by omega) i]) h
theorem hmem_lo {α : Type} {w : α → Mem → Mem} (hw : ∀ v m c i, c < 489 → w v m c i = m c i) (r : (α ⊕ Nat) × Mem) (m : Mem) : (∀ c, c < 455 → ∀ i, hmem w r m c i = r.2 c i) ∧ ∀ c, 455 ≤ c → c < 489 → ∀ i, hmem w r m c i = m c i := by
  obtain ⟨a | x, m1⟩ := r
  · constructor
    · intro c hl i
      show w a (putM 0 455 m m1) c i = m1 c i
      rw [hw _ _ _ _ (by omega)]
      unfold putM
      rw [if_pos ⟨by omega, by omega⟩, Nat.sub_zero]
    · intro c h1 h2 i
      show w a (putM 0 455 m m1) c i = m c i
      rw [hw _ _ _ _ h2]
      unfold putM
      rw [if_neg (by omega)]
  · constructor
    · intro c hl i
      show putM 0 455 m m1 c i = m1 c i
      unfold putM
      rw [if_pos ⟨by omega, by omega⟩, Nat.sub_zero]
    · intro c h1 h2 i
      show putM 0 455 m m1 c i = m c i
      unfold putM
      rw [if_neg (by omega)]
theorem ag_use {α : Type} {ok : α → Prop} {Inv : Mem → Mem → Prop} (hc : InvC Inv) {exs : List Nat} {w : α → Mem → Mem} (hw : ∀ v m c i, c < 489 → w v m c i = m c i) {rc : (α ⊕ Nat) × Mem} {rm : α × Mem} {M : Mem} (hI : Inv rc.2 rm.2) (h1 : ∀ v, rc.1 = .inl v → rm.2 0 0 = 0 ∧ rm.1 = v ∧ ok v) (h2 : ∀ x, rc.1 = .inr x → x ∈ exs ∧ rm.2 0 0 = (exs.idxOf x + 1 : Nat)) :
    (putM 455 34 (hmem w rc M) rm.2) 455 0 = hcode exs rc ∧ (hcode exs rc = 0 → ok rm.1 ∧ ∀ c i, 489 ≤ c → (putM 455 34 (hmem w rc M) rm.2) c i = w rm.1 (putM 0 455 M rc.2) c i) ∧ Inv (putM 455 34 (hmem w rc M) rm.2) (offM 455 (putM 455 34 (hmem w rc M) rm.2)) := by
  refine ⟨?_, ?_, inv_put hc hI (hmem_lo hw rc M).1⟩
  · have e : (putM 455 34 (hmem w rc M) rm.2) 455 0 = rm.2 0 0 := by
      unfold putM
      rw [if_pos ⟨by omega, by omega⟩]
    rw [e]
    obtain ⟨a | x, m1⟩ := rc
    · exact (h1 a rfl).1
    · exact (h2 x rfl).2
  · intro h
    obtain ⟨a | x, m1⟩ := rc
    · obtain ⟨-, g2, g3⟩ := h1 a rfl
      refine ⟨g2 ▸ g3, fun c i hl => ?_⟩
      unfold putM
      rw [if_neg (by omega), g2]
      rfl
    · exact absurd h (by show ¬ ((exs.idxOf x + 1 : Nat) : Int) = 0; omega)
theorem wrI_lo (v : Int) (m : Mem) (c i : Nat) (h : c < 489) : wrI v m c i = m c i := setLM_cell _ _ _ (by omega)
theorem wrB_lo (v : Int) (m : Mem) (c i : Nat) (h : c < 489) : wrB v m c i = m c i := setLM_cell _ _ _ (by omega)
theorem wrF_lo (v : UInt32) (m : Mem) (c i : Nat) (h : c < 489) : wrF v m c i = m c i := setLM_cell _ _ _ (by omega)
theorem wrD_lo (v : UInt64) (m : Mem) (c i : Nat) (h : c < 489) : wrD v m c i = m c i := setLM_cell _ _ _ (by omega)
theorem wrI_at (v : Int) (m : Mem) : lng (wrI v m 489 0) (wrI v m 489 1) = Int64.ofInt v := by
  unfold wrI
  rw [setLM_0, setLM_1, lng_split]
theorem wrB_at (v : Int) (m : Mem) : lng (wrB v m 489 0) (wrB v m 489 1) = if v = 0 then Int64.ofNat 0 else Int64.ofNat 1 := by
  unfold wrB
  rw [setLM_0, setLM_1, lng_split]
theorem wrF_at (v : UInt32) (m : Mem) : (lng (wrF v m 490 0) (wrF v m 490 1)).toUInt64 = FP.f2d v := by
  unfold wrF
  rw [setLM_0, setLM_1, lng_split]
  rfl
theorem wrD_at (v : UInt64) (m : Mem) : (lng (wrD v m 490 0) (wrD v m 490 1)).toUInt64 = v := by
  unfold wrD
  rw [setLM_0, setLM_1, lng_split]
  rfl
def LawC (G : Gl) (C : Ct) (b Ls : Nat) (xs : Nat → Int32) : Prop := Cx SHL G room_1 C cL_law 9 "LastbusLaw" (some .boolean) false ∧ NCo C ∧ Scr C b Ls xs ∧ G.2.2.2 491 = b ∧ Ls ≤ 3072
abbrev L0 (i : Int) : List (Nat × V) := [(0, VR 491), (1, VR 0), (2, VR 455), (3, VR 489), (4, VR 490), (5, VI i)]
theorem okM_off {m : Mem} (h : okM m) (d : Nat) : okM (offM d m) := fun c i => h _ _
/-- the place of a turn's number -/
theorem and63 (z : Int) : 0 ≤ jiand z 63 ∧ jiand z 63 ≤ 63 := by
  unfold jiand
  have h : (i32 z &&& i32 63).toInt = ((i32 z &&& i32 63).toBitVec).toInt := rfl
  have h2 : ((i32 z &&& i32 63).toBitVec).toNat ≤ 63 := by
    rw [Int32.toBitVec_and, BitVec.toNat_and]
    exact Nat.and_le_right
  rw [h, BitVec.toInt_eq_toNat_of_lt (by omega)]
  omega
