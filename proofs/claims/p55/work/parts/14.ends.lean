/-! ===== A BODY'S START AND ENDS ===== -/
/-- arguments as locals -/
def argL : Nat → List V → List (Nat × V)
  | _, [] => []
  | i, v :: vs => (i, v) :: argL (if cat2 v then i + 2 else i + 1) vs
theorem cat2_iff (al : Nat → Nat) (v : V) : (cv al v).category = 2 ↔ cat2 v = true := by
  rcases v with z | a | x | x | x <;> simp [cv, cat2, Value.category]
theorem argL_map (al : Nat → Nat) : ∀ (As : List V) (i : Nat), lv_args i (As.map (cv al)) = (argL i As).map fun q => (q.1, cv al q.2)
  | [], _ => rfl
  | v :: vs, i => by
    simp only [List.map_cons, lv_args, argL, argL_map al vs, cat2_iff]
def lenA (As : List V) : Nat := (As.map fun v => if cat2 v then 2 else 1).sum
theorem lenA_sl (al : Nat → Nat) : ∀ As : List V, (lg_sl (As.map (cv al))).length = lenA As
  | [] => rfl
  | v :: vs => by
    have h := lenA_sl al vs
    unfold lg_sl lenA at *
    simp only [List.map_cons, List.flatMap_cons, List.length_append, List.sum_cons, h, cat2_iff]
    cases cat2 v <;> simp
theorem con_of {SH : List Sh} {G : Gl} {y : MethodName} {cc : ByteArray} {nL : Nat} {ret : Option FieldType} {rm : Room} {As : List V} {mm : Mem} {O : Res × Mem} {own : String} (hy : plainName y.cls = true) (ho : y.cls = own) (hn : lenA As ≤ nL)
    (body : ∀ C : Ct, Cx SH G rm C cc nL own ret true → J SH G rm (.inl O) C 0 0 0 (argL 0 As) [] mm) : Con SH G y cc nL ret rm As mm O := by
  intro hok hmm sz
  refine vx_ofW (cc := cc) (maxL := nL) (ret := ret) hy rfl ?_
  intro p e s m args below meth c s₁ B hml hex hv
  obtain ⟨rfl, hsz, ⟨hP, hK, hD⟩, hXB, hst⟩ := hv
  have hts := atoms_spec (ws := Cond.code y cc nL ret :: lw_U) B.pre
  have X : Cx SH G rm (p, e, s, m, (As.map (cv G.2.2.2)).toArray, below, meth, c, va_A (wsOf SH G.2.2.1 G.2.2.2 mm) sz) cc nL own ret true :=
    ⟨B.exec, B.bytes, hml, ho ▸ findClass_of_methodNamed B.named, fun w hw => hts w (List.mem_cons_of_mem _ hw), hK, B.returns, B.notSynchronized, fun _ => hex, hXB, hst, fun q h => Or.inr (hsz ▸ h)⟩
  have okA : ∀ (As : List V) (i : Nat), (∀ v ∈ As, okV v) → ∀ q ∈ argL i As, okV q.2 := by
    intro As
    induction As with
    | nil => intro i _ q hq; cases hq
    | cons v vs ih =>
      intro i h q hq
      rcases List.mem_cons.mp hq with rfl | hq
      · exact h v List.mem_cons_self
      · exact ih _ (fun x hx => h x (List.mem_cons_of_mem _ hx)) q hq
  have hl := lv_entry (As.map (cv G.2.2.2)) (n := nL) (by rw [lenA_sl]; exact hn)
  rw [argL_map] at hl
  have hj := body _ X (okA As 0 hok) (fun v h => by cases h) hmm s.heap [] _ hP hD.self va_S.rf (by show lv_has _ c.maxLocals _; rw [hml]; exact hl)
  rw [lg_entry_eq]
  exact hj
section EN
variable {SH : List Sh} {G : Gl} {R : Room} {O : OutT} {C : Ct} {k n pc : Nat} {L : List (Nat × V)} {st : List V} {mm : Mem} {cc : ByteArray} {nL : Nat} {own : String} {ret : Option FieldType} {nx : Bool}
theorem s_iret (X : Cx SH G R C cc nL own (some .int) nx) {z : Int} (hk : k ≤ R.cells) (hn : n ≤ R.slots) (hO : isO O (.inl (some (VI z)), mm)) (d : decode cc pc = .ok (.ireturn, 1)) : J SH G R O C k n pc L [VI z] mm := by
  obtain ⟨p, e, s, m, args, below, meth, c, A0⟩ := C
  obtain ⟨hx, hb, hml, hown, hts, hK, hr, hlk, hex, hXB, hst, hA⟩ := X
  intro h1 h2 h3 H locs ls hP hD hS hl
  cases O with
  | inr q => exact hO.elim
  | inl o =>
  have hO : o = _ := hO
  subst hO
  refine W.widen hk hn (vx_ret ?_)
  exact W.iret hx hb hr (fun t ht hW => ⟨⟨some (VI z), rfl, rfl, fun x hx => by cases hx; exact ok_hd h2, h3, ⟨by rw [ht]; exact hP, va_K.moved hW.alike hK, hD⟩⟩, hS.F ht⟩) hS.2.2 d hlk
theorem s_zret {ty : FieldType} (X : Cx SH G R C cc nL own (some ty) nx) {z : Int} (hz : okT ty z) (hk : k ≤ R.cells) (hn : n ≤ R.slots) (hO : isO O (.inl (some (VI z)), mm)) (d : decode cc pc = .ok (.ireturn, 1)) : J SH G R O C k n pc L [VI z] mm := by
  obtain ⟨p, e, s, m, args, below, meth, c, A0⟩ := C
  obtain ⟨hx, hb, hml, hown, hts, hK, hr, hlk, hex, hXB, hst, hA⟩ := X
  intro h1 h2 h3 H locs ls hP hD hS hl
  cases O with
  | inr q => exact hO.elim
  | inl o =>
  have hO : o = _ := hO
  subst hO
  refine W.widen hk hn (vx_ret ?_)
  exact W.zret hx hb hr (okT_in hz (ok_hd h2)).1 (fun t ht hW => ⟨⟨some (VI z), rfl, rfl, fun x hx => by cases hx; exact ok_hd h2, h3, ⟨by rw [ht]; exact hP, va_K.moved hW.alike hK, hD⟩⟩, hS.F ht⟩) hS.2.2 d hlk
theorem s_vret (X : Cx SH G R C cc nL own none nx) (hk : k ≤ R.cells) (hn : n ≤ R.slots) (hO : isO O (.inl none, mm)) (d : decode cc pc = .ok (.return_, 1)) : J SH G R O C k n pc L [] mm := by
  obtain ⟨p, e, s, m, args, below, meth, c, A0⟩ := C
  obtain ⟨hx, hb, hml, hown, hts, hK, hr, hlk, hex, hXB, hst, hA⟩ := X
  intro h1 h2 h3 H locs ls hP hD hS hl
  cases O with
  | inr q => exact hO.elim
  | inl o =>
  have hO : o = _ := hO
  subst hO
  refine W.widen hk hn (vx_ret ?_)
  exact W.vret hx hb hr (fun t ht hW => ⟨⟨none, rfl, rfl, (fun x hx => by cases hx), h3, ⟨by rw [ht]; exact hP, va_K.moved hW.alike hK, hD⟩⟩, hS.F ht⟩) hS.2.2 d hlk
theorem s_lret (X : Cx SH G R C cc nL own (some .long) nx) {z : Int64} (hk : k ≤ R.cells) (hn : n ≤ R.slots) (hO : isO O (.inl (some (VL z)), mm)) (d : decode cc pc = .ok (.lreturn, 1)) : J SH G R O C k n pc L [VL z] mm := by
  obtain ⟨p, e, s, m, args, below, meth, c, A0⟩ := C
  obtain ⟨hx, hb, hml, hown, hts, hK, hr, hlk, hex, hXB, hst, hA⟩ := X
  intro h1 h2 h3 H locs ls hP hD hS hl
  cases O with
  | inr q => exact hO.elim
  | inl o =>
  have hO : o = _ := hO
  subst hO
  refine W.widen hk hn (vx_ret ?_)
  exact W.lret hx hb hr (fun t ht hW => ⟨⟨some (VL z), rfl, rfl, fun x hx => by cases hx; trivial, h3, ⟨by rw [ht]; exact hP, va_K.moved hW.alike hK, hD⟩⟩, hS.F ht⟩) hS.2.2 d hlk
theorem s_fret (X : Cx SH G R C cc nL own (some .float) nx) {z : UInt32} (hk : k ≤ R.cells) (hn : n ≤ R.slots) (hO : isO O (.inl (some (VF z)), mm)) (d : decode cc pc = .ok (.freturn, 1)) : J SH G R O C k n pc L [VF z] mm := by
  obtain ⟨p, e, s, m, args, below, meth, c, A0⟩ := C
  obtain ⟨hx, hb, hml, hown, hts, hK, hr, hlk, hex, hXB, hst, hA⟩ := X
  intro h1 h2 h3 H locs ls hP hD hS hl
  cases O with
  | inr q => exact hO.elim
  | inl o =>
  have hO : o = _ := hO
  subst hO
  refine W.widen hk hn (vx_ret ?_)
  exact W.fret hx hb hr (fun t ht hW => ⟨⟨some (VF z), rfl, rfl, fun x hx => by cases hx; trivial, h3, ⟨by rw [ht]; exact hP, va_K.moved hW.alike hK, hD⟩⟩, hS.F ht⟩) hS.2.2 d hlk
theorem s_dret (X : Cx SH G R C cc nL own (some .double) nx) {z : UInt64} (hk : k ≤ R.cells) (hn : n ≤ R.slots) (hO : isO O (.inl (some (VD z)), mm)) (d : decode cc pc = .ok (.dreturn, 1)) : J SH G R O C k n pc L [VD z] mm := by
  obtain ⟨p, e, s, m, args, below, meth, c, A0⟩ := C
  obtain ⟨hx, hb, hml, hown, hts, hK, hr, hlk, hex, hXB, hst, hA⟩ := X
  intro h1 h2 h3 H locs ls hP hD hS hl
  cases O with
  | inr q => exact hO.elim
  | inl o =>
  have hO : o = _ := hO
  subst hO
  refine W.widen hk hn (vx_ret ?_)
  exact W.dret hx hb hr (fun t ht hW => ⟨⟨some (VD z), rfl, rfl, fun x hx => by cases hx; trivial, h3, ⟨by rw [ht]; exact hP, va_K.moved hW.alike hK, hD⟩⟩, hS.F ht⟩) hS.2.2 d hlk
end EN
/-! ===== THROWS ===== -/
def nmR : List String := ["java/lang/RuntimeException", "java/lang/Exception"]
/-- a throw's words: own's entries (class, text, constructor), the exception's number, the text -/
def THk (own : String) (ik is ic x : Nat) (text : String) : Prop :=
  Cond.classLink own ik (XN x) ∈ lw_U ∧ Cond.initialized (XN x) ∈ lw_U ∧ (∀ w ∈ vx_atS own ic (XN x) nmR, w ∈ lw_tbl) ∧ (vx_atS own ic (XN x) nmR).all (fun w => goodWord w || isD w) = true ∧
  (Cond.classLink own ik (XN x) :: Cond.initialized (XN x) :: vx_atS own ic (XN x) nmR).all vx_ot = true ∧ (own, is, text) ∈ strT
theorem XN_fit (x : Nat) : Bundle.fit (XN x) = true := by
  rcases x with _ | _ | _ | _ | _ | n
  · decide +kernel
  · decide +kernel
  · decide +kernel
  · decide +kernel
  · decide +kernel
  · show Bundle.fit "java/util/NoSuchElementException" = true
    decide +kernel
section TH
variable {SH : List Sh} {G : Gl} {R : Room} {O : OutT} {C : Ct} {k n pc : Nat} {L : List (Nat × V)} {st : List V} {mm : Mem} {cc : ByteArray} {nL : Nat} {own : String} {ret : Option FieldType} {nx : Bool}
theorem th_at {p : Program} {s : State} {args : Array Value} {own : String} {ik is ic x : Nat} {text : String} {A0 : Nat → Prop} (hts : ∀ w ∈ lw_U, w.before args s = true) (hXB : XB A0 s) (t : THk own ik is ic x text) : ∀ w ∈ vx_atS own ic (XN x) nmR, w.before args s = true := by
  obtain ⟨t1, t2, t3, t4, t5, t6⟩ := t
  intro w hw
  have h4 := List.all_eq_true.mp t4 w hw
  rcases Bool.or_eq_true _ _ |>.mp h4 with g | g
  · exact hts w (List.mem_filter.mpr ⟨t3 w hw, g⟩)
  · have := hXB.2.2.2 w (List.mem_filter.mpr ⟨t3 w hw, g⟩)
    cases w <;> first | (exact va_Nw.use rfl this) | (simp [isD] at g)
theorem s_throw (X : Cx SH G R C cc nL own ret true) {ik is ic x : Nat} {text : String} (t : THk own ik is ic x text) (hO : isO O (.inr x, mm)) (hk : k + 1 ≤ R.cells) (hn : n + 6 ≤ R.slots) (hf : 6 ≤ R.frames) (hloc : 82 ≤ R.locals)
    (d0 : decode cc pc = .ok (.new ik, 3)) (d3 : decode cc (pc + 3) = .ok (.dup, 1)) (d4 : decode cc (pc + 4) = .ok (.ldc is, 2)) (d6 : decode cc (pc + 6) = .ok (.invokespecial ic, 3)) (d9 : decode cc (pc + 9) = .ok (.athrow, 1)) : J SH G R O C k n pc L [] mm := by
  obtain ⟨p, e, s, m, args, below, meth, c, A0⟩ := C
  obtain ⟨hx, hb, hml, hown, hts, hK, hr, hlk, hex, hXB, hst, hA⟩ := X
  intro h1 h2 h3 H locs ls hP hD hS hl
  cases O with
  | inr q => exact hO.elim
  | inl o =>
  have hO : o = _ := hO
  subst hO
  obtain ⟨t1, t2, t3, t4, t5, t6⟩ := id t
  obtain ⟨sa, hsa⟩ := hXB.2.2.1 _ t6
  refine vx_throwS hx hb hst hown (XN_fit x) (by decide +kernel) (hts _ t1) (hts _ t2) hsa (th_at (p := p) hts hXB t) (fun w hw => List.all_eq_true.mp t5 w hw) hXB.1 hXB.2.1 hS hl.1 d0 d3 d4 d6 d9 (fun x hx => (hex rfl x hx).elim) (by show 2 + 3 < R.frames; omega) (by show 0 + (13 * (2 + 1) + 43) ≤ R.locals; omega) hk hn hlk ?_ hS.2.2 hk hn
  intro t hal hz hq
  refine ⟨⟨x, rfl, rfl, h3, ⟨fun j q hj => (hP j q hj).kept (hq _ (hP j q hj).lt), va_K.moved hal hK, hD⟩⟩, Nat.le_trans hS.1 hz, fun q h8 h9 => ?_⟩
  rw [hq q (Nat.lt_of_lt_of_le h8 hS.1)]
  exact hS.2.1 q h8 h9
theorem s_throwW (X : Cx SH G R C cc nL own ret true) {ik is ic x : Nat} {text : String} (t : THk own ik is ic x text) (hO : isO O (.inr x, mm)) (hk : k + 1 ≤ R.cells) (hn : n + 6 ≤ R.slots) (hf : 6 ≤ R.frames) (hloc : 82 ≤ R.locals)
    (d0 : decode cc pc = .ok (.new ik, 3)) (d3 : decode cc (pc + 3) = .ok (.dup, 1)) (d4 : decode cc (pc + 4) = .ok (.ldc_w is, 3)) (d7 : decode cc (pc + 7) = .ok (.invokespecial ic, 3)) (d10 : decode cc (pc + 10) = .ok (.athrow, 1)) : J SH G R O C k n pc L [] mm := by
  obtain ⟨p, e, s, m, args, below, meth, c, A0⟩ := C
  obtain ⟨hx, hb, hml, hown, hts, hK, hr, hlk, hex, hXB, hst, hA⟩ := X
  intro h1 h2 h3 H locs ls hP hD hS hl
  cases O with
  | inr q => exact hO.elim
  | inl o =>
  have hO : o = _ := hO
  subst hO
  obtain ⟨t1, t2, t3, t4, t5, t6⟩ := id t
  obtain ⟨sa, hsa⟩ := hXB.2.2.1 _ t6
  refine vx_throwSW hx hb hst hown (XN_fit x) (by decide +kernel) (hts _ t1) (hts _ t2) hsa (th_at (p := p) hts hXB t) (fun w hw => List.all_eq_true.mp t5 w hw) hXB.1 hXB.2.1 hS hl.1 d0 d3 d4 d7 d10 (fun x hx => (hex rfl x hx).elim) (by show 2 + 3 < R.frames; omega) (by show 0 + (13 * (2 + 1) + 43) ≤ R.locals; omega) hk hn hlk ?_ hS.2.2 hk hn
  intro t hal hz hq
  refine ⟨⟨x, rfl, rfl, h3, ⟨fun j q hj => (hP j q hj).kept (hq _ (hP j q hj).lt), va_K.moved hal hK, hD⟩⟩, Nat.le_trans hS.1 hz, fun q h8 h9 => ?_⟩
  rw [hq q (Nat.lt_of_lt_of_le h8 hS.1)]
  exact hS.2.1 q h8 h9
end TH
