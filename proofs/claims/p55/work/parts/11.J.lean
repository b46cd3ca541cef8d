/-- the texts of the class: owner, entry, text -/
def strT : List (String × Nat × String) := [("Lastbus", 442, "a number is out of range"), ("Lastbus", 98, "there are 12 stops"), ("Lastbus", 453, "there is no such stop"), ("Lastbus", 444, "both are the same"), ("Lastbus", 446, "there is none"), ("Lastbus", 132, "there are 6 services"), ("Lastbus", 457, "there is no such service"), ("Lastbus", 145, "the last day is ahead of the first one"), ("Lastbus", 470, "there are 24 trips"), ("Lastbus", 460, "there is no such trip"), ("Lastbus", 193, "the times are not as told"), ("Lastbus", 198, "it has 8 calls"), ("Lastbus", 306, "there is no such minute"), ("Lastbus", 314, "there is no such letter"), ("Lastbus", 316, "there is no such ride"), ("Lastbus", 344, "there is no such pair"), ("Lastbus", 373, "there is no such choice")]
/-! ===== THE JUDGEMENT over the abstract memory ===== -/
abbrev Gl : Type := Launch × va_G × (Nat → ClassId) × (Nat → Nat)
abbrev Ct : Type := Program × Env × State × MethodId × Array Value × List Frame × Method × Code × (Nat → Prop)
/-- an end: an outcome, or any other aim -/
abbrev OutT : Type := (Res × Mem) ⊕ (Ct → State → Prop)
def isO : OutT → Res × Mem → Prop
  | .inl O, r => O = r
  | .inr _, _ => False
/-- the good words of the tables: what every contract rests on -/
def lw_U : List Cond := lw_tbl.filter goodWord
theorem lw_Uin {i : Nat} {w : Cond} (h : lw_tbl[i]? = some w) (g : goodWord w = true) : w ∈ lw_U := List.mem_filter.mpr ⟨List.mem_of_getElem? h, g⟩
theorem lw_Ugood {big : List Cond} (h : ∀ w ∈ lw_U, w ∈ big) : GoodIn big lw_U := fun w hw => ⟨h w hw, good_of_word (List.mem_filter.mp hw).2⟩
def tysC (ta : Nat → ClassId) : List (ClassId × FieldType) := [(ta 0, .int), (ta 1, .boolean), (ta 2, .char), (ta 3, .array .int), (ta 4, .object "Lastbus$Labels")]
/-- the exception's name, by its number -/
def XN : Nat → String
  | 0 => "java/lang/IllegalArgumentException"
  | 1 => "java/lang/IllegalStateException"
  | 2 => "java/lang/IndexOutOfBoundsException"
  | 3 => "java/lang/ArithmeticException"
  | 4 => "java/lang/UnsupportedOperationException"
  | _ => "java/util/NoSuchElementException"
/-- the world behind a method -/
def PE (SH : List Sh) (G : Gl) (A : Nat → Prop) (mm : Mem) (t : State) : Prop :=
  va_P G.2.1 vC (wsOf SH G.2.2.1 G.2.2.2 mm) t.heap ∧ va_K G.2.1 vC (tysC G.2.2.1) t ∧ va_D A (wsOf SH G.2.2.1 G.2.2.2 mm)
def isD : Cond → Bool
  | .declares _ => true
  | .castable _ _ => true
  | .methodLinkNest .. => true
  | _ => false
/-- what a throw needs of the start: the two statics, the texts -/
def XB (A : Nat → Prop) (U : State) : Prop :=
  vx_Zq Bundle.tN "UNASSIGNED_STACK" Bundle.steD A U U.heap ∧ vx_Zq Bundle.tN "SUPPRESSED_SENTINEL" Bundle.listD A U U.heap ∧ (∀ q ∈ strT, ∃ a, vk_R q.1 q.2.1 q.2.2 a U) ∧ ∀ w ∈ lw_tbl.filter isD, va_Nw w U
/-- a method's start -/
def PB (SH : List Sh) (G : Gl) (sz : Nat) (mm : Mem) (U : State) : Prop :=
  U.heap.size = sz ∧ PE SH G (fun _ => True) mm U ∧ XB (va_A (wsOf SH G.2.2.1 G.2.2.2 mm) sz) U ∧ G.1.stackTraces = false
def QR (SH : List Sh) (G : Gl) (A : Nat → Prop) (O : Res × Mem) : Array Value → State → Outcome → State → Prop := fun _ st oc t =>
  (∃ v : Option V, O.1 = .inl v ∧ oc = .returned (v.map (cv G.2.2.2)) ∧ (∀ x, v = some x → okV x) ∧ okM O.2 ∧ PE SH G A O.2 t) ∧ va_F A st t
def XR (SH : List Sh) (G : Gl) (A : Nat → Prop) (O : Res × Mem) : String → State → State → Prop := fun E st t =>
  (∃ x : Nat, O.1 = .inr x ∧ E = XN x ∧ okM O.2 ∧ PE SH G A O.2 t) ∧ va_F A st t
/-- A METHOD'S CONTRACT: from the memory mm with these arguments it comes to the outcome O -/
def Con (SH : List Sh) (G : Gl) (y : MethodName) (cc : ByteArray) (nL : Nat) (ret : Option FieldType) (rm : Room) (As : List V) (mm : Mem) (O : Res × Mem) : Prop :=
  (∀ v ∈ As, okV v) → okM mm → ∀ sz : Nat, vx_Met G.1 y (Cond.code y cc nL ret :: lw_U) rm (va_Pc (As.map (cv G.2.2.2)) (PB SH G sz mm)) (QR SH G (va_A (wsOf SH G.2.2.1 G.2.2.2 mm) sz) O) (XR SH G (va_A (wsOf SH G.2.2.1 G.2.2.2 mm) sz) O) rm.cells rm.slots (va_A (wsOf SH G.2.2.1 G.2.2.2 mm) sz)
/-- what stays fixed while a body runs -/
def Cx (SH : List Sh) (G : Gl) (R : Room) (C : Ct) (cc : ByteArray) (nL : Nat) (own : String) (ret : Option FieldType) (nx : Bool) : Prop :=
  match C with
  | (p, e, s, m, args, below, meth, c, A0) =>
    p.tables.exec = Jvm.exec ∧ c.code = cc ∧ c.maxLocals = nL ∧ s.vm.findClass own = some m.cls ∧ (∀ w ∈ lw_U, w.before args s = true) ∧ va_K G.2.1 vC (tysC G.2.2.1) s ∧ meth.sig.returnType = ret ∧ meth.locks = false ∧ (nx = true → ∀ x ∈ c.exceptionTable.toList, False) ∧ XB A0 s ∧ G.1.stackTraces = false ∧ (∀ q, s.heap.size ≤ q → A0 q)
def QJ (SH : List Sh) (G : Gl) (R : Room) (O : OutT) (C : Ct) : State → Prop := match O with
  | .inl o => match C with
    | (_, _, s, _, args, below, _, _, A0) => vx_MQ below (QR SH G A0 o) (XR SH G A0 o) args s R.cells R.slots A0
  | .inr q => q C
/-- THE JUDGEMENT: at pc, with these locals, this stack, this memory, the body comes to the outcome O -/
def J (SH : List Sh) (G : Gl) (R : Room) (O : OutT) (C : Ct) (k n pc : Nat) (L : List (Nat × V)) (st : List V) (mm : Mem) : Prop :=
  match C with
  | (p, e, s, m, args, below, meth, c, A0) =>
    (∀ q ∈ L, okV q.2) → (∀ v ∈ st, okV v) → okM mm → ∀ (H : Heap) (locs : List Loc) (ls : Array Slot), va_P G.2.1 vC (wsOf SH G.2.2.1 G.2.2.2 mm) H → va_D A0 (wsOf SH G.2.2.1 G.2.2.2 mm) → va_S A0 s.heap H locs → lv_has ls c.maxLocals (L.map fun q => (q.1, cv G.2.2.2 q.2)) →
      W p G.1 e R s m args below meth c H locs k n (QJ SH G R O (p, e, s, m, args, below, meth, c, A0)) (F0 m pc ls (st.map (cv G.2.2.2)))
theorem jl_cat {ls : Array Slot} {nL : Nat} {L : List (Nat × V)} {al : Nat → Nat} (h : lv_has ls nL (L.map fun q => (q.1, cv al q.2))) (j : Nat) {i : Nat} {v : V} (hj : L[j]? = some (i, v)) : ls[i]? = some (.val (cv al v)) :=
  lv_at h j (by rw [List.getElem?_map, hj]; rfl)
/-- fewer locals, in another order, by their places -/
def lvp (L : List (Nat × V)) (ks : List Nat) : List (Nat × V) := ks.filterMap (fun k => L[k]?)
def stL (L : List (Nat × V)) (i : Nat) (v : V) : List (Nat × V) := (i, v) :: L.filter (fun q => !(q.1 == i) && !(q.1 + 1 == i && cat2 q.2))
def stL2 (L : List (Nat × V)) (i : Nat) (v : V) : List (Nat × V) := (i, v) :: L.filter (fun q => !(q.1 == i) && (!(q.1 == i + 1) && !(q.1 + 1 == i && cat2 q.2)))
theorem stL_map {L : List (Nat × V)} {i : Nat} {v : V} {al : Nat → Nat} : (i, cv al v) :: (L.map fun q => (q.1, cv al q.2)).filter (fun q => !(q.1 == i) && !(q.1 + 1 == i && q.2.category == 2)) = (stL L i v).map fun q => (q.1, cv al q.2) := by
  unfold stL
  rw [List.map_cons, List.filter_map]
  congr 2
  apply List.filter_congr
  intro q _
  simp only [Function.comp_apply, cat2_eq]
theorem stL2_map {L : List (Nat × V)} {i : Nat} {v : V} {al : Nat → Nat} : (i, cv al v) :: (L.map fun q => (q.1, cv al q.2)).filter (fun q => !(q.1 == i) && (!(q.1 == i + 1) && !(q.1 + 1 == i && q.2.category == 2))) = (stL2 L i v).map fun q => (q.1, cv al q.2) := by
  unfold stL2
  rw [List.map_cons, List.filter_map]
  congr 2
  apply List.filter_congr
  intro q _
  simp only [Function.comp_apply, cat2_eq]
theorem stL_ok {L : List (Nat × V)} {i : Nat} {v : V} (h : ∀ q ∈ L, okV q.2) (hv : okV v) : ∀ q ∈ stL L i v, okV q.2 := by
  intro q hq
  rcases List.mem_cons.mp hq with rfl | hq
  · exact hv
  · exact h q (List.mem_filter.mp hq).1
theorem stL2_ok {L : List (Nat × V)} {i : Nat} {v : V} (h : ∀ q ∈ L, okV q.2) (hv : okV v) : ∀ q ∈ stL2 L i v, okV q.2 := by
  intro q hq
  rcases List.mem_cons.mp hq with rfl | hq
  · exact hv
  · exact h q (List.mem_filter.mp hq).1
theorem ok_cons {v : V} {st : List V} (hv : okV v) (h : ∀ x ∈ st, okV x) : ∀ x ∈ v :: st, okV x := fun x hx => (List.mem_cons.mp hx).elim (fun e => e ▸ hv) (h x)
theorem ok_tl {v : V} {st : List V} (h : ∀ x ∈ v :: st, okV x) : ∀ x ∈ st, okV x := fun x hx => h x (List.mem_cons_of_mem _ hx)
theorem ok_hd {v : V} {st : List V} (h : ∀ x ∈ v :: st, okV x) : okV v := h v List.mem_cons_self
section ST
variable {SH : List Sh} {G : Gl} {R : Room} {O : OutT} {C : Ct} {k n pc : Nat} {L : List (Nat × V)} {st : List V} {mm : Mem} {cc : ByteArray} {nL : Nat} {own : String} {ret : Option FieldType} {nx : Bool}
/-- fewer locals -/
theorem s_loc (ks : List Nat) {L' : List (Nat × V)} (h : lvp L ks = L') (kk : J SH G R O C k n pc L' st mm) : J SH G R O C k n pc L st mm := by
  obtain ⟨p, e, s, m, args, below, meth, c, A0⟩ := C
  intro h1 h2 h3 H locs ls hP hD hS hl
  subst h
  refine kk (fun q hq => ?_) h2 h3 H locs ls hP hD hS (lv_sub hl ks ?_)
  · obtain ⟨i, -, hi⟩ := List.mem_filterMap.mp hq
    exact h1 q (List.mem_of_getElem? hi)
  · unfold lv_pick lvp
    rw [List.map_filterMap]
    congr 1
    funext i
    rw [List.getElem?_map]
/-- a value by another name -/
theorem s_eqm {mm' : Mem} (h : mm' = mm) (kk : J SH G R O C k n pc L st mm') : J SH G R O C k n pc L st mm := h ▸ kk
theorem s_ok (kk : (∀ q ∈ L, okV q.2) → (∀ v ∈ st, okV v) → okM mm → J SH G R O C k n pc L st mm) : J SH G R O C k n pc L st mm := by
  obtain ⟨p, e, s, m, args, below, meth, c, A0⟩ := C
  exact fun h1 h2 h3 => kk h1 h2 h3 h1 h2 h3
theorem s_loadR (X : Cx SH G R C cc nL own ret nx) {i a : Nat} (j : Nat) (hj : L[j]? = some (i, VR a)) (d : decode cc pc = .ok (.aload i, 2)) (kk : J SH G R O C k n (pc + 2) L (VR a :: st) mm) : J SH G R O C k n pc L st mm := by
  obtain ⟨p, e, s, m, args, below, meth, c, A0⟩ := C
  obtain ⟨hx, hb, -⟩ := X
  intro h1 h2 h3 H locs ls hP hD hS hl
  exact lv_aload hx hb d (jl_cat hl j hj) (kk h1 (ok_cons trivial h2) h3 H locs ls hP hD hS hl)
theorem s_load0 (X : Cx SH G R C cc nL own ret nx) {a : Nat} {i : Fin 4} (j : Nat) (hj : L[j]? = some (i.val, VR a)) (d : decode cc pc = .ok (.aload_n i, 1)) (kk : J SH G R O C k n (pc + 1) L (VR a :: st) mm) : J SH G R O C k n pc L st mm := by
  obtain ⟨p, e, s, m, args, below, meth, c, A0⟩ := C
  obtain ⟨hx, hb, -⟩ := X
  intro h1 h2 h3 H locs ls hP hD hS hl
  exact lv_aload_n hx hb d rfl (jl_cat hl j hj) (kk h1 (ok_cons trivial h2) h3 H locs ls hP hD hS hl)
theorem s_iload (X : Cx SH G R C cc nL own ret nx) {i : Nat} {z : Int} (j : Nat) (hj : L[j]? = some (i, VI z)) (d : decode cc pc = .ok (.iload i, 2)) (kk : J SH G R O C k n (pc + 2) L (VI z :: st) mm) : J SH G R O C k n pc L st mm := by
  obtain ⟨p, e, s, m, args, below, meth, c, A0⟩ := C
  obtain ⟨hx, hb, -⟩ := X
  intro h1 h2 h3 H locs ls hP hD hS hl
  exact lv_iload hx hb d (jl_cat hl j hj) (kk h1 (ok_cons (h1 _ (List.mem_of_getElem? hj)) h2) h3 H locs ls hP hD hS hl)
theorem s_iload_n (X : Cx SH G R C cc nL own ret nx) {i : Fin 4} {z : Int} (j : Nat) (hj : L[j]? = some (i.val, VI z)) (d : decode cc pc = .ok (.iload_n i, 1)) (kk : J SH G R O C k n (pc + 1) L (VI z :: st) mm) : J SH G R O C k n pc L st mm := by
  obtain ⟨p, e, s, m, args, below, meth, c, A0⟩ := C
  obtain ⟨hx, hb, -⟩ := X
  intro h1 h2 h3 H locs ls hP hD hS hl
  exact lv_iload_n hx hb d rfl (jl_cat hl j hj) (kk h1 (ok_cons (h1 _ (List.mem_of_getElem? hj)) h2) h3 H locs ls hP hD hS hl)
theorem s_iadd (X : Cx SH G R C cc nL own ret nx) {a b : Int} (h : InR (a + b)) (d : decode cc pc = .ok (.iadd, 1)) (kk : J SH G R O C k n (pc + 1) L (VI (a + b) :: st) mm) : J SH G R O C k n pc L (VI b :: VI a :: st) mm := by
  obtain ⟨p, e, s, m, args, below, meth, c, A0⟩ := C
  obtain ⟨hx, hb, -⟩ := X
  intro h1 h2 h3 H locs ls hP hD hS hl
  refine lv_iadd hx hb d ?_
  have := kk h1 (ok_cons h (ok_tl (ok_tl h2))) h3 H locs ls hP hD hS hl
  rw [i32_add]
  exact this
end ST
