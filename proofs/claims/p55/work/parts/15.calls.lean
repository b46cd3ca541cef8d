/-! ===== CALLS ===== -/
theorem PB_blind {SH : List Sh} {G : Gl} {sz : Nat} {mm : Mem} {As : List Value} : FrameBlind (va_Pc As (PB SH G sz mm)) := by
  intro a U g mk h
  obtain ⟨h0, h1, ⟨hP, hK, hD⟩, ⟨x1, x2, x3, x4⟩, h5⟩ := h
  exact ⟨h0, h1, ⟨hP, va_K.moved (u := U) (U := U.calling g mk a) (Vm.Alike.refl U.vm) hK, hD⟩, ⟨vx_Zq.moved (u := U) (U := U.calling g mk a) (Vm.Alike.refl U.vm) x1, vx_Zq.moved (u := U) (U := U.calling g mk a) (Vm.Alike.refl U.vm) x2, fun q hq => (x3 q hq).imp fun _ z => vk_R.same (u := U) (U := U.calling g mk a) rfl z, fun w hw => va_Nw.same (u := U) (U := U.calling g mk a) (by
    have := (List.mem_filter.mp hw).2
    cases w <;> first | rfl | (simp [isD] at this)) rfl (x4 w hw)⟩, h5⟩
theorem isD_warm {w : Cond} (g : isD w = true) {s U : State} (hW : s.WarmedH U.vm) (h : va_Nw w s) : va_Nw w U := by
  cases w <;> first | exact va_Nw.warmD hW h | exact va_Nw.warmC hW h | exact va_Nw.warmM hW h | (simp [isD] at g)
theorem XB_call {A0 A1 : Nat → Prop} {s U : State} {H : Heap} {locs : List Loc} (hXB : XB A0 s) (hS : va_S A0 s.heap H locs) (hA : ∀ q, A1 q → A0 q) (hU : U.heap = H) (hW : s.WarmedH U.vm) : XB A1 U := by
  obtain ⟨x1, x2, x3, x4⟩ := hXB
  refine ⟨?_, ?_, fun q hq => (x3 q hq).imp fun _ z => vk_R.warm hW z, fun w hw => isD_warm (List.mem_filter.mp hw).2 hW (x4 w hw)⟩
  · rw [hU]
    exact (vx_Zq.moved hW.alike (x1.kept hS.2.1)).narrow hA
  · rw [hU]
    exact (vx_Zq.moved hW.alike (x2.kept hS.2.1)).narrow hA
/-- from a call's run to the walk behind it -/
theorem w_of_run {p : Program} {l : Launch} {e : Env} {R : Room} {s : State} {m : MethodId} {args : Array Value} {below : List Frame} {meth : Method} {c : Code} {H : Heap} {locs : List Loc} {cells slots mc ms pc : Nat} {ls : Array Slot} {st0 rest : List Value} {Q : State → Prop} {SH : List Sh} {G : Gl} {A0 A1 : Nat → Prop} {O1 : Res × Mem} {a : Array Value} {H0 : Heap}
    (hr : vx_Run p l e R s m args below meth c H locs cells slots mc ms (F0 m pc ls st0) rest (QR SH G A1 O1 a) (XR SH G A1 O1) A1) (hS : va_S A0 H0 H locs) (hA : ∀ q, A1 q → A0 q)
    (kr : ∀ (v : Option V) (t : State) (H1 : Heap) (locs1 : List Loc), O1.1 = .inl v → (∀ x, v = some x → okV x) → okM O1.2 → t.heap = H1 → s.vm.Alike t.vm → PE SH G A1 O1.2 t → va_S A0 H0 H1 locs1 → W p l e R s m args below meth c H1 locs1 (cells + mc) (slots + ms) Q (F0 m (pc + 3) ls ((v.map (cv G.2.2.2)).toList ++ rest)))
    (kx : ∀ (x : Nat) (ce : Cell) (q9 : Addr) (t : State) (H1 : Heap) (locs1 : List Loc), O1.1 = .inr x → okM O1.2 → t.heap = H1 → s.vm.Alike t.vm → PE SH G A1 O1.2 t → va_S A0 H0 H1 locs1 → H1[q9]? = some ce → ce.vm = .none → s.vm.findClass (XN x) = some ce.cls → vx_W p l e R s m args below meth c H1 locs1 (cells + mc) (slots + ms) Q (F0 m pc ls rest) q9) :
    W p l e R s m args below meth c H locs cells slots Q (F0 m pc ls st0) := by
  intro T hT X
  rcases hr T hT X with ⟨v, st₀, t, T', L, h0, X', hL, e1, e2, ⟨⟨u, o1, o2, o3, o4, o5⟩, hF⟩, st⟩ | ⟨q, st₀, t, T', L, E, ce, h0, X', hL, e1, e2, ⟨⟨x, o1, o2, o3, o4⟩, hF⟩, hce, hcv, hcl, st⟩
  · cases o2
    obtain ⟨k1, k2, k3⟩ := vx_keep h0 e1 hS (fun q _ h => hA q h) hA hL hF
    obtain ⟨t2, a1, b1⟩ := kr u t T'.heap (locs ++ L) o1 o3 o4 e1.symm (by rw [← e2]; exact X'.warmed.alike) o5 k3 T' rfl X'
    exact ⟨t2, st t2 a1, b1⟩
  · subst o2
    obtain ⟨k1, k2, k3⟩ := vx_keep h0 e1 hS (fun q _ h => hA q h) hA hL hF
    obtain ⟨t2, a1, b1⟩ := kx x ce q t T'.heap (locs ++ L) o1 o3 e1.symm (by rw [← e2]; exact X'.warmed.alike) o4 k3 (by rw [e1]; exact hce) hcv hcl T' rfl X'
    exact ⟨t2, st.trans a1, b1⟩
/-- a virtual call's words -/
def CVk (own : String) (i : Nat) (y : MethodName) (bytes : ByteArray) (nl : Nat) (ret : Option FieldType) (na : Nat) : Prop :=
  Cond.methodLink own i y ∈ lw_U ∧ Cond.instanceMethod y ∈ lw_U ∧ Cond.selects y.cls y y ∈ lw_U ∧ Cond.initialized y.cls ∈ lw_U ∧ Cond.code y bytes nl ret ∈ lw_U ∧
  (y.cls ≠ "java/lang/invoke/MethodHandle" ∧ y.cls ≠ "java/lang/invoke/VarHandle" ∧ (parseMethodDescriptor y.desc).map (fun d => d.parameters.length) = some na)
def CSk (own : String) (i : Nat) (y : MethodName) (bytes : ByteArray) (nl : Nat) (ret : Option FieldType) (na : Nat) : Prop :=
  Cond.methodLink own i y ∈ lw_U ∧ Cond.static y ∈ lw_U ∧ Cond.initialized y.cls ∈ lw_U ∧ Cond.code y bytes nl ret ∈ lw_U ∧
  (y.cls ≠ "java/lang/invoke/MethodHandle" ∧ y.cls ≠ "java/lang/invoke/VarHandle" ∧ (parseMethodDescriptor y.desc).map (fun d => d.parameters.length) = some na)
/-- a static call of a nest mate's private method -/
def CNk (own : String) (i : Nat) (y : MethodName) (host : String) (bytes : ByteArray) (nl : Nat) (ret : Option FieldType) (na : Nat) : Prop :=
  Cond.methodLinkNest own i y host ∈ lw_tbl ∧ Cond.static y ∈ lw_U ∧ Cond.initialized y.cls ∈ lw_U ∧ Cond.code y bytes nl ret ∈ lw_U ∧
  (y.cls ≠ "java/lang/invoke/MethodHandle" ∧ y.cls ≠ "java/lang/invoke/VarHandle" ∧ (parseMethodDescriptor y.desc).map (fun d => d.parameters.length) = some na)
theorem gU : GoodIn lw_U lw_U := fun w hw => ⟨hw, good_of_word (List.mem_filter.mp hw).2⟩
theorem gUc {w0 : Cond} (h : w0 ∈ lw_U) : GoodIn lw_U (w0 :: lw_U) := fun w hw => (List.mem_cons.mp hw).elim (fun e => e ▸ gU w0 h) (gU w)
section CL
variable {SH : List Sh} {G : Gl} {R : Room} {O : OutT} {C : Ct} {k n pc : Nat} {L : List (Nat × V)} {st : List V} {mm : Mem} {cc : ByteArray} {nL : Nat} {own : String} {ret : Option FieldType} {nx : Bool}
/-- behind a call's run, in J -/
theorem j_of_run (X : Cx SH G R C cc nL own ret true) {rm : Room} {O1 : Res × Mem} {st0 : List V} (hcs : k + rm.cells ≤ R.cells ∧ n + rm.slots ≤ R.slots)
    (hr : match C with | (p, e, s, m, args, below, meth, c, A0) => (∀ q ∈ L, okV q.2) → (∀ v ∈ st0, okV v) → okM mm → ∀ (H : Heap) (locs : List Loc) (ls : Array Slot), va_P G.2.1 vC (wsOf SH G.2.2.1 G.2.2.2 mm) H → va_D A0 (wsOf SH G.2.2.1 G.2.2.2 mm) → va_S A0 s.heap H locs → ls.size = c.maxLocals → ∃ a, vx_Run p G.1 e R s m args below meth c H locs k n rm.cells rm.slots (F0 m pc ls (st0.map (cv G.2.2.2))) (st.map (cv G.2.2.2)) (QR SH G (va_A (wsOf SH G.2.2.1 G.2.2.2 mm) H.size) O1 a) (XR SH G (va_A (wsOf SH G.2.2.1 G.2.2.2 mm) H.size) O1) (va_A (wsOf SH G.2.2.1 G.2.2.2 mm) H.size))
    (hst : ∀ v ∈ st, v ∈ st0) (hthr : ∀ x, O1.1 = .inr x → isO O (.inr x, O1.2))
    (kk : ∀ v, O1.1 = .inl v → J SH G R O C (k + rm.cells) (n + rm.slots) (pc + 3) L (v.toList ++ st) O1.2) : J SH G R O C k n pc L st0 mm := by
  obtain ⟨p, e, s, m, args, below, meth, c, A0⟩ := C
  obtain ⟨hx, hb, hml, hown, hts, hK, hrr, hlk, hex, hXB, hstt, hA⟩ := X
  intro h1 h2 h3 H locs ls hP hD hS hl
  obtain ⟨a, hr⟩ := hr h1 h2 h3 H locs ls hP hD hS hl.1
  have hAA : ∀ q, va_A (wsOf SH G.2.2.1 G.2.2.2 mm) H.size q → A0 q := fun q h => h.elim (fun ⟨j, e9, hj⟩ => hD.2 j _ hj) (fun h => hA q (Nat.le_trans hS.1 h))
  refine w_of_run hr hS hAA ?_ ?_
  · intro v t H1 locs1 o1 o2 o3 ht hal ⟨hP1, hK1, hD1⟩ hS1
    have hj := kk v o1 h1 (fun x hx => (List.mem_append.mp hx).elim (fun h => by cases v with | none => cases h | some z => (rw [Option.toList_some, List.mem_singleton] at h; rw [h]; exact o2 z rfl)) (fun h => h2 x (hst x h))) o3 H1 locs1 ls (ht ▸ hP1) (hD1.weaken fun _ q _ h => hAA _ h) hS1 hl
    rw [List.map_append] at hj
    cases v <;> exact hj
  · intro x ce q9 t H1 locs1 o1 o3 ht hal ⟨hP1, hK1, hD1⟩ hS1 hce hcv hcl
    have hthr := hthr x o1
    cases O with
    | inr q => exact hthr.elim
    | inl o =>
    have hthr : o = _ := hthr
    subst hthr
    refine vx_out (fun z hz => (hex rfl z hz).elim) hlk hce hcv hcl ?_ hS1.2.2 hcs.1 hcs.2
    intro t9 ht9 hal9
    refine ⟨⟨x, rfl, rfl, o3, ⟨by rw [ht9, ← ht]; exact hP1, va_K.moved hal9 hK, hD1.weaken fun _ q _ h => hAA _ h⟩⟩, hS1.F ht9⟩
theorem s_callV (X : Cx SH G R C cc nL own ret true) {y : MethodName} {bytes : ByteArray} {nl i b ci : Nat} {ret1 : Option FieldType} {rm : Room} {As : List V} {O1 : Res × Mem} {st0 : List V} {fs : List (Option Nat)} {Tq : u_T} {Nq : Nat}
    (cw : CVk own i y bytes nl ret1 As.length) (sh : SH[b]? = some (.inl (ci, fs))) (hc : vC[ci]? = some (y.cls, Tq, Nq)) (d : decode cc pc = .ok (.invokevirtual i, 3)) (hM : Con SH G y bytes nl ret1 rm (VR b :: As) mm O1) (hst : st0 = As.reverse ++ VR b :: st)
    (hR : rm.frames + 1 ≤ R.frames ∧ 8 + (nl + 11) + rm.locals ≤ R.locals) (hcs : k + rm.cells ≤ R.cells ∧ n + rm.slots ≤ R.slots) (hcat : ((st.map (cv G.2.2.2)).map fun v => v.category).sum ≤ 8) (hthr : ∀ x, O1.1 = .inr x → isO O (.inr x, O1.2))
    (kk : ∀ v, O1.1 = .inl v → J SH G R O C (k + rm.cells) (n + rm.slots) (pc + 3) L (v.toList ++ st) O1.2) : J SH G R O C k n pc L st0 mm := by
  subst hst
  refine j_of_run X hcs ?_ (fun v hv => List.mem_append_right _ (List.mem_cons_of_mem _ hv)) hthr kk
  obtain ⟨p, e, s, m, args, below, meth, c, A0⟩ := C
  obtain ⟨hx, hb, hml, hown, hts, hK, hrr, hlk, hex, hXB, hstt, hA⟩ := X
  intro h1 h2 h3 H locs ls hP hD hS hl
  obtain ⟨c1, c2, c3, c4, c5, c6⟩ := cw
  have hAA : ∀ q, va_A (wsOf SH G.2.2.1 G.2.2.2 mm) H.size q → A0 q := fun q h => h.elim (fun ⟨j, e9, hj⟩ => hD.2 j _ hj) (fun h => hA q (Nat.le_trans hS.1 h))
  have hM9 := hM (fun v hv => h2 v (by rcases List.mem_cons.mp hv with rfl | hv; exact List.mem_append_right _ List.mem_cons_self; exact List.mem_append_left _ (List.mem_reverse.mpr hv))) h3 H.size
  refine ⟨_, vx_runV (As := As.map (cv G.2.2.2)) (C := y.cls) (b := G.2.2.2 b) (n := As.length) ⟨hx, hb, hml, hown, hts⟩ hM9 ⟨callB_of As.length hts (gUc c5) rfl rfl rfl (hts _ c4) (hts _ c1) c6 hR, hts _ c2, hts _ c3⟩ ⟨PB_blind, va_recv hK hP hc (wsOf_at sh), fun U hU hW => ?_⟩ rfl (by simp) (by rw [hl, hml]) (by simp [List.map_append, List.map_reverse, cv]) (by show 2 * 0 + _ ≤ 8; omega) d hcs⟩
  exact ⟨by simp [cv], by rw [hU], ⟨by rw [hU]; exact hP, va_K.moved hW.alike hK, hD.weaken fun _ _ _ _ => trivial⟩, XB_call hXB hS hAA hU hW, hstt⟩
theorem s_callS (X : Cx SH G R C cc nL own ret true) {y : MethodName} {bytes : ByteArray} {nl i : Nat} {ret1 : Option FieldType} {rm : Room} {As : List V} {O1 : Res × Mem} {st0 : List V}
    (cw : CSk own i y bytes nl ret1 As.length) (d : decode cc pc = .ok (.invokestatic i, 3)) (hM : Con SH G y bytes nl ret1 rm As mm O1) (hst : st0 = As.reverse ++ st)
    (hR : rm.frames + 1 ≤ R.frames ∧ 8 + (nl + 11) + rm.locals ≤ R.locals) (hcs : k + rm.cells ≤ R.cells ∧ n + rm.slots ≤ R.slots) (hcat : ((st.map (cv G.2.2.2)).map fun v => v.category).sum ≤ 8) (hthr : ∀ x, O1.1 = .inr x → isO O (.inr x, O1.2))
    (kk : ∀ v, O1.1 = .inl v → J SH G R O C (k + rm.cells) (n + rm.slots) (pc + 3) L (v.toList ++ st) O1.2) : J SH G R O C k n pc L st0 mm := by
  subst hst
  refine j_of_run X hcs ?_ (fun v hv => List.mem_append_right _ hv) hthr kk
  obtain ⟨p, e, s, m, args, below, meth, c, A0⟩ := C
  obtain ⟨hx, hb, hml, hown, hts, hK, hrr, hlk, hex, hXB, hstt, hA⟩ := X
  intro h1 h2 h3 H locs ls hP hD hS hl
  obtain ⟨c1, c3, c4, c5, c6⟩ := cw
  have hAA : ∀ q, va_A (wsOf SH G.2.2.1 G.2.2.2 mm) H.size q → A0 q := fun q h => h.elim (fun ⟨j, e9, hj⟩ => hD.2 j _ hj) (fun h => hA q (Nat.le_trans hS.1 h))
  have hM9 := hM (fun v hv => h2 v (List.mem_append_left _ (List.mem_reverse.mpr hv))) h3 H.size
  refine ⟨_, vx_runS (As := As.map (cv G.2.2.2)) (n := As.length) ⟨hx, hb, hml, hown, hts⟩ hM9 ⟨callB_of As.length hts (gUc c5) rfl rfl rfl (hts _ c4) (hts _ c1) c6 hR, hts _ c3⟩ ⟨PB_blind, fun U hU hW => ?_⟩ rfl (by simp) (by rw [hl, hml]) (by simp [List.map_append, List.map_reverse]) (by show 2 * 0 + _ ≤ 8; omega) d hcs⟩
  exact ⟨rfl, by rw [hU], ⟨by rw [hU]; exact hP, va_K.moved hW.alike hK, hD.weaken fun _ _ _ _ => trivial⟩, XB_call hXB hS hAA hU hW, hstt⟩
theorem s_callN (X : Cx SH G R C cc nL own ret true) {y : MethodName} {host : String} {bytes : ByteArray} {nl i : Nat} {ret1 : Option FieldType} {rm : Room} {As : List V} {O1 : Res × Mem} {st0 : List V}
    (cw : CNk own i y host bytes nl ret1 As.length) (d : decode cc pc = .ok (.invokestatic i, 3)) (hM : Con SH G y bytes nl ret1 rm As mm O1) (hst : st0 = As.reverse ++ st)
    (hR : rm.frames + 1 ≤ R.frames ∧ 8 + (nl + 11) + rm.locals ≤ R.locals) (hcs : k + rm.cells ≤ R.cells ∧ n + rm.slots ≤ R.slots) (hcat : ((st.map (cv G.2.2.2)).map fun v => v.category).sum ≤ 8) (hthr : ∀ x, O1.1 = .inr x → isO O (.inr x, O1.2))
    (kk : ∀ v, O1.1 = .inl v → J SH G R O C (k + rm.cells) (n + rm.slots) (pc + 3) L (v.toList ++ st) O1.2) : J SH G R O C k n pc L st0 mm := by
  subst hst
  refine j_of_run X hcs ?_ (fun v hv => List.mem_append_right _ hv) hthr kk
  obtain ⟨p, e, s, m, args, below, meth, c, A0⟩ := C
  obtain ⟨hx, hb, hml, hown, hts, hK, hrr, hlk, hex, hXB, hstt, hA⟩ := X
  intro h1 h2 h3 H locs ls hP hD hS hl
  obtain ⟨c1, c3, c4, c5, c6⟩ := cw
  have hAA : ∀ q, va_A (wsOf SH G.2.2.1 G.2.2.2 mm) H.size q → A0 q := fun q h => h.elim (fun ⟨j, e9, hj⟩ => hD.2 j _ hj) (fun h => hA q (Nat.le_trans hS.1 h))
  have hM9 := hM (fun v hv => h2 v (List.mem_append_left _ (List.mem_reverse.mpr hv))) h3 H.size
  refine ⟨_, vx_runSN (As := As.map (cv G.2.2.2)) (n := As.length) (host := host) ⟨hx, hb, hml, hown, hts⟩ hM9 ⟨va_cnB As.length hts (gUc c5) rfl rfl rfl (hXB.2.2.2 _ (List.mem_filter.mpr ⟨c1, rfl⟩)) (hts _ c4) c6 hR, hts _ c3, trivial⟩ ⟨PB_blind, fun U hU hW => ?_⟩ rfl (by simp) (by rw [hl, hml]) (by simp [List.map_append, List.map_reverse]) (by show 2 * 0 + _ ≤ 8; omega) d hcs⟩
  exact ⟨rfl, by rw [hU], ⟨by rw [hU]; exact hP, va_K.moved hW.alike hK, hD.weaken fun _ _ _ _ => trivial⟩, XB_call hXB hS hAA hU hW, hstt⟩
/-! Math.max, Math.min: their words -/
def MMk (own : String) (i : Nat) (y : MethodName) (bytes : ByteArray) : Prop := Cond.methodLink own i y ∈ lw_U ∧ Cond.static y ∈ lw_U ∧ Cond.initialized "java/lang/Math" ∈ lw_U ∧ Cond.code y bytes 2 (some .int) ∈ lw_U
theorem s_max (X : Cx SH G R C cc nL own ret nx) {i : Nat} {a b : Int} (w : MMk own i Lib.Math.max.name Lib.Math.max.code) (hf : 1 ≤ R.frames) (hloc : ((st.map (cv G.2.2.2)).map fun v => v.category).sum + 13 ≤ R.locals) (hcs : k ≤ R.cells ∧ n ≤ R.slots) (d : decode cc pc = .ok (.invokestatic i, 3)) (kk : J SH G R O C k n (pc + 3) L (VI (if a < b then b else a) :: st) mm) : J SH G R O C k n pc L (VI b :: VI a :: st) mm := by
  obtain ⟨p, e, s, m, args, below, meth, c, A0⟩ := C
  obtain ⟨hx, hb, hml, hown, hts, hK, hr, hlk, hex, hXB, hst, hA⟩ := X
  intro h1 h2 h3 H locs ls hP hD hS hl
  obtain ⟨w1, w2, w3, w4⟩ := w
  have ha : InR a := h2 (VI a) (List.mem_cons_of_mem _ List.mem_cons_self)
  have hb9 : InR b := h2 (VI b) List.mem_cons_self
  refine va_mmax hx hb hl.1.symm hown (hts _ w1) (hts _ w2) (hts _ w3) (hts _ w4) hf hloc hcs.1 hcs.2 (x := i32 a) (y := i32 b) d ?_
  have := kk h1 (ok_cons (by show InR _; split <;> assumption) (ok_tl (ok_tl h2))) h3 H locs ls hP hD hS hl
  have e1 : (if i32 a < i32 b then i32 b else i32 a) = i32 (if a < b then b else a) := by
    by_cases q : a < b
    · rw [if_pos q, if_pos ((i32_lt ha hb9).mpr q)]
    · rw [if_neg q, if_neg (fun z => q ((i32_lt ha hb9).mp z))]
  rw [e1]
  exact this
theorem s_min (X : Cx SH G R C cc nL own ret nx) {i : Nat} {a b : Int} (w : MMk own i Lib.Math.min.name Lib.Math.min.code) (hf : 1 ≤ R.frames) (hloc : ((st.map (cv G.2.2.2)).map fun v => v.category).sum + 13 ≤ R.locals) (hcs : k ≤ R.cells ∧ n ≤ R.slots) (d : decode cc pc = .ok (.invokestatic i, 3)) (kk : J SH G R O C k n (pc + 3) L (VI (if b < a then b else a) :: st) mm) : J SH G R O C k n pc L (VI b :: VI a :: st) mm := by
  obtain ⟨p, e, s, m, args, below, meth, c, A0⟩ := C
  obtain ⟨hx, hb, hml, hown, hts, hK, hr, hlk, hex, hXB, hst, hA⟩ := X
  intro h1 h2 h3 H locs ls hP hD hS hl
  obtain ⟨w1, w2, w3, w4⟩ := w
  have ha : InR a := h2 (VI a) (List.mem_cons_of_mem _ List.mem_cons_self)
  have hb9 : InR b := h2 (VI b) List.mem_cons_self
  refine va_mmin hx hb hl.1.symm hown (hts _ w1) (hts _ w2) (hts _ w3) (hts _ w4) hf hloc hcs.1 hcs.2 (x := i32 a) (y := i32 b) d ?_
  have := kk h1 (ok_cons (by show InR _; split <;> assumption) (ok_tl (ok_tl h2))) h3 H locs ls hP hD hS hl
  have e1 : (if i32 b < i32 a then i32 b else i32 a) = i32 (if b < a then b else a) := by
    by_cases q : b < a
    · rw [if_pos q, if_pos ((i32_lt hb9 ha).mpr q)]
    · rw [if_neg q, if_neg (fun z => q ((i32_lt hb9 ha).mp z))]
  rw [e1]
  exact this
end CL
