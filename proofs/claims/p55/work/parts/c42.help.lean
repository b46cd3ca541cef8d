/-! ===== CALLS WITH HANDLERS; methods with exception tables ===== -/
def ncT : List (String × String) := (([0, 1, 2, 5] : List Nat).flatMap fun i => ([0, 1, 2, 5] : List Nat).map fun j => (XN i, XN j)).filter fun q => q.1 != q.2
def NCs (U : State) : Prop := ∀ q ∈ ncT, va_Nc q.1 q.2 U
theorem NCs.moved {u U : State} (hvm : u.vm.Alike U.vm) (h : NCs u) : NCs U := fun q hq => (h q hq).moved hvm
def TBo (C : Ct) (hh : List (Nat × Nat × Nat × Nat)) : Prop := match C with
  | (_, _, _, _, _, _, _, c, _) => c.exceptionTable.toList = tableOf hh
def NCo (C : Ct) : Prop := match C with
  | (_, _, s, _, _, _, _, _, _) => NCs s
/-- a contract of a method with an exception table -/
def ConW (SH : List Sh) (G : Gl) (y : MethodName) (cc : ByteArray) (nL : Nat) (ret : Option FieldType) (hh : List (Nat × Nat × Nat × Nat)) (rm : Room) (As : List V) (mm : Mem) (O : Res × Mem) : Prop :=
  (∀ v ∈ As, okV v) → okM mm → ∀ sz : Nat, vx_Met G.1 y (Cond.codeWith y cc nL ret hh :: lw_U) rm (va_Pc (As.map (cv G.2.2.2)) (fun U => PB SH G sz mm U ∧ NCs U)) (QR SH G (va_A (wsOf SH G.2.2.1 G.2.2.2 mm) sz) O) (XR SH G (va_A (wsOf SH G.2.2.1 G.2.2.2 mm) sz) O) rm.cells rm.slots (va_A (wsOf SH G.2.2.1 G.2.2.2 mm) sz)
theorem conW_of {SH : List Sh} {G : Gl} {y : MethodName} {cc : ByteArray} {nL : Nat} {ret : Option FieldType} {hh : List (Nat × Nat × Nat × Nat)} {rm : Room} {As : List V} {mm : Mem} {O : Res × Mem} {own : String} (hy : plainName y.cls = true) (ho : y.cls = own) (hn : lenA As ≤ nL)
    (body : ∀ C : Ct, Cx SH G rm C cc nL own ret false → TBo C hh → NCo C → J SH G rm (.inl O) C 0 0 0 (argL 0 As) [] mm) : ConW SH G y cc nL ret hh rm As mm O := by
  intro hok hmm sz
  refine vx_ofWH (cc := cc) (maxL := nL) (ret := ret) (hh := hh) hy rfl ?_
  intro p e s m args below meth c s₁ B hml hv
  obtain ⟨rfl, ⟨hsz, ⟨hP, hK, hD⟩, hXB, hst⟩, hnc⟩ := hv
  have hts := atoms_spec (ws := Cond.codeWith y cc nL ret hh :: lw_U) B.pre
  have X : Cx SH G rm (p, e, s, m, (As.map (cv G.2.2.2)).toArray, below, meth, c, va_A (wsOf SH G.2.2.1 G.2.2.2 mm) sz) cc nL own ret false :=
    ⟨B.exec, B.bytes, hml, ho ▸ findClass_of_methodNamed B.named, fun w hw => hts w (List.mem_cons_of_mem _ hw), hK, B.returns, B.notSynchronized, fun h => (by cases h), hXB, hst, fun q h => Or.inr (hsz ▸ h)⟩
  have okA : ∀ (As : List V) (i : Nat), (∀ v ∈ As, okV v) → ∀ q ∈ argL i As, okV q.2 := by
    intro As
    induction As with
    | nil => intro i _ q hq; cases hq
    | cons v vs ih =>
      intro i h q hq
      rcases List.mem_cons.mp hq with rfl | hq
      · exact h v List.mem_cons_self
      · exact ih _ (fun x hx => h x (List.mem_cons_of_mem _ hx)) q hq
  have hl := lv_entry (As.map (cv G.2.2.2)) (n := nL) (by rw [lenA_sl]; exact hn)
  rw [argL_map] at hl
  have hj := body _ X (vx_table (x := y) B (hts _ List.mem_cons_self)) hnc (okA As 0 hok) (fun v h => by cases h) hmm s.heap [] _ hP hD.self va_S.rf (by show lv_has _ c.maxLocals _; rw [hml]; exact hl)
  rw [lg_entry_eq]
  exact hj
section CH
variable {SH : List Sh} {G : Gl} {R : Room} {O : OutT} {C : Ct} {k n pc : Nat} {L : List (Nat × V)} {st : List V} {mm : Mem} {cc : ByteArray} {nL : Nat} {own : String} {ret : Option FieldType} {nx : Bool}
/-- an exception is under way over this memory -/
def JX (SH : List Sh) (G : Gl) (R : Room) (O : OutT) (C : Ct) (k n pc : Nat) (L : List (Nat × V)) (m1 : Mem) (x : Nat) : Prop := match C with
  | (p, e, s, m, args, below, meth, c, A0) => okM m1 → ∀ (H1 : Heap) (locs1 : List Loc) (ls : Array Slot) (q9 : Nat) (ce : Cell) (stv : List Value), va_P G.2.1 vC (wsOf SH G.2.2.1 G.2.2.2 m1) H1 → va_D A0 (wsOf SH G.2.2.1 G.2.2.2 m1) → va_S A0 s.heap H1 locs1 → lv_has ls c.maxLocals (L.map fun q => (q.1, cv G.2.2.2 q.2)) → H1[q9]? = some ce → ce.vm = .none → s.vm.findClass (XN x) = some ce.cls → vx_W p G.1 e R s m args below meth c H1 locs1 k n (QJ SH G R O (p, e, s, m, args, below, meth, c, A0)) (F0 m pc ls stv) q9
theorem j_of_runH (X : Cx SH G R C cc nL own ret nx) {rm : Room} {O1 : Res × Mem} {st0 : List V} (hcs : k + rm.cells ≤ R.cells ∧ n + rm.slots ≤ R.slots)
    (hr : match C with | (p, e, s, m, args, below, meth, c, A0) => (∀ q ∈ L, okV q.2) → (∀ v ∈ st0, okV v) → okM mm → ∀ (H : Heap) (locs : List Loc) (ls : Array Slot), va_P G.2.1 vC (wsOf SH G.2.2.1 G.2.2.2 mm) H → va_D A0 (wsOf SH G.2.2.1 G.2.2.2 mm) → va_S A0 s.heap H locs → ls.size = c.maxLocals → ∃ a, vx_Run p G.1 e R s m args below meth c H locs k n rm.cells rm.slots (F0 m pc ls (st0.map (cv G.2.2.2))) (st.map (cv G.2.2.2)) (QR SH G (va_A (wsOf SH G.2.2.1 G.2.2.2 mm) H.size) O1 a) (XR SH G (va_A (wsOf SH G.2.2.1 G.2.2.2 mm) H.size) O1) (va_A (wsOf SH G.2.2.1 G.2.2.2 mm) H.size))
    (hst : ∀ v ∈ st, v ∈ st0) (kx : ∀ x, O1.1 = .inr x → JX SH G R O C (k + rm.cells) (n + rm.slots) pc L O1.2 x)
    (kk : ∀ v, O1.1 = .inl v → J SH G R O C (k + rm.cells) (n + rm.slots) (pc + 3) L (v.toList ++ st) O1.2) : J SH G R O C k n pc L st0 mm := by
  obtain ⟨p, e, s, m, args, below, meth, c, A0⟩ := C
  obtain ⟨hx, hb, hml, hown, hts, hK, hrr, hlk, hex, hXB, hstt, hA⟩ := X
  intro h1 h2 h3 H locs ls hP hD hS hl
  obtain ⟨a, hr⟩ := hr h1 h2 h3 H locs ls hP hD hS hl.1
  have hAA : ∀ q, va_A (wsOf SH G.2.2.1 G.2.2.2 mm) H.size q → A0 q := fun q h => h.elim (fun ⟨j, e9, hj⟩ => hD.2 j _ hj) (fun h => hA q (Nat.le_trans hS.1 h))
  refine w_of_run hr hS hAA ?_ ?_
  · intro v t H1 locs1 o1 o2 o3 ht hal ⟨hP1, hK1, hD1⟩ hS1
    have hj := kk v o1 h1 (fun x hx => (List.mem_append.mp hx).elim (fun h => by cases v with | none => cases h | some z => (rw [Option.toList_some, List.mem_singleton] at h; rw [h]; exact o2 z rfl)) (fun h => h2 x (hst x h))) o3 H1 locs1 ls (ht ▸ hP1) (hD1.weaken fun _ q _ h => hAA _ h) hS1 hl
    rw [List.map_append] at hj
    cases v <;> exact hj
  · intro x ce q9 t H1 locs1 o1 o3 ht hal ⟨hP1, hK1, hD1⟩ hS1 hce hcv hcl
    exact kx x o1 o3 H1 locs1 ls q9 ce _ (ht ▸ hP1) (hD1.weaken fun _ q _ h => hAA _ h) hS1 hl hce hcv hcl
/-- a handler that returns a number -/
def HCk (cc : ByteArray) (nL hp : Nat) (z : Int) : Prop := InR z ∧ ((∃ sl : Nat, sl < nL ∧ decode cc hp = .ok (.astore sl, 2) ∧ decode cc (hp + 2) = .ok (.iconst z, 1) ∧ decode cc (hp + 2 + 1) = .ok (.ireturn, 1)) ∨ (∃ sl : Fin 4, sl.val < nL ∧ decode cc hp = .ok (.astore_n sl, 1) ∧ decode cc (hp + 1) = .ok (.iconst z, 1) ∧ decode cc (hp + 1 + 1) = .ok (.ireturn, 1)))
/-- the handler of an exception: ahead of it are only handlers of other ones -/
def HDk (own : String) (hh : List (Nat × Nat × Nat × Nat)) (pc x hp : Nat) : Prop := ∃ (pre suf : List (Nat × Nat × Nat × Nat)) (t : Nat × Nat × Nat × Nat), hh = pre ++ t :: suf ∧ (∀ z ∈ pre, z.2.2.2 ≠ 0 ∧ ∃ nm : String, Cond.classLink own z.2.2.2 nm ∈ lw_U ∧ (XN x, nm) ∈ ncT) ∧ covers ⟨t.1, t.2.1, t.2.2.1, t.2.2.2⟩ pc = true ∧ t.2.2.2 ≠ 0 ∧ t.2.2.1 = hp ∧ Cond.classLink own t.2.2.2 (XN x) ∈ lw_U ∧ Cond.castable (XN x) (XN x) ∈ lw_tbl
theorem jx_catch (X : Cx SH G R C cc nL own (some .int) nx) {hh : List (Nat × Nat × Nat × Nat)} (tb : TBo C hh) (nc : NCo C) {x hp : Nat} {z : Int} {m1 : Mem} (hd : HDk own hh pc x hp) (hc : HCk cc nL hp z) (hk : k ≤ R.cells) (hn : n ≤ R.slots) (hO : isO O (.inl (some (VI z)), m1)) : JX SH G R O C k n pc L m1 x := by
  obtain ⟨p, e, s, m, args, below, meth, c, A0⟩ := C
  obtain ⟨hx, hb, hml, hown, hts, hK, hr, hlk, hex, hXB, hst, hA⟩ := X
  intro h3 H1 locs1 ls q9 ce stv hP hD hS hl hce hcv hcl
  obtain ⟨pre, suf, t, d1, d2, d3, d4, d5, d6, d7⟩ := hd
  have htb : c.exceptionTable.toList = tableOf hh := tb
  have hct : (Cond.castable (XN x) (XN x)).before args s = true := va_Nw.use rfl (hXB.2.2.2 _ (List.mem_filter.mpr ⟨d7, rfl⟩))
  refine vx_catch hown (tableOf pre) ⟨t.1, t.2.1, t.2.2.1, t.2.2.2⟩ (tableOf suf) (by rw [htb, d1]; simp [tableOf]) (fun z9 hz9 => ?_) d3 d4 (hts _ d6) hct hce hcv hcl ?_
  · obtain ⟨y9, hy9, rfl⟩ := List.mem_map.mp hz9
    obtain ⟨g1, nm, g2, g3⟩ := d2 y9 hy9
    exact Or.inr ⟨g1, nm, hts _ g2, nc _ g3⟩
  · show W p G.1 e R s m args below meth c H1 locs1 k n _ (F0 m t.2.2.1 ls [.ref q9])
    rw [d5]
    obtain ⟨hz, hc⟩ := hc
    have fin : ∀ (pc9 : Nat) (ls9 : Array Slot), lv_has ls9 c.maxLocals [] → decode cc pc9 = .ok (.iconst z, 1) → decode cc (pc9 + 1) = .ok (.ireturn, 1) → W p G.1 e R s m args below meth c H1 locs1 k n (QJ SH G R O (p, e, s, m, args, below, meth, c, A0)) (F0 m pc9 ls9 []) := by
      intro pc9 ls9 hl9 e1 e2
      refine lv_iconst hx hb e1 (v := i32 z) rfl ?_
      cases O with
      | inr q => exact hO.elim
      | inl o =>
      have hO : o = _ := hO
      subst hO
      refine W.widen hk hn (vx_ret ?_)
      exact W.iret hx hb hr (fun t ht hW => ⟨⟨some (VI z), rfl, rfl, fun x hx => by cases hx; exact hz, h3, ⟨by rw [ht]; exact hP, va_K.moved hW.alike hK, hD⟩⟩, hS.F ht⟩) hS.2.2 e2 hlk
    have hl0 : lv_has ls c.maxLocals [] := ⟨hl.1, hl.2.1, fun q hq => by cases hq⟩
    rcases hc with ⟨sl, s1, s2, s3, s4⟩ | ⟨sl, s1, s2, s3, s4⟩
    · exact lv_astore hx hb s2 hl0 (by rw [hml]; exact s1) rfl (fun ls' hl' => fin _ ls' ⟨hl'.1, hl'.2.1, fun q hq => by cases hq⟩ s3 s4)
    · exact lv_astore_n hx hb s2 rfl hl0 (by rw [hml]; exact s1) rfl (fun ls' hl' => fin _ ls' ⟨hl'.1, hl'.2.1, fun q hq => by cases hq⟩ s3 s4)
theorem s_callVH (X : Cx SH G R C cc nL own ret nx) {y : MethodName} {bytes : ByteArray} {nl i b ci : Nat} {ret1 : Option FieldType} {rm : Room} {As : List V} {O1 : Res × Mem} {st0 : List V} {fs : List (Option Nat)} {Tq : u_T} {Nq : Nat}
    (cw : CVk own i y bytes nl ret1 As.length) (sh : SH[b]? = some (.inl (ci, fs))) (hc : vC[ci]? = some (y.cls, Tq, Nq)) (d : decode cc pc = .ok (.invokevirtual i, 3)) (hM : Con SH G y bytes nl ret1 rm (VR b :: As) mm O1) (hst : st0 = As.reverse ++ VR b :: st)
    (hR : rm.frames + 1 ≤ R.frames ∧ 8 + (nl + 11) + rm.locals ≤ R.locals) (hcs : k + rm.cells ≤ R.cells ∧ n + rm.slots ≤ R.slots) (hcat : ((st.map (cv G.2.2.2)).map fun v => v.category).sum ≤ 8) (kx : ∀ x, O1.1 = .inr x → JX SH G R O C (k + rm.cells) (n + rm.slots) pc L O1.2 x)
    (kk : ∀ v, O1.1 = .inl v → J SH G R O C (k + rm.cells) (n + rm.slots) (pc + 3) L (v.toList ++ st) O1.2) : J SH G R O C k n pc L st0 mm := by
  subst hst
  refine j_of_runH X hcs ?_ (fun v hv => List.mem_append_right _ (List.mem_cons_of_mem _ hv)) kx kk
  obtain ⟨p, e, s, m, args, below, meth, c, A0⟩ := C
  obtain ⟨hx, hb, hml, hown, hts, hK, hrr, hlk, hex, hXB, hstt, hA⟩ := X
  intro h1 h2 h3 H locs ls hP hD hS hl
  obtain ⟨c1, c2, c3, c4, c5, c6⟩ := cw
  have hAA : ∀ q, va_A (wsOf SH G.2.2.1 G.2.2.2 mm) H.size q → A0 q := fun q h => h.elim (fun ⟨j, e9, hj⟩ => hD.2 j _ hj) (fun h => hA q (Nat.le_trans hS.1 h))
  have hM9 := hM (fun v hv => h2 v (by rcases List.mem_cons.mp hv with rfl | hv; exact List.mem_append_right _ List.mem_cons_self; exact List.mem_append_left _ (List.mem_reverse.mpr hv))) h3 H.size
  refine ⟨_, vx_runV (As := As.map (cv G.2.2.2)) (C := y.cls) (b := G.2.2.2 b) (n := As.length) ⟨hx, hb, hml, hown, hts⟩ hM9 ⟨callB_of As.length hts (gUc c5) rfl rfl rfl (hts _ c4) (hts _ c1) c6 hR, hts _ c2, hts _ c3⟩ ⟨PB_blind, va_recv hK hP hc (wsOf_at sh), fun U hU hW => ?_⟩ rfl (by simp) (by rw [hl, hml]) (by simp [List.map_append, List.map_reverse, cv]) (by show 2 * 0 + _ ≤ 8; omega) d hcs⟩
  exact ⟨by simp [cv], by rw [hU], ⟨by rw [hU]; exact hP, va_K.moved hW.alike hK, hD.weaken fun _ _ _ _ => trivial⟩, XB_call hXB hS hAA hU hW, hstt⟩
theorem noX {v : Option V} {m1 : Mem} {P : Nat → Prop} : ∀ x, (((.inl v, m1) : Res × Mem)).1 = .inr x → P x := fun x h => by cases h
/-- a static method's words, with an exception table -/
def CWk (own : String) (i : Nat) (y : MethodName) (bytes : ByteArray) (nl : Nat) (ret : Option FieldType) (hh : List (Nat × Nat × Nat × Nat)) (na : Nat) : Prop :=
  Cond.methodLink own i y ∈ lw_U ∧ Cond.static y ∈ lw_U ∧ Cond.initialized y.cls ∈ lw_U ∧ Cond.codeWith y bytes nl ret hh ∈ lw_U ∧
  (y.cls ≠ "java/lang/invoke/MethodHandle" ∧ y.cls ≠ "java/lang/invoke/VarHandle" ∧ (parseMethodDescriptor y.desc).map (fun d => d.parameters.length) = some na)
theorem PBN_blind {SH : List Sh} {G : Gl} {sz : Nat} {mm : Mem} {As : List Value} : FrameBlind (va_Pc As (fun U => PB SH G sz mm U ∧ NCs U)) := by
  intro a U g mk h
  have h1 := PB_blind (As := As) a U g mk ⟨h.1, h.2.1⟩
  exact ⟨h1.1, h1.2, h.2.2.moved (u := U) (U := U.calling g mk a) (Vm.Alike.refl U.vm)⟩
theorem s_callSW (X : Cx SH G R C cc nL own ret nx) (nc : NCo C) {hh : List (Nat × Nat × Nat × Nat)} {y : MethodName} {bytes : ByteArray} {nl i : Nat} {ret1 : Option FieldType} {rm : Room} {As : List V} {O1 : Res × Mem} {st0 : List V}
    (cw : CWk own i y bytes nl ret1 hh As.length) (d : decode cc pc = .ok (.invokestatic i, 3)) (hM : ConW SH G y bytes nl ret1 hh rm As mm O1) (hst : st0 = As.reverse ++ st)
    (hR : rm.frames + 1 ≤ R.frames ∧ 8 + (nl + 11) + rm.locals ≤ R.locals) (hcs : k + rm.cells ≤ R.cells ∧ n + rm.slots ≤ R.slots) (hcat : ((st.map (cv G.2.2.2)).map fun v => v.category).sum ≤ 8) (kx : ∀ x, O1.1 = .inr x → JX SH G R O C (k + rm.cells) (n + rm.slots) pc L O1.2 x)
    (kk : ∀ v, O1.1 = .inl v → J SH G R O C (k + rm.cells) (n + rm.slots) (pc + 3) L (v.toList ++ st) O1.2) : J SH G R O C k n pc L st0 mm := by
  subst hst
  refine j_of_runH X hcs ?_ (fun v hv => List.mem_append_right _ hv) kx kk
  obtain ⟨p, e, s, m, args, below, meth, c, A0⟩ := C
  obtain ⟨hx, hb, hml, hown, hts, hK, hrr, hlk, hex, hXB, hstt, hA⟩ := X
  intro h1 h2 h3 H locs ls hP hD hS hl
  obtain ⟨c1, c3, c4, c5, c6⟩ := cw
  have hAA : ∀ q, va_A (wsOf SH G.2.2.1 G.2.2.2 mm) H.size q → A0 q := fun q h => h.elim (fun ⟨j, e9, hj⟩ => hD.2 j _ hj) (fun h => hA q (Nat.le_trans hS.1 h))
  have hM9 := hM (fun v hv => h2 v (List.mem_append_left _ (List.mem_reverse.mpr hv))) h3 H.size
  refine ⟨_, vx_runSX (As := As.map (cv G.2.2.2)) (n := As.length) ⟨hx, hb, hml, hown, hts⟩ hM9 (vx_cwSW As.length hts (ws := Cond.codeWith y bytes nl ret1 hh :: lw_U) (fun w hw => ?_) rfl rfl rfl c6 hR) ⟨PBN_blind, fun U hU hW => ?_⟩ rfl (by simp) (by rw [hl, hml]) (by simp [List.map_append, List.map_reverse]) (by show 2 * 0 + _ ≤ 8; omega) d hcs⟩
  · have hw9 : w ∈ lw_U := by
      unfold va_wsS at hw
      simp only [List.mem_append, List.mem_cons, List.not_mem_nil, or_false] at hw
      rcases hw with (rfl | rfl | rfl) | rfl | hw
      all_goals first | exact c1 | exact c3 | exact c4 | exact c5 | exact hw
    exact gU w hw9
  · exact ⟨rfl, ⟨by rw [hU], ⟨by rw [hU]; exact hP, va_K.moved hW.alike hK, hD.weaken fun _ _ _ _ => trivial⟩, XB_call hXB hS hAA hU hW, hstt⟩, NCs.moved hW.alike nc⟩
end CH
