/-! ===== P55: more rows: products that wrap around, handlers that return a number of the pool, the law's own methods ===== -/
section MB
variable {SH : List Sh} {G : Gl} {R : Room} {O : OutT} {C : Ct} {k n pc : Nat} {L : List (Nat × V)} {st : List V} {mm : Mem} {cc : ByteArray} {nL : Nat} {own : String} {ret : Option FieldType} {nx : Bool}
theorem s_imulW (X : Cx SH G R C cc nL own ret nx) {a b : Int} (d : decode cc pc = .ok (.imul, 1)) (kk : J SH G R O C k n (pc + 1) L (VI (wr32 (a * b)) :: st) mm) : J SH G R O C k n pc L (VI b :: VI a :: st) mm := by
  obtain ⟨p, e, s, m, args, below, meth, c, A0⟩ := C
  obtain ⟨hx, hb, hml, hown, hts, hK, hr, hlk, hex, hXB, hst, hA⟩ := X
  intro h1 h2 h3 H locs ls hP hD hS hl
  refine lv_imul hx hb d ?_
  have := kk h1 (ok_cons (InR_of _) (ok_tl (ok_tl h2))) h3 H locs ls hP hD hS hl
  rw [i32_mul, show i32 (a * b) = i32 (wr32 (a * b)) from (i32_of _).symm]
  exact this
theorem s_one {t : Int} (e : t = 1) (kk : J SH G R O C k n pc L [VI 1] mm) : J SH G R O C k n pc L [VI t] mm := by
  subst e
  exact kk
theorem s_le {k' n' : Nat} (h1 : k ≤ k') (h2 : n ≤ n') (kk : J SH G R O C k' n' pc L st mm) : J SH G R O C k n pc L st mm := s_kn (Nat.ble_eq_true_of_le h1) (Nat.ble_eq_true_of_le h2) kk
/-- a handler that returns a number of the pool -/
def HCl (own : String) (cc : ByteArray) (nL hp i : Nat) (z : Int) : Prop := InR z ∧ Cond.constant own i (i32 z) ∈ lw_U ∧ ((∃ sl : Nat, sl < nL ∧ decode cc hp = .ok (.astore sl, 2) ∧ decode cc (hp + 2) = .ok (.ldc i, 2) ∧ decode cc (hp + 2 + 2) = .ok (.ireturn, 1)) ∨ (∃ sl : Fin 4, sl.val < nL ∧ decode cc hp = .ok (.astore_n sl, 1) ∧ decode cc (hp + 1) = .ok (.ldc i, 2) ∧ decode cc (hp + 1 + 2) = .ok (.ireturn, 1)))
theorem jx_catchL (X : Cx SH G R C cc nL own (some .int) nx) {hh : List (Nat × Nat × Nat × Nat)} (tb : TBo C hh) (nc : NCo C) {x hp i : Nat} {z : Int} {m1 : Mem} (hd : HDk own hh pc x hp) (hc : HCl own cc nL hp i z) (hk : k ≤ R.cells) (hn : n ≤ R.slots) (hO : isO O (.inl (some (VI z)), m1)) : JX SH G R O C k n pc L m1 x := by
  obtain ⟨p, e, s, m, args, below, meth, c, A0⟩ := C
  obtain ⟨hx, hb, hml, hown, hts, hK, hr, hlk, hex, hXB, hst, hA⟩ := X
  intro h3 H1 locs1 ls q9 ce stv hP hD hS hl hce hcv hcl
  obtain ⟨pre, suf, t, d1, d2, d3, d4, d5, d6, d7⟩ := hd
  have htb : c.exceptionTable.toList = tableOf hh := tb
  have hct : (Cond.castable (XN x) (XN x)).before args s = true := va_Nw.use rfl (hXB.2.2.2 _ (List.mem_filter.mpr ⟨d7, rfl⟩))
  refine vx_catch hown (tableOf pre) ⟨t.1, t.2.1, t.2.2.1, t.2.2.2⟩ (tableOf suf) (by rw [htb, d1]; simp [tableOf]) (fun z9 hz9 => ?_) d3 d4 (hts _ d6) hct hce hcv hcl ?_
  · obtain ⟨y9, hy9, rfl⟩ := List.mem_map.mp hz9
    obtain ⟨g1, nm, g2, g3⟩ := d2 y9 hy9
    exact Or.inr ⟨g1, nm, hts _ g2, nc _ g3⟩
  · show W p G.1 e R s m args below meth c H1 locs1 k n _ (F0 m t.2.2.1 ls [.ref q9])
    rw [d5]
    obtain ⟨hz, hw, hc⟩ := hc
    have fin : ∀ (pc9 : Nat) (ls9 : Array Slot), lv_has ls9 c.maxLocals [] → decode cc pc9 = .ok (.ldc i, 2) → decode cc (pc9 + 2) = .ok (.ireturn, 1) → W p G.1 e R s m args below meth c H1 locs1 k n (QJ SH G R O (p, e, s, m, args, below, meth, c, A0)) (F0 m pc9 ls9 []) := by
      intro pc9 ls9 hl9 e1 e2
      refine lv_ldc hx hb hown (hts _ hw) e1 ?_
      cases O with
      | inr q => exact hO.elim
      | inl o =>
      have hO : o = _ := hO
      subst hO
      refine W.widen hk hn (vx_ret ?_)
      exact W.iret hx hb hr (fun t ht hW => ⟨⟨some (VI z), rfl, rfl, fun x hx => by cases hx; exact hz, h3, ⟨by rw [ht]; exact hP, va_K.moved hW.alike hK, hD⟩⟩, hS.F ht⟩) hS.2.2 e2 hlk
    have hl0 : lv_has ls c.maxLocals [] := ⟨hl.1, hl.2.1, fun q hq => by cases hq⟩
    rcases hc with ⟨sl, s1, s2, s3, s4⟩ | ⟨sl, s1, s2, s3, s4⟩
    · exact lv_astore hx hb s2 hl0 (by rw [hml]; exact s1) rfl (fun ls' hl' => fin _ ls' ⟨hl'.1, hl'.2.1, fun q hq => by cases hq⟩ s3 s4)
    · exact lv_astore_n hx hb s2 rfl hl0 (by rw [hml]; exact s1) rfl (fun ls' hl' => fin _ ls' ⟨hl'.1, hl'.2.1, fun q hq => by cases hq⟩ s3 s4)
end MB
/-- the contract of a method of the law's own that has no exception table -/
def ConM (SH : List Sh) (G : Gl) (y : MethodName) (cc : ByteArray) (nL : Nat) (ret : Option FieldType) (rm : Room) (As : List V) (mm : Mem) (O : Res × Mem) : Prop :=
  (∀ v ∈ As, okV v) → okM mm → ∀ sz : Nat, vx_Met G.1 y (Cond.code y cc nL ret :: lw_U) rm (va_Pc (As.map (cv G.2.2.2)) (fun U => PB SH G sz mm U ∧ NCs U)) (QR SH G (va_A (wsOf SH G.2.2.1 G.2.2.2 mm) sz) O) (XR SH G (va_A (wsOf SH G.2.2.1 G.2.2.2 mm) sz) O) rm.cells rm.slots (va_A (wsOf SH G.2.2.1 G.2.2.2 mm) sz)
theorem conM_of {SH : List Sh} {G : Gl} {y : MethodName} {cc : ByteArray} {nL : Nat} {ret : Option FieldType} {rm : Room} {As : List V} {mm : Mem} {O : Res × Mem} {own : String} (hy : plainName y.cls = true) (ho : y.cls = own) (hn : lenA As ≤ nL)
    (body : ∀ C : Ct, Cx SH G rm C cc nL own ret true → NCo C → J SH G rm (.inl O) C 0 0 0 (argL 0 As) [] mm) : ConM SH G y cc nL ret rm As mm O := by
  intro hok hmm sz
  refine vx_ofW (cc := cc) (maxL := nL) (ret := ret) hy rfl ?_
  intro p e s m args below meth c s₁ B hml hex hv
  obtain ⟨rfl, ⟨hsz, ⟨hP, hK, hD⟩, hXB, hst⟩, hnc⟩ := hv
  have hts := atoms_spec (ws := Cond.code y cc nL ret :: lw_U) B.pre
  have X : Cx SH G rm (p, e, s, m, (As.map (cv G.2.2.2)).toArray, below, meth, c, va_A (wsOf SH G.2.2.1 G.2.2.2 mm) sz) cc nL own ret true :=
    ⟨B.exec, B.bytes, hml, ho ▸ findClass_of_methodNamed B.named, fun w hw => hts w (List.mem_cons_of_mem _ hw), hK, B.returns, B.notSynchronized, fun _ => hex, hXB, hst, fun q h => Or.inr (hsz ▸ h)⟩
  have okA : ∀ (As : List V) (i : Nat), (∀ v ∈ As, okV v) → ∀ q ∈ argL i As, okV q.2 := by
    intro As
    induction As with
    | nil => intro i _ q hq; cases hq
    | cons v vs ih =>
      intro i h q hq
      rcases List.mem_cons.mp hq with rfl | hq
      · exact h v List.mem_cons_self
      · exact ih _ (fun x hx => h x (List.mem_cons_of_mem _ hx)) q hq
  have hl := lv_entry (As.map (cv G.2.2.2)) (n := nL) (by rw [lenA_sl]; exact hn)
  rw [argL_map] at hl
  have hj := body _ X hnc (okA As 0 hok) (fun v h => by cases h) hmm s.heap [] _ hP hD.self va_S.rf (by show lv_has _ c.maxLocals _; rw [hml]; exact hl)
  rw [lg_entry_eq]
  exact hj
section MC
variable {SH : List Sh} {G : Gl} {R : Room} {O : OutT} {C : Ct} {k n pc : Nat} {L : List (Nat × V)} {st : List V} {mm : Mem} {cc : ByteArray} {nL : Nat} {own : String} {ret : Option FieldType} {nx : Bool}
theorem s_callSM (X : Cx SH G R C cc nL own ret nx) (nc : NCo C) {y : MethodName} {bytes : ByteArray} {nl i : Nat} {ret1 : Option FieldType} {rm : Room} {As : List V} {O1 : Res × Mem} {st0 : List V}
    (cw : CSk own i y bytes nl ret1 As.length) (d : decode cc pc = .ok (.invokestatic i, 3)) (hM : ConM SH G y bytes nl ret1 rm As mm O1) (hst : st0 = As.reverse ++ st)
    (hR : rm.frames + 1 ≤ R.frames ∧ 8 + (nl + 11) + rm.locals ≤ R.locals) (hcs : k + rm.cells ≤ R.cells ∧ n + rm.slots ≤ R.slots) (hcat : ((st.map (cv G.2.2.2)).map fun v => v.category).sum ≤ 8) (kx : ∀ x, O1.1 = .inr x → JX SH G R O C (k + rm.cells) (n + rm.slots) pc L O1.2 x)
    (kk : ∀ v, O1.1 = .inl v → J SH G R O C (k + rm.cells) (n + rm.slots) (pc + 3) L (v.toList ++ st) O1.2) : J SH G R O C k n pc L st0 mm := by
  subst hst
  refine j_of_runH X hcs ?_ (fun v hv => List.mem_append_right _ hv) kx kk
  obtain ⟨p, e, s, m, args, below, meth, c, A0⟩ := C
  obtain ⟨hx, hb, hml, hown, hts, hK, hrr, hlk, hex, hXB, hstt, hA⟩ := X
  intro h1 h2 h3 H locs ls hP hD hS hl
  obtain ⟨c1, c3, c4, c5, c6⟩ := cw
  have hAA : ∀ q, va_A (wsOf SH G.2.2.1 G.2.2.2 mm) H.size q → A0 q := fun q h => h.elim (fun ⟨j, e9, hj⟩ => hD.2 j _ hj) (fun h => hA q (Nat.le_trans hS.1 h))
  have hM9 := hM (fun v hv => h2 v (List.mem_append_left _ (List.mem_reverse.mpr hv))) h3 H.size
  refine ⟨_, vx_runS (As := As.map (cv G.2.2.2)) (n := As.length) ⟨hx, hb, hml, hown, hts⟩ hM9 ⟨callB_of As.length hts (gUc c5) rfl rfl rfl (hts _ c4) (hts _ c1) c6 hR, hts _ c3⟩ ⟨PBN_blind, fun U hU hW => ?_⟩ rfl (by simp) (by rw [hl, hml]) (by simp [List.map_append, List.map_reverse]) (by show 2 * 0 + _ ≤ 8; omega) d hcs⟩
  exact ⟨rfl, ⟨by rw [hU], ⟨by rw [hU]; exact hP, va_K.moved hW.alike hK, hD.weaken fun _ _ _ _ => trivial⟩, XB_call hXB hS hAA hU hW, hstt⟩, NCs.moved hW.alike nc⟩
end MC
