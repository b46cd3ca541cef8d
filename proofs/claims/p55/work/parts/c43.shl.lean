/-! ===== the law's world: class, six arrays ===== -/
def SHL : List Sh := SHC ++ [.inr (0, 1, none), .inr (0, 7, none), .inr (0, 36, none), .inr (0, 127, none), .inr (0, 6, none), .inr (0, 6, none)]
theorem lenC : SHC.length = 455 := by decide +kernel
theorem shSh_0 (s : Sh) : shSh 0 s = s := by
  rcases s with ⟨a, b⟩ | ⟨t, n, b | b⟩
  · simp only [shSh, Nat.zero_add]
    congr 2
    exact (List.map_congr_left (fun q _ => by cases q <;> rfl)).trans (List.map_id b)
  · rfl
  · simp [shSh]
theorem segC : seg SHL SHC 0 := by
  intro k s h
  have hl : k < SHC.length := (List.getElem?_eq_some_iff.mp h).1
  unfold SHL
  rw [Nat.zero_add, List.getElem?_append_left hl, h, shSh_0]
theorem lenL : SHL.length = 461 := by decide +kernel
theorem SHL_455 : SHL[455]? = some (.inr (0, 1, none)) := by rfl
theorem SHL_456 : SHL[456]? = some (.inr (0, 7, none)) := by rfl
theorem SHL_457 : SHL[457]? = some (.inr (0, 36, none)) := by rfl
theorem SHL_458 : SHL[458]? = some (.inr (0, 127, none)) := by rfl
theorem SHL_459 : SHL[459]? = some (.inr (0, 6, none)) := by rfl
theorem SHL_460 : SHL[460]? = some (.inr (0, 6, none)) := by rfl
theorem SHL_0 : SHL[0]? = some (.inl (11, [some 1, some 29, some 31, some 109, some 114, some 119, some 345, some 355, some 400, some 431, some 442])) := by rfl
theorem offM_0 (m : Mem) : offM 0 m = m := by funext c i; unfold offM; rw [Nat.zero_add]
theorem offG_0 (G : Gl) : offG G 0 = G := by unfold offG; simp only [Nat.zero_add]
theorem offV_0 (v : V) : offV 0 v = v := by
  rcases v with z | a | x | x | x
  · rfl
  · show VR (0 + a) = VR a
    rw [Nat.zero_add]
  · rfl
  · rfl
  · rfl
/-- a class method's contract over the law's world -/
theorem con_C {G : Gl} {mm : Mem} {O1 : Res × Mem} {y : MethodName} {cc : ByteArray} {nL : Nat} {ret : Option FieldType} {rm : Room} {As : List V} (h : Con SHC G y cc nL ret rm As mm O1) : Con SHL G y cc nL ret rm As mm (O1.1, putM 0 455 mm O1.2) := by
  have e := con_lift (G := G) (mm := mm) (O1 := O1) segC (y := y) (cc := cc) (nL := nL) (ret := ret) (rm := rm) (As1 := As) (fun v _ => offV_0 v) (fun _ _ => by rw [offG_0, offM_0]; exact h)
  rw [lenC, show As.map (offV 0) = As from (List.map_congr_left (fun v _ => offV_0 v)).trans (List.map_id As)] at e
  exact e
theorem cstT_0 : Cond.castable (XN 0) (XN 0) ∈ lw_tbl := List.mem_of_getElem? (i := 516) (by decide +kernel)
theorem cstT_1 : Cond.castable (XN 1) (XN 1) ∈ lw_tbl := List.mem_of_getElem? (i := 822) (by decide +kernel)
theorem cstT_2 : Cond.castable (XN 2) (XN 2) ∈ lw_tbl := List.mem_of_getElem? (i := 881) (by decide +kernel)
theorem cstT_5 : Cond.castable (XN 5) (XN 5) ∈ lw_tbl := List.mem_of_getElem? (i := 1017) (by decide +kernel)
theorem cl_L_13 : Cond.classLink "LastbusLaw" 13 "java/lang/IllegalArgumentException" ∈ lw_U := lw_Uin (i := 503) (by decide +kernel) rfl
theorem cl_L_16 : Cond.classLink "LastbusLaw" 16 "java/lang/IllegalStateException" ∈ lw_U := lw_Uin (i := 815) (by decide +kernel) rfl
theorem cl_L_23 : Cond.classLink "LastbusLaw" 23 "java/lang/IndexOutOfBoundsException" ∈ lw_U := lw_Uin (i := 843) (by decide +kernel) rfl
theorem cl_L_47 : Cond.classLink "LastbusLaw" 47 "java/util/NoSuchElementException" ∈ lw_U := lw_Uin (i := 1003) (by decide +kernel) rfl
