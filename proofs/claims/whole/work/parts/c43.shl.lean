/-! ===== the law's world: class, reference, two arrays ===== -/
def SHL : List Sh := SHC ++ (SHM.map (shSh 455) ++ [.inr (5, 1, none), .inr (6, 1, none)])
theorem lenC : SHC.length = 455 := by decide +kernel
theorem lenM : SHM.length = 34 := by decide +kernel
theorem shSh_0 (s : Sh) : shSh 0 s = s := by
  rcases s with ⟨a, b⟩ | ⟨t, n, b | b⟩
  · simp only [shSh, Nat.zero_add]
    congr 2
    exact (List.map_congr_left (fun q _ => by cases q <;> rfl)).trans (List.map_id b)
  · rfl
  · simp [shSh]
theorem segC : seg SHL SHC 0 := by
  intro k s h
  have hl : k < SHC.length := (List.getElem?_eq_some_iff.mp h).1
  unfold SHL
  rw [Nat.zero_add, List.getElem?_append_left hl, h, shSh_0]
theorem segM : seg SHL SHM 455 := by
  intro k s h
  have hl : k < SHM.length := (List.getElem?_eq_some_iff.mp h).1
  unfold SHL
  rw [List.getElem?_append_right (by rw [lenC]; omega), lenC, Nat.add_sub_cancel_left, List.getElem?_append_left (by simpa using hl), List.getElem?_map, h]
  rfl
theorem SHL_489 : SHL[489]? = some (.inr (5, 1, none)) := by rfl
theorem SHL_490 : SHL[490]? = some (.inr (6, 1, none)) := by rfl
theorem lenL : SHL.length = 491 := by decide +kernel
theorem SHL_0 : SHL[0]? = some (.inl (11, [some 1, some 29, some 31, some 109, some 114, some 119, some 345, some 355, some 400, some 431, some 442])) := by rfl
theorem offM_0 (m : Mem) : offM 0 m = m := by funext c i; unfold offM; rw [Nat.zero_add]
theorem offG_0 (G : Gl) : offG G 0 = G := by unfold offG; simp only [Nat.zero_add]
theorem offV_0 (v : V) : offV 0 v = v := by
  rcases v with z | a | x | x | x
  · rfl
  · show VR (0 + a) = VR a
    rw [Nat.zero_add]
  · rfl
  · rfl
  · rfl
/-- a class method's contract over the law's world -/
theorem con_C {G : Gl} {mm : Mem} {O1 : Res × Mem} {y : MethodName} {cc : ByteArray} {nL : Nat} {ret : Option FieldType} {rm : Room} {As : List V} (h : Con SHC G y cc nL ret rm As mm O1) : Con SHL G y cc nL ret rm As mm (O1.1, putM 0 455 mm O1.2) := by
  have e := con_lift (G := G) (mm := mm) (O1 := O1) segC (y := y) (cc := cc) (nL := nL) (ret := ret) (rm := rm) (As1 := As) (fun v _ => offV_0 v) (fun _ _ => by rw [offG_0, offM_0]; exact h)
  rw [lenC, show As.map (offV 0) = As from (List.map_congr_left (fun v _ => offV_0 v)).trans (List.map_id As)] at e
  exact e
/-- a reference method's contract over the law's world -/
theorem con_M {G : Gl} {mm : Mem} {O1 : Res × Mem} {y : MethodName} {cc : ByteArray} {nL : Nat} {ret : Option FieldType} {rm : Room} {As : List V} (hnr : ∀ v, O1.1 = .inl (some v) → offV 455 v = v) (h : Con SHM (offG G 455) y cc nL ret rm As (offM 455 mm) O1) : Con SHL G y cc nL ret rm (As.map (offV 455)) mm (O1.1, putM 455 34 mm O1.2) := by
  have e := con_lift (G := G) (mm := mm) (O1 := O1) segM (y := y) (cc := cc) (nL := nL) (ret := ret) (rm := rm) (As1 := As) hnr (fun _ _ => h)
  rw [lenM] at e
  exact e
/-- what a helper does: 0 and the value in the array, or the exception's number -/
def hout {α : Type} (w : α → Mem → Mem) (exs : List Nat) (r : (α ⊕ Nat) × Mem) (m : Mem) : Res × Mem := match r.1 with
  | .inl v => (.inl (some (VI 0)), w v (putM 0 455 m r.2))
  | .inr x => (.inl (some (VI (exs.idxOf x + 1 : Nat))), putM 0 455 m r.2)
def wrI (v : Int) (m : Mem) : Mem := setLM m 489 (Int64.ofInt v)
def wrB (v : Int) (m : Mem) : Mem := setLM m 489 (if v = 0 then Int64.ofNat 0 else Int64.ofNat 1)
def wrF (v : UInt32) (m : Mem) : Mem := setLM m 490 (FP.f2d v).toInt64
def wrD (v : UInt64) (m : Mem) : Mem := setLM m 490 v.toInt64
theorem cstT (x : Nat) : Cond.castable (XN x) (XN x) ∈ lw_tbl := by
  rcases x with _ | _ | _ | _ | _ | n
  · exact List.mem_of_getElem? (i := 661) (by decide +kernel)
  · exact List.mem_of_getElem? (i := 733) (by decide +kernel)
  · exact List.mem_of_getElem? (i := 792) (by decide +kernel)
  · exact List.mem_of_getElem? (i := 1599) (by decide +kernel)
  · exact List.mem_of_getElem? (i := 1074) (by decide +kernel)
  · show Cond.castable "java/util/NoSuchElementException" "java/util/NoSuchElementException" ∈ lw_tbl
    exact List.mem_of_getElem? (i := 837) (by decide +kernel)
theorem cl_L_13 : Cond.classLink "LastbusLaw" 13 "java/lang/IllegalArgumentException" ∈ lw_U := lw_Uin (i := 650) (by decide +kernel) rfl
theorem cl_L_15 : Cond.classLink "LastbusLaw" 15 "java/lang/IllegalStateException" ∈ lw_U := lw_Uin (i := 651) (by decide +kernel) rfl
theorem cl_L_21 : Cond.classLink "LastbusLaw" 21 "java/lang/IndexOutOfBoundsException" ∈ lw_U := lw_Uin (i := 754) (by decide +kernel) rfl
theorem cl_L_30 : Cond.classLink "LastbusLaw" 30 "java/util/NoSuchElementException" ∈ lw_U := lw_Uin (i := 817) (by decide +kernel) rfl
theorem cl_L_80 : Cond.classLink "LastbusLaw" 80 "java/lang/UnsupportedOperationException" ∈ lw_U := lw_Uin (i := 1038) (by decide +kernel) rfl
theorem cl_L_168 : Cond.classLink "LastbusLaw" 168 "java/lang/ArithmeticException" ∈ lw_U := lw_Uin (i := 1587) (by decide +kernel) rfl
