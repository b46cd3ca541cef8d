section NR3
variable {SH : List Sh} {G : Gl} {R : Room} {Q : State → Prop} {C : Ct} {ex : List Nat} {a ci k n pc : Nat} {L : List (Nat × FV)} {st fk : List FV} {S : List Sh} {m : Mem} {pd : (Nat → Nat) → va_W} {cc : ByteArray} {nL : Nat} {own : String} {ret : Option FieldType} {nx : Bool}
/-- a row of references, filled up to r -/
def rowsC (ta : Nat → ClassId) (q N b s r : Nat) (al : Nat → Nat) : Nat × va_E := (q, .inl (ta 4, N, .inr (.inr (.inr (.inr (fun j => if j < r then some (al (b + s * j)) else none))))))
theorem pd_rows {ta : Nat → ClassId} {q N b s r M : Nat} (h : ∀ j, j < r → b + s * j < M) (hM : M ≤ S.length) : pdok S (fun al => [rowsC ta q N b s r al]) := by
  intro al al' hag
  unfold rowsC
  have e : (fun j => if j < r then some (al' (b + s * j)) else none) = (fun j => if j < r then some (al (b + s * j)) else none) := by
    funext j
    by_cases hj : j < r
    · rw [if_pos hj, if_pos hj, hag _ (Nat.lt_of_lt_of_le (h j hj) hM)]
    · rw [if_neg hj, if_neg hj]
  simp only [e]
theorem n_anew (X : Cx SH G R C cc nL own ret nx) {i N b s : Nat} (wl : Cond.classLink own i "Lastbus$Labels" ∈ lw_U) (hao : AOc C) (hN : N ≤ 1000) (hg : S.length = ex.length) (hw : wfN L st fk S = true) (hpd : pdok S pd) (hcells : k + 1 ≤ R.cells) (hslots : n + N ≤ R.slots) (d : decode cc pc = .ok (.anewarray i, 3))
    (kk : ∀ q : Nat, NJ G R Q C (ex ++ [q]) a ci (k + 1) (n + N) (pc + 3) L (.inr S.length :: st) fk (S ++ [.inr (0, 0, none)]) m (fun al => pd al ++ [rowsC G.2.2.1 q N b s 0 al])) : NJ G R Q C ex a ci k n pc L (.inl (.int (i32 N)) :: st) fk S m pd := by
  obtain ⟨p, e, s9, m9, args, below, meth, c, A0⟩ := C
  obtain ⟨hx, hb, hml, hown, hts, hK, hr, hlk, hex, hXB, hst, hA⟩ := X
  intro al H locs ls hx9 hP hD hS hl
  have hin : InR (N : Int) := ⟨by omega, by omega⟩
  have hnn : ¬ i32 (N : Int) < 0 := fun q => by
    have : i32 (N : Int) < i32 0 := q
    rw [i32_lt hin ⟨by omega, by omega⟩] at this
    omega
  refine va_newq hx hb (C := "Lastbus$Labels") hown (hts _ wl) hao.2 hK hP hD hS hA (N' := N) hnn (by rw [i32_nat (by omega) hin]; omega) (by omega) hcells hslots d (fun q cA H1 hK1 hP1 hD1 hS1 => ?_)
  have hcA : cA = G.2.2.1 4 := by
    have h1 := (hK1.2 (tysC G.2.2.1).length (cA, .object "Lastbus$Labels") (by rw [List.getElem?_append_right (Nat.le_refl _), Nat.sub_self]; rfl)).2
    have h2 := (hK.2 4 (G.2.2.1 4, .object "Lastbus$Labels") rfl).2
    obtain ⟨_, _, _, _, _, f1⟩ := h1
    obtain ⟨_, _, _, _, _, f2⟩ := h2
    exact Option.some.inj (f1.symm.trans f2)
  subst hcA
  simp only [wfN, Bool.and_eq_true] at hw
  obtain ⟨w1, w2, w3, w4⟩ := hw
  let al' : Nat → Nat := fun i => if i = S.length then q else al i
  have hag : ∀ i, i < S.length → al' i = al i := fun i h => if_neg (by omega)
  have hq : al' S.length = q := if_pos rfl
  have hx8 : exok (ex ++ [q]) al' := fun j b9 hj => by
    by_cases h9 : j < ex.length
    · rw [List.getElem?_append_left h9] at hj
      rw [hag j (by omega)]
      exact hx9 j b9 hj
    · rw [List.getElem?_append_right (by omega)] at hj
      have h0 : j - ex.length < 1 := (List.getElem?_eq_some_iff.mp hj).1
      rw [show j - ex.length = 0 by omega] at hj
      cases hj
      rw [show j = S.length by omega]
      exact hq
  have hp : (nW G.2.2.1 ex.length a ci fk S m pd al) ++ [(q, (.inl (G.2.2.1 4, N, .inr (.inr (.inr (.inr (fun _ => none))))) : va_E))] = nW G.2.2.1 (ex ++ [q]).length a ci fk (S ++ [.inr (0, 0, none)]) m (fun al => pd al ++ [rowsC G.2.2.1 q N b s 0 al]) al' := by
    unfold nW
    have d1 : (wsOf (S ++ [.inr (0, 0, none)]) G.2.2.1 al' m).drop (ex ++ [q]).length = [] := List.drop_eq_nil_of_le (by rw [wsOf_len, List.length_append, List.length_append]; show S.length + 1 ≤ ex.length + 1; omega)
    have d2 : (wsOf S G.2.2.1 al m).drop ex.length = [] := List.drop_eq_nil_of_le (by rw [wsOf_len]; omega)
    rw [d1, d2, fvs_al hag w3]
    show _ :: (([] ++ pd al) ++ _) = _ :: ([] ++ (pd al' ++ _))
    rw [hpd al al' hag]
    rfl
  rw [hp] at hP1 hD1
  have hj := kk q al' H1 locs ls hx8 hP1 hD1 hS1 (by
    have e : (L.map fun q => (q.1, fvv al' q.2)) = L.map fun q => (q.1, fvv al q.2) := List.map_congr_left fun x hx => by rw [fvv_al hag (List.all_eq_true.mp w1 x hx)]
    rw [e]
    exact hl)
  rw [List.map_cons, fvs_al hag w2, show fvv al' (.inr S.length) = .ref q from congrArg Value.ref hq] at hj
  exact hj
theorem n_aast (X : Cx SH G R C cc nL own ret nx) {q N b s r g id : Nat} {fs : List (Option Nat)} (hid : id = b + s * r) (hgx : ex[g]? = some q) (hge : ex.length ≤ id) (sh : S[id]? = some (.inl (2, fs))) (hr9 : r < N) (hN : N ≤ 1000) (d : decode cc pc = .ok (.aastore, 1))
    (kk : NJ G R Q C ex a ci k n (pc + 1) L st fk S m (fun al => [rowsC G.2.2.1 q N b s (r + 1) al])) : NJ G R Q C ex a ci k n pc L (.inr id :: .inl (.int (i32 r)) :: .inr g :: st) fk S m (fun al => [rowsC G.2.2.1 q N b s r al]) := by
  obtain ⟨p, e, s9, m9, args, below, meth, c, A0⟩ := C
  obtain ⟨hx, hb, hml, hown, hts, hK, hr, hlk, hex, hXB, hst, hA⟩ := X
  intro al H locs ls hx9 hP hD hS hl
  have hin : InR (r : Int) := ⟨by omega, by omega⟩
  have hil : id < S.length := (List.getElem?_eq_some_iff.mp sh).1
  have hq : al g = q := hx9 g q hgx
  have hnt : (i32 (r : Int)).toNatClampNeg = r := by rw [i32_nat (by omega) hin]; omega
  have p0 : (nW G.2.2.1 ex.length a ci fk S m (fun al => [rowsC G.2.2.1 q N b s r al]) al)[1 + (S.length - ex.length)]? = some (q, .inl (G.2.2.1 4, N, .inr (.inr (.inr (.inr (fun j => if j < r then some (al (b + s * j)) else none)))))) := by
    unfold nW
    rw [Nat.add_comm, List.getElem?_cons_succ, List.getElem?_append_right (by rw [List.length_drop, wsOf_len]; exact Nat.le_refl _), List.length_drop, wsOf_len, Nat.sub_self]
    rfl
  have p1 : (nW G.2.2.1 ex.length a ci fk S m (fun al => [rowsC G.2.2.1 q N b s r al]) al)[1 + (id - ex.length)]? = some (al id, .inr (2, fs.zipIdx.map (fvl al m id))) := by
    unfold nW
    rw [Nat.add_comm, List.getElem?_cons_succ, List.getElem?_append_left (by rw [List.length_drop, wsOf_len]; omega), List.getElem?_drop, show ex.length + (id - ex.length) = id by omega]
    exact wsOf_at sh
  refine va_astq (v := al id) (a := q) hx hb hK hP hD hS (1 + (S.length - ex.length)) 4 (1 + (id - ex.length)) 2 (r := (RX2, TX2, 3)) p0 rfl p1 rfl (i32_in (by omega) (by omega) hin) d (fun H1 locs1 hP1 hD1 hS1 => ?_) |> fun z => by rw [← hq] at z; exact z
  have hp : (nW G.2.2.1 ex.length a ci fk S m (fun al => [rowsC G.2.2.1 q N b s r al]) al).set (1 + (S.length - ex.length)) (q, .inl (G.2.2.1 4, N, .inr (.inr (.inr (.inr (va_up (fun j => if j < r then some (al (b + s * j)) else none) (i32 (r : Int)).toNatClampNeg (some (al id)))))))) = nW G.2.2.1 ex.length a ci fk S m (fun al => [rowsC G.2.2.1 q N b s (r + 1) al]) al := by
    unfold nW
    rw [Nat.add_comm 1, List.set_cons_succ, List.set_append_right _ _ (by rw [List.length_drop, wsOf_len]; exact Nat.le_refl _), List.length_drop, wsOf_len, Nat.sub_self, hnt]
    have e : va_up (fun j => if j < r then some (al (b + s * j)) else none) r (some (al id)) = fun j => if j < r + 1 then some (al (b + s * j)) else none := by
      funext j
      unfold va_up
      by_cases h1 : j = r
      · subst h1
        rw [if_pos rfl, if_pos (by omega), hid]
      · rw [if_neg h1]
        show (if j < r then some (al (b + s * j)) else none) = _
        by_cases h2 : j < r
        · rw [if_pos h2, if_pos (by omega)]
        · rw [if_neg h2, if_neg (by omega)]
    rw [e]
    rfl
  rw [hp] at hP1 hD1
  exact kk al H1 locs1 ls hx9 hP1 hD1 hS1 hl
/-- the row is full: it takes its place -/
theorem n_unghost {q N b s g : Nat} (hge : ex.length = g) (hgS : g < S.length) (kk : NJ G R Q C ex a ci k n pc L st fk (S.set g (.inr (4, N, some (b, s)))) m (fun _ => [])) : NJ G R Q C (ex ++ [q]) a ci k n pc L st fk S m (fun al => [rowsC G.2.2.1 q N b s N al]) := by
  obtain ⟨p, e, s9, m9, args, below, meth, c, A0⟩ := C
  intro al H locs ls hx9 hP hD hS hl
  have hq : al g = q := hx9 g q (by rw [List.getElem?_append_right (by omega), ← hge, Nat.sub_self]; rfl)
  have hx8 : exok ex al := fun j b9 hj => hx9 j b9 (by rw [List.getElem?_append_left (List.getElem?_eq_some_iff.mp hj).1]; exact hj)
  have e1 : (wsOf (S.set g (.inr (4, N, some (b, s)))) G.2.2.1 al m).drop g = rowsC G.2.2.1 q N b s N al :: (wsOf S G.2.2.1 al m).drop (g + 1) := by
    apply List.ext_getElem?
    intro j
    rw [List.getElem?_drop]
    cases j with
    | zero =>
      rw [Nat.add_zero, wsOf_at (sh := .inr (4, N, some (b, s))) (by rw [List.getElem?_set_self hgS]), hq]
      rfl
    | succ j =>
      rw [List.getElem?_cons_succ, List.getElem?_drop, show g + 1 + j = g + (j + 1) by omega]
      cases hj : S[g + (j + 1)]? with
      | none =>
        have h2 : (S.set g (.inr (4, N, some (b, s))))[g + (j + 1)]? = none := by rw [List.getElem?_set_ne (by omega), hj]
        simp [wsOf, List.getElem?_map, List.getElem?_zipIdx, hj, h2]
      | some sh =>
        rw [wsOf_at hj, wsOf_at (by rw [List.getElem?_set_ne (by omega), hj])]
  have hp : (nW G.2.2.1 (ex ++ [q]).length a ci fk S m (fun al => [rowsC G.2.2.1 q N b s N al]) al).Perm (nW G.2.2.1 ex.length a ci fk (S.set g (.inr (4, N, some (b, s)))) m (fun _ => []) al) := by
    unfold nW
    rw [List.append_nil, hge, e1, List.length_append, hge]
    exact List.Perm.cons _ List.perm_append_comm
  exact kk al H locs ls hx8 (va_P_mem (fun x hx => hp.mem_iff.mpr hx) hP) (va_D_perm hp hD) hS hl
theorem n_istore (X : Cx SH G R C cc nL own ret nx) {i : Fin 4} {z : Int} {L' : List (Nat × FV)} (hL : L' = (i.val, .inl (.int (i32 z))) :: L) (hno : ∀ q ∈ L, q.1 ≠ i.val ∧ ∀ x, q.2 ≠ .inl x ∨ x.category = 1) (hi : i.val < nL) (d : decode cc pc = .ok (.istore_n i, 1)) (kk : NJ G R Q C ex a ci k n (pc + 1) L' st fk S m pd) : NJ G R Q C ex a ci k n pc L (.inl (.int (i32 z)) :: st) fk S m pd := by
  obtain ⟨p, e, s9, m9, args, below, meth, c, A0⟩ := C
  obtain ⟨hx, hb, hml, -⟩ := X
  intro al H locs ls hx9 hP hD hS hl
  subst hL
  refine lv_istore_n hx hb d rfl hl (by rw [hml]; exact hi) (lv' := (i.val, Value.int (i32 z)) :: L.map fun (q : Nat × FV) => (q.1, fvv al q.2)) ?_ (fun ls' hl' => kk al H locs ls' hx9 hP hD hS hl')
  congr 1
  rw [List.filter_eq_self]
  intro q hq
  obtain ⟨q0, h0, rfl⟩ := List.mem_map.mp hq
  obtain ⟨h1, h2⟩ := hno q0 h0
  have h3 : (fvv al q0.2).category ≠ 2 := by
    rcases hq2 : q0.2 with v | id
    · rcases h2 v with h4 | h4
      · exact absurd hq2 h4
      · show v.category ≠ 2
        rw [h4]
        omega
    · show (Value.ref (al id)).category ≠ 2
      simp [Value.category]
  simp [h1, h3]
theorem n_iload (X : Cx SH G R C cc nL own ret nx) {i : Fin 4} {z : Int} (j : Nat) (hj : L[j]? = some (i.val, .inl (.int (i32 z)))) (d : decode cc pc = .ok (.iload_n i, 1)) (kk : NJ G R Q C ex a ci k n (pc + 1) L (.inl (.int (i32 z)) :: st) fk S m pd) : NJ G R Q C ex a ci k n pc L st fk S m pd := by
  obtain ⟨p, e, s9, m9, args, below, meth, c, A0⟩ := C
  obtain ⟨hx, hb, -⟩ := X
  intro al H locs ls hx9 hP hD hS hl
  exact lv_iload_n hx hb d rfl (nl_cat hl j hj) (kk al H locs ls hx9 hP hD hS hl)
theorem n_iinc (X : Cx SH G R C cc nL own ret nx) {i : Nat} {q z : Int} {L0 L' : List (Nat × FV)} (h0 : L = (i, .inl (.int (i32 z))) :: L0) (hL : L' = (i, .inl (.int (i32 (z + q)))) :: L0) (hno : ∀ q ∈ L0, q.1 ≠ i ∧ ∀ x, q.2 ≠ .inl x ∨ x.category = 1) (hi : i < nL) (d : decode cc pc = .ok (.iinc i q, 3)) (kk : NJ G R Q C ex a ci k n (pc + 3) L' st fk S m pd) : NJ G R Q C ex a ci k n pc L st fk S m pd := by
  obtain ⟨p, e, s9, m9, args, below, meth, c, A0⟩ := C
  obtain ⟨hx, hb, hml, -⟩ := X
  intro al H locs ls hx9 hP hD hS hl
  subst hL
  subst h0
  refine lv_iinc hx hb d hl (k := 0) (x := i32 z) (v := i32 (z + q)) rfl (i32_add z q) (by rw [hml]; exact hi) (lv' := (i, Value.int (i32 (z + q))) :: L0.map fun (q : Nat × FV) => (q.1, fvv al q.2)) ?_ (fun ls' hl' => kk al H locs ls' hx9 hP hD hS hl')
  congr 1
  rw [List.map_cons, List.filter_cons_of_neg (by simp [fvv])]
  rw [List.filter_eq_self]
  intro q1 hq
  obtain ⟨q0, h0, rfl⟩ := List.mem_map.mp hq
  obtain ⟨h1, h2⟩ := hno q0 h0
  have h3 : (fvv al q0.2).category ≠ 2 := by
    rcases hq2 : q0.2 with v | id
    · rcases h2 v with h4 | h4
      · exact absurd hq2 h4
      · show v.category ≠ 2
        rw [h4]
        omega
    · show (Value.ref (al id)).category ≠ 2
      simp [Value.category]
  simp [h1, h3]
theorem n_gt_t (X : Cx SH G R C cc nL own ret nx) {x y : Int} {off : Int} {tgt : Nat} (hx1 : InR x) (hy1 : InR y) (h : y < x) (d : decode cc pc = .ok (.if_icmp .gt off, 3)) (ht : (pc : Int) + off = (tgt : Int)) (kk : NJ G R Q C ex a ci k n tgt L st fk S m pd) : NJ G R Q C ex a ci k n pc L (.inl (.int (i32 y)) :: .inl (.int (i32 x)) :: st) fk S m pd := by
  obtain ⟨p, e, s9, m9, args, below, meth, c, A0⟩ := C
  obtain ⟨hx, hb, -⟩ := X
  intro al H locs ls hx9 hP hD hS hl
  exact lv_icmp_gt hx hb d ht (fun _ => kk al H locs ls hx9 hP hD hS hl) (fun q => absurd ((i32_lt hy1 hx1).mpr h) q)
theorem n_gt_f (X : Cx SH G R C cc nL own ret nx) {x y : Int} {off : Int} (hx1 : InR x) (hy1 : InR y) (h : ¬ y < x) (d : decode cc pc = .ok (.if_icmp .gt off, 3)) (tgt : Nat) (ht : (pc : Int) + off = (tgt : Int)) (kk : NJ G R Q C ex a ci k n (pc + 3) L st fk S m pd) : NJ G R Q C ex a ci k n pc L (.inl (.int (i32 y)) :: .inl (.int (i32 x)) :: st) fk S m pd := by
  obtain ⟨p, e, s9, m9, args, below, meth, c, A0⟩ := C
  obtain ⟨hx, hb, -⟩ := X
  intro al H locs ls hx9 hP hD hS hl
  exact lv_icmp_gt hx hb d ht (fun q => absurd ((i32_lt hy1 hx1).mp q) h) (fun _ => kk al H locs ls hx9 hP hD hS hl)
theorem n_goto (X : Cx SH G R C cc nL own ret nx) {off : Int} {tgt : Nat} (d : decode cc pc = .ok (.goto off, 3)) (ht : (pc : Int) + off = (tgt : Int)) (kk : NJ G R Q C ex a ci k n tgt L st fk S m pd) : NJ G R Q C ex a ci k n pc L st fk S m pd := by
  obtain ⟨p, e, s9, m9, args, below, meth, c, A0⟩ := C
  obtain ⟨hx, hb, -⟩ := X
  intro al H locs ls hx9 hP hD hS hl
  exact lv_goto hx hb d ht (kk al H locs ls hx9 hP hD hS hl)
end NR3
theorem hno_X4 (a : Nat) : ∀ q ∈ ([(0, .inl (.ref a)), (1, .inr 0), (2, .inr 1)] : List (Nat × FV)), q.1 ≠ 3 ∧ ∀ x, q.2 ≠ .inl x ∨ x.category = 1 := by
  intro q hq
  simp only [List.mem_cons, List.not_mem_nil, or_false] at hq
  rcases hq with rfl | rfl | rfl
  · refine ⟨by show (0 : Nat) ≠ 3; omega, fun x => ?_⟩
    by_cases h : x = .ref a
    · exact Or.inr (by rw [h]; rfl)
    · exact Or.inl (fun e => h (Sum.inl.inj e).symm)
  · exact ⟨by decide, fun x => Or.inl (fun e => by cases e)⟩
  · exact ⟨by decide, fun x => Or.inl (fun e => by cases e)⟩
set_option maxRecDepth 100000 in
theorem cd_X4_init : Cond.code yX4_init cX4_init 4 none ∈ lw_U := lw_Uin (i := 345) (rfl) rfl
theorem ol_X4 : Cond.methodLink "Lastbus$Rounds" 3 Lib.objectInit ∈ lw_U := lw_Uin (i := 346) (by decide +kernel) rfl
theorem clQ_X4_9 : Cond.classLink "Lastbus$Rounds" 9 "Lastbus$Labels" ∈ lw_U := lw_Uin (i := 347) (by decide +kernel) rfl
theorem ff_X4_11 : FFk "Lastbus$Rounds" 11 4 2 (.array (.object "Lastbus$Labels")) := ⟨RX4, TX4, 9, tyX4, rfl, by omega, inU_X4, lw_Uin (i := 352) (by decide +kernel) rfl, rfl, tyX4_ok, nmX4, rfl, rfl, by decide +kernel⟩
theorem ff_X4_17 : FFk "Lastbus$Rounds" 17 4 5 (.array .int) := ⟨RX4, TX4, 9, tyX4, rfl, by omega, inU_X4, lw_Uin (i := 358) (by decide +kernel) rfl, rfl, tyX4_ok, nmX4, rfl, rfl, by decide +kernel⟩
theorem ff_X4_21 : FFk "Lastbus$Rounds" 21 4 6 (.array .int) := ⟨RX4, TX4, 9, tyX4, rfl, by omega, inU_X4, lw_Uin (i := 360) (by decide +kernel) rfl, rfl, tyX4_ok, nmX4, rfl, rfl, by decide +kernel⟩
theorem ff_X4_24 : FFk "Lastbus$Rounds" 24 4 7 (.array .int) := ⟨RX4, TX4, 9, tyX4, rfl, by omega, inU_X4, lw_Uin (i := 362) (by decide +kernel) rfl, rfl, tyX4_ok, nmX4, rfl, rfl, by decide +kernel⟩
theorem ff_X4_27 : FFk "Lastbus$Rounds" 27 4 8 (.array .int) := ⟨RX4, TX4, 9, tyX4, rfl, by omega, inU_X4, lw_Uin (i := 364) (by decide +kernel) rfl, rfl, tyX4_ok, nmX4, rfl, rfl, by decide +kernel⟩
theorem ff_X4_30 : FFk "Lastbus$Rounds" 30 4 0 (.object "Lastbus$Stops") := ⟨RX4, TX4, 9, tyX4, rfl, by omega, inU_X4, lw_Uin (i := 350) (by decide +kernel) rfl, rfl, tyX4_ok, nmX4, rfl, rfl, by decide +kernel⟩
theorem ff_X4_34 : FFk "Lastbus$Rounds" 34 4 1 (.object "Lastbus$Net") := ⟨RX4, TX4, 9, tyX4, rfl, by omega, inU_X4, lw_Uin (i := 351) (by decide +kernel) rfl, rfl, tyX4_ok, nmX4, rfl, rfl, by decide +kernel⟩
theorem fkN_X4_11 : FLk "Lastbus$Rounds" 11 4 2 := ⟨RX4, TX4, 9, rfl, by omega, inU_X4, lw_Uin (i := 352) (by decide +kernel) rfl, rfl⟩
theorem no_X4_9 : Cond.classLink "Lastbus$Rounds" 9 "Lastbus$Labels" ∈ lw_U ∧ Cond.instantiable "Lastbus$Labels" 3 ∈ lw_U ∧ Cond.initialized "Lastbus$Labels" ∈ lw_U := ⟨lw_Uin (i := 347) (by decide +kernel) rfl, lw_Uin (i := 288) (by decide +kernel) rfl, lw_Uin (i := 40) (by decide +kernel) rfl⟩
theorem ci_X4_38 : CIk "Lastbus$Rounds" 38 yX2_init cX2_init 2 1 := ⟨Or.inr (lw_Uin (i := 349) (by decide +kernel) rfl), lw_Uin (i := 290) (by decide +kernel) rfl, lw_Uin (i := 40) (by decide +kernel) rfl, cd_X2_init, rfl, ⟨by decide +kernel, by decide +kernel, by decide +kernel⟩⟩
def SN_X4 : List Sh := [.inr (0, 0, none), .inr (0, 0, none), .inr (4, 13, some (7, 3)), .inr (0, 12, none), .inr (0, 12, none), .inr (0, 12, none), .inr (0, 12, none), .inl (2, [some 0, some 8, some 9]), .inr (0, 12, none), .inr (0, 12, none), .inl (2, [some 0, some 11, some 12]), .inr (0, 12, none), .inr (0, 12, none), .inl (2, [some 0, some 14, some 15]), .inr (0, 12, none), .inr (0, 12, none), .inl (2, [some 0, some 17, some 18]), .inr (0, 12, none), .inr (0, 12, none), .inl (2, [some 0, some 20, some 21]), .inr (0, 12, none), .inr (0, 12, none), .inl (2, [some 0, some 23, some 24]), .inr (0, 12, none), .inr (0, 12, none), .inl (2, [some 0, some 26, some 27]), .inr (0, 12, none), .inr (0, 12, none), .inl (2, [some 0, some 29, some 30]), .inr (0, 12, none), .inr (0, 12, none), .inl (2, [some 0, some 32, some 33]), .inr (0, 12, none), .inr (0, 12, none), .inl (2, [some 0, some 35, some 36]), .inr (0, 12, none), .inr (0, 12, none), .inl (2, [some 0, some 38, some 39]), .inr (0, 12, none), .inr (0, 12, none), .inl (2, [some 0, some 41, some 42]), .inr (0, 12, none), .inr (0, 12, none), .inl (2, [some 0, some 44, some 45]), .inr (0, 12, none), .inr (0, 12, none)]
def rm_N_X4 : Room := { frames := 2, cells := 44, slots := 412, locals := 33 }
def fkT_X4 : List FV := [.inr 0, .inr 1, .inr 2, .inl (.int 0), .inl (.int 0), .inr 3, .inr 4, .inr 5, .inr 6]
set_option maxRecDepth 100000 in
set_option maxHeartbeats 4000000 in
theorem N_X4 (G : Gl) (ex : List Nat) (hex : ex.length = 2) : ConN G yX4_init cX4_init 4 rm_N_X4 4 [.null, .null, .null, .int 0, .int 0, .null, .null, .null, .null] ex fkT_X4 SN_X4 zM := by
  obtain ⟨b0, b1, rfl⟩ : ∃ b0 b1 , ex = [b0, b1] := by
    match ex, hex with
    | [b0, b1], _ => exact ⟨_, _, rfl⟩
  refine conN_of (own := "Lastbus$Rounds") (by decide) rfl rfl (Nat.le_of_ble_eq_true rfl) (fun a C X nm ao => ?_)
  show NJ G rm_N_X4 (QN G rm_N_X4 C [b0, b1] a 4 fkT_X4 SN_X4 zM) C [b0, b1] a 4 0 0 0 [(0, .inl (.ref a)), (1, .inr 0), (2, .inr 1)] [] [.inl .null, .inl .null, .inl .null, .inl (.int 0), .inl (.int 0), .inl .null, .inl .null, .inl .null, .inl .null] [.inr (0, 0, none), .inr (0, 0, none)] zM (fun _ => [])
  refine n_load X 0 rfl dX4_init_0 ?_
  refine n_objInit X ol_X4 oi_i oi_c rfl dX4_init_1 (Nat.le_of_ble_eq_true rfl) (Nat.le_of_ble_eq_true rfl) ?_
  refine n_load X 0 rfl dX4_init_4 ?_
  refine n_bipush X (by omega) dX4_init_5 ?_
  refine n_anew (N := 13) (b := 7) (s := 3) X clQ_X4_9 ao (by omega) rfl rfl (fun _ _ _ => rfl) (Nat.le_of_ble_eq_true rfl) (Nat.le_of_ble_eq_true rfl) dX4_init_7 (fun q0 => ?_)
  show NJ G rm_N_X4 _ C ([b0, b1] ++ [q0]) a 4 _ _ _ _ _ _ _ _ (fun al => [rowsC G.2.2.1 q0 13 7 3 0 al])
  refine n_putF (v := .inr 2) X nm ff_X4_11 (fun _ => ⟨rfl, rfl⟩) (Nat.le_of_ble_eq_true rfl) dX4_init_10 ?_
  refine n_load X 0 rfl dX4_init_13 ?_
  refine n_bipush X (by omega) dX4_init_14 ?_
  refine n_newa (t := 0) (N := 12) X (at9 := .int) (ty := .int) rfl rfl (fun _ _ => Iff.rfl) ac_int (fun _ => rfl) (by omega) (by decide) (fun _ => rfl) (Nat.le_of_ble_eq_true rfl) rfl (pd_rows (M := 3) (fun j h => by omega) (Nat.le_of_ble_eq_true rfl)) (Nat.le_of_ble_eq_true rfl) (Nat.le_of_ble_eq_true rfl) dX4_init_16 ?_
  refine n_putF (v := .inr 3) X nm ff_X4_17 (fun _ => ⟨rfl, rfl⟩) (Nat.le_of_ble_eq_true rfl) dX4_init_18 ?_
  refine n_load X 0 rfl dX4_init_21 ?_
  refine n_bipush X (by omega) dX4_init_22 ?_
  refine n_newa (t := 0) (N := 12) X (at9 := .int) (ty := .int) rfl rfl (fun _ _ => Iff.rfl) ac_int (fun _ => rfl) (by omega) (by decide) (fun _ => rfl) (Nat.le_of_ble_eq_true rfl) rfl (pd_rows (M := 4) (fun j h => by omega) (Nat.le_of_ble_eq_true rfl)) (Nat.le_of_ble_eq_true rfl) (Nat.le_of_ble_eq_true rfl) dX4_init_24 ?_
  refine n_putF (v := .inr 4) X nm ff_X4_21 (fun _ => ⟨rfl, rfl⟩) (Nat.le_of_ble_eq_true rfl) dX4_init_26 ?_
  refine n_load X 0 rfl dX4_init_29 ?_
  refine n_bipush X (by omega) dX4_init_30 ?_
  refine n_newa (t := 0) (N := 12) X (at9 := .int) (ty := .int) rfl rfl (fun _ _ => Iff.rfl) ac_int (fun _ => rfl) (by omega) (by decide) (fun _ => rfl) (Nat.le_of_ble_eq_true rfl) rfl (pd_rows (M := 5) (fun j h => by omega) (Nat.le_of_ble_eq_true rfl)) (Nat.le_of_ble_eq_true rfl) (Nat.le_of_ble_eq_true rfl) dX4_init_32 ?_
  refine n_putF (v := .inr 5) X nm ff_X4_24 (fun _ => ⟨rfl, rfl⟩) (Nat.le_of_ble_eq_true rfl) dX4_init_34 ?_
  refine n_load X 0 rfl dX4_init_37 ?_
  refine n_bipush X (by omega) dX4_init_38 ?_
  refine n_newa (t := 0) (N := 12) X (at9 := .int) (ty := .int) rfl rfl (fun _ _ => Iff.rfl) ac_int (fun _ => rfl) (by omega) (by decide) (fun _ => rfl) (Nat.le_of_ble_eq_true rfl) rfl (pd_rows (M := 6) (fun j h => by omega) (Nat.le_of_ble_eq_true rfl)) (Nat.le_of_ble_eq_true rfl) (Nat.le_of_ble_eq_true rfl) dX4_init_40 ?_
  refine n_putF (v := .inr 6) X nm ff_X4_27 (fun _ => ⟨rfl, rfl⟩) (Nat.le_of_ble_eq_true rfl) dX4_init_42 ?_
  refine n_load X 0 rfl dX4_init_45 ?_
  refine n_loadI X 1 rfl dX4_init_46 ?_
  refine n_putF (v := .inr 0) X nm ff_X4_30 (fun _ => ⟨rfl, rfl⟩) (Nat.le_of_ble_eq_true rfl) dX4_init_47 ?_
  refine n_load X 0 rfl dX4_init_50 ?_
  refine n_loadI X 2 rfl dX4_init_51 ?_
  refine n_putF (v := .inr 1) X nm ff_X4_34 (fun _ => ⟨rfl, rfl⟩) (Nat.le_of_ble_eq_true rfl) dX4_init_52 ?_
  refine n_const X dX4_init_55 ?_
  refine n_istore (z := 0) (L' := [(3, .inl (.int (i32 0))), (0, .inl (.ref a)), (1, .inr 0), (2, .inr 1)]) X rfl (hno_X4 a) (by decide) dX4_init_56 ?_
  refine n_iload (z := 0) X 0 rfl dX4_init_57 ?_
  refine n_bipush X (by omega) dX4_init_58 ?_
  refine n_gt_f (x := 0) (y := 12) X (by unfold InR; omega) (by unfold InR; omega) (by omega) dX4_init_60 83 (by omega) ?_
  refine n_load X 1 rfl dX4_init_63 ?_
  refine n_get (v := .inr 2) X fkN_X4_11 rfl dX4_init_64 ?_
  refine n_iload (z := 0) X 0 rfl dX4_init_67 ?_
  refine n_newo (cx := 2) (fs := [.null, .null, .null]) X rfl inU_X2 tyX2_ok no_X4_9.1 no_X4_9.2.1 no_X4_9.2.2 df_X2 (Nat.le_of_ble_eq_true rfl) (Nat.le_of_ble_eq_true rfl) dX4_init_68 (fun q => ?_)
  refine n_dup X dX4_init_71 ?_
  refine n_loadI X 2 rfl dX4_init_72 ?_
  refine n_init (q := q) (av := [0]) (fkc := fkT_X2) (fsh := [some 0, some 8, some 9]) (Sc := SN_X2) (mc := zM) X ao ci_X4_38 (fun exc h => N_X2 G exc h) rfl (fun al9 alc9 h9 => by
      have e0 : al9 0 = alc9 0 := h9 0 (by decide)
      have e1 : al9 8 = alc9 1 := h9 1 (by decide)
      have e2 : al9 9 = alc9 2 := h9 2 (by decide)
      show [Value.ref (al9 0), Value.ref (al9 8), Value.ref (al9 9)] = _
      rw [e0, e1, e2]
      rfl) (fun c _ i => rfl) (Nat.le_of_ble_eq_true rfl) rfl (pd_rows (M := 7) (fun j h => by omega) (Nat.le_of_ble_eq_true rfl)) rfl rfl (Nat.le_of_ble_eq_true rfl) ⟨Nat.le_of_ble_eq_true rfl, Nat.le_of_ble_eq_true rfl⟩ ⟨Nat.le_of_ble_eq_true rfl, Nat.le_of_ble_eq_true rfl⟩ (fun _ => Nat.le_of_ble_eq_true rfl) dX4_init_73 ?_
  refine n_aast (id := 7) (r := 0) (g := 2) X rfl rfl (Nat.le_of_ble_eq_true rfl) rfl (by omega) (by omega) dX4_init_76 ?_
  refine n_iinc (z := 0) (L' := [(3, .inl (.int (i32 1))), (0, .inl (.ref a)), (1, .inr 0), (2, .inr 1)]) X rfl rfl (hno_X4 a) (by decide) dX4_init_77 ?_
  refine n_goto (tgt := 57) X dX4_init_80 (by omega) ?_
  refine n_iload (z := 1) X 0 rfl dX4_init_57 ?_
  refine n_bipush X (by omega) dX4_init_58 ?_
  refine n_gt_f (x := 1) (y := 12) X (by unfold InR; omega) (by unfold InR; omega) (by omega) dX4_init_60 83 (by omega) ?_
  refine n_load X 1 rfl dX4_init_63 ?_
  refine n_get (v := .inr 2) X fkN_X4_11 rfl dX4_init_64 ?_
  refine n_iload (z := 1) X 0 rfl dX4_init_67 ?_
  refine n_newo (cx := 2) (fs := [.null, .null, .null]) X rfl inU_X2 tyX2_ok no_X4_9.1 no_X4_9.2.1 no_X4_9.2.2 df_X2 (Nat.le_of_ble_eq_true rfl) (Nat.le_of_ble_eq_true rfl) dX4_init_68 (fun q => ?_)
  refine n_dup X dX4_init_71 ?_
  refine n_loadI X 2 rfl dX4_init_72 ?_
  refine n_init (q := q) (av := [0]) (fkc := fkT_X2) (fsh := [some 0, some 11, some 12]) (Sc := SN_X2) (mc := zM) X ao ci_X4_38 (fun exc h => N_X2 G exc h) rfl (fun al9 alc9 h9 => by
      have e0 : al9 0 = alc9 0 := h9 0 (by decide)
      have e1 : al9 11 = alc9 1 := h9 1 (by decide)
      have e2 : al9 12 = alc9 2 := h9 2 (by decide)
      show [Value.ref (al9 0), Value.ref (al9 11), Value.ref (al9 12)] = _
      rw [e0, e1, e2]
      rfl) (fun c _ i => rfl) (Nat.le_of_ble_eq_true rfl) rfl (pd_rows (M := 10) (fun j h => by omega) (Nat.le_of_ble_eq_true rfl)) rfl rfl (Nat.le_of_ble_eq_true rfl) ⟨Nat.le_of_ble_eq_true rfl, Nat.le_of_ble_eq_true rfl⟩ ⟨Nat.le_of_ble_eq_true rfl, Nat.le_of_ble_eq_true rfl⟩ (fun _ => Nat.le_of_ble_eq_true rfl) dX4_init_73 ?_
  refine n_aast (id := 10) (r := 1) (g := 2) X rfl rfl (Nat.le_of_ble_eq_true rfl) rfl (by omega) (by omega) dX4_init_76 ?_
  refine n_iinc (z := 1) (L' := [(3, .inl (.int (i32 2))), (0, .inl (.ref a)), (1, .inr 0), (2, .inr 1)]) X rfl rfl (hno_X4 a) (by decide) dX4_init_77 ?_
  refine n_goto (tgt := 57) X dX4_init_80 (by omega) ?_
  refine n_iload (z := 2) X 0 rfl dX4_init_57 ?_
  refine n_bipush X (by omega) dX4_init_58 ?_
  refine n_gt_f (x := 2) (y := 12) X (by unfold InR; omega) (by unfold InR; omega) (by omega) dX4_init_60 83 (by omega) ?_
  refine n_load X 1 rfl dX4_init_63 ?_
  refine n_get (v := .inr 2) X fkN_X4_11 rfl dX4_init_64 ?_
  refine n_iload (z := 2) X 0 rfl dX4_init_67 ?_
  refine n_newo (cx := 2) (fs := [.null, .null, .null]) X rfl inU_X2 tyX2_ok no_X4_9.1 no_X4_9.2.1 no_X4_9.2.2 df_X2 (Nat.le_of_ble_eq_true rfl) (Nat.le_of_ble_eq_true rfl) dX4_init_68 (fun q => ?_)
  refine n_dup X dX4_init_71 ?_
  refine n_loadI X 2 rfl dX4_init_72 ?_
  refine n_init (q := q) (av := [0]) (fkc := fkT_X2) (fsh := [some 0, some 14, some 15]) (Sc := SN_X2) (mc := zM) X ao ci_X4_38 (fun exc h => N_X2 G exc h) rfl (fun al9 alc9 h9 => by
      have e0 : al9 0 = alc9 0 := h9 0 (by decide)
      have e1 : al9 14 = alc9 1 := h9 1 (by decide)
      have e2 : al9 15 = alc9 2 := h9 2 (by decide)
      show [Value.ref (al9 0), Value.ref (al9 14), Value.ref (al9 15)] = _
      rw [e0, e1, e2]
      rfl) (fun c _ i => rfl) (Nat.le_of_ble_eq_true rfl) rfl (pd_rows (M := 13) (fun j h => by omega) (Nat.le_of_ble_eq_true rfl)) rfl rfl (Nat.le_of_ble_eq_true rfl) ⟨Nat.le_of_ble_eq_true rfl, Nat.le_of_ble_eq_true rfl⟩ ⟨Nat.le_of_ble_eq_true rfl, Nat.le_of_ble_eq_true rfl⟩ (fun _ => Nat.le_of_ble_eq_true rfl) dX4_init_73 ?_
  refine n_aast (id := 13) (r := 2) (g := 2) X rfl rfl (Nat.le_of_ble_eq_true rfl) rfl (by omega) (by omega) dX4_init_76 ?_
  refine n_iinc (z := 2) (L' := [(3, .inl (.int (i32 3))), (0, .inl (.ref a)), (1, .inr 0), (2, .inr 1)]) X rfl rfl (hno_X4 a) (by decide) dX4_init_77 ?_
  refine n_goto (tgt := 57) X dX4_init_80 (by omega) ?_
  refine n_iload (z := 3) X 0 rfl dX4_init_57 ?_
  refine n_bipush X (by omega) dX4_init_58 ?_
  refine n_gt_f (x := 3) (y := 12) X (by unfold InR; omega) (by unfold InR; omega) (by omega) dX4_init_60 83 (by omega) ?_
  refine n_load X 1 rfl dX4_init_63 ?_
  refine n_get (v := .inr 2) X fkN_X4_11 rfl dX4_init_64 ?_
  refine n_iload (z := 3) X 0 rfl dX4_init_67 ?_
  refine n_newo (cx := 2) (fs := [.null, .null, .null]) X rfl inU_X2 tyX2_ok no_X4_9.1 no_X4_9.2.1 no_X4_9.2.2 df_X2 (Nat.le_of_ble_eq_true rfl) (Nat.le_of_ble_eq_true rfl) dX4_init_68 (fun q => ?_)
  refine n_dup X dX4_init_71 ?_
  refine n_loadI X 2 rfl dX4_init_72 ?_
  refine n_init (q := q) (av := [0]) (fkc := fkT_X2) (fsh := [some 0, some 17, some 18]) (Sc := SN_X2) (mc := zM) X ao ci_X4_38 (fun exc h => N_X2 G exc h) rfl (fun al9 alc9 h9 => by
      have e0 : al9 0 = alc9 0 := h9 0 (by decide)
      have e1 : al9 17 = alc9 1 := h9 1 (by decide)
      have e2 : al9 18 = alc9 2 := h9 2 (by decide)
      show [Value.ref (al9 0), Value.ref (al9 17), Value.ref (al9 18)] = _
      rw [e0, e1, e2]
      rfl) (fun c _ i => rfl) (Nat.le_of_ble_eq_true rfl) rfl (pd_rows (M := 16) (fun j h => by omega) (Nat.le_of_ble_eq_true rfl)) rfl rfl (Nat.le_of_ble_eq_true rfl) ⟨Nat.le_of_ble_eq_true rfl, Nat.le_of_ble_eq_true rfl⟩ ⟨Nat.le_of_ble_eq_true rfl, Nat.le_of_ble_eq_true rfl⟩ (fun _ => Nat.le_of_ble_eq_true rfl) dX4_init_73 ?_
  refine n_aast (id := 16) (r := 3) (g := 2) X rfl rfl (Nat.le_of_ble_eq_true rfl) rfl (by omega) (by omega) dX4_init_76 ?_
  refine n_iinc (z := 3) (L' := [(3, .inl (.int (i32 4))), (0, .inl (.ref a)), (1, .inr 0), (2, .inr 1)]) X rfl rfl (hno_X4 a) (by decide) dX4_init_77 ?_
  refine n_goto (tgt := 57) X dX4_init_80 (by omega) ?_
  refine n_iload (z := 4) X 0 rfl dX4_init_57 ?_
  refine n_bipush X (by omega) dX4_init_58 ?_
  refine n_gt_f (x := 4) (y := 12) X (by unfold InR; omega) (by unfold InR; omega) (by omega) dX4_init_60 83 (by omega) ?_
  refine n_load X 1 rfl dX4_init_63 ?_
  refine n_get (v := .inr 2) X fkN_X4_11 rfl dX4_init_64 ?_
  refine n_iload (z := 4) X 0 rfl dX4_init_67 ?_
  refine n_newo (cx := 2) (fs := [.null, .null, .null]) X rfl inU_X2 tyX2_ok no_X4_9.1 no_X4_9.2.1 no_X4_9.2.2 df_X2 (Nat.le_of_ble_eq_true rfl) (Nat.le_of_ble_eq_true rfl) dX4_init_68 (fun q => ?_)
  refine n_dup X dX4_init_71 ?_
  refine n_loadI X 2 rfl dX4_init_72 ?_
  refine n_init (q := q) (av := [0]) (fkc := fkT_X2) (fsh := [some 0, some 20, some 21]) (Sc := SN_X2) (mc := zM) X ao ci_X4_38 (fun exc h => N_X2 G exc h) rfl (fun al9 alc9 h9 => by
      have e0 : al9 0 = alc9 0 := h9 0 (by decide)
      have e1 : al9 20 = alc9 1 := h9 1 (by decide)
      have e2 : al9 21 = alc9 2 := h9 2 (by decide)
      show [Value.ref (al9 0), Value.ref (al9 20), Value.ref (al9 21)] = _
      rw [e0, e1, e2]
      rfl) (fun c _ i => rfl) (Nat.le_of_ble_eq_true rfl) rfl (pd_rows (M := 19) (fun j h => by omega) (Nat.le_of_ble_eq_true rfl)) rfl rfl (Nat.le_of_ble_eq_true rfl) ⟨Nat.le_of_ble_eq_true rfl, Nat.le_of_ble_eq_true rfl⟩ ⟨Nat.le_of_ble_eq_true rfl, Nat.le_of_ble_eq_true rfl⟩ (fun _ => Nat.le_of_ble_eq_true rfl) dX4_init_73 ?_
  refine n_aast (id := 19) (r := 4) (g := 2) X rfl rfl (Nat.le_of_ble_eq_true rfl) rfl (by omega) (by omega) dX4_init_76 ?_
  refine n_iinc (z := 4) (L' := [(3, .inl (.int (i32 5))), (0, .inl (.ref a)), (1, .inr 0), (2, .inr 1)]) X rfl rfl (hno_X4 a) (by decide) dX4_init_77 ?_
  refine n_goto (tgt := 57) X dX4_init_80 (by omega) ?_
  refine n_iload (z := 5) X 0 rfl dX4_init_57 ?_
  refine n_bipush X (by omega) dX4_init_58 ?_
  refine n_gt_f (x := 5) (y := 12) X (by unfold InR; omega) (by unfold InR; omega) (by omega) dX4_init_60 83 (by omega) ?_
  refine n_load X 1 rfl dX4_init_63 ?_
  refine n_get (v := .inr 2) X fkN_X4_11 rfl dX4_init_64 ?_
  refine n_iload (z := 5) X 0 rfl dX4_init_67 ?_
  refine n_newo (cx := 2) (fs := [.null, .null, .null]) X rfl inU_X2 tyX2_ok no_X4_9.1 no_X4_9.2.1 no_X4_9.2.2 df_X2 (Nat.le_of_ble_eq_true rfl) (Nat.le_of_ble_eq_true rfl) dX4_init_68 (fun q => ?_)
  refine n_dup X dX4_init_71 ?_
  refine n_loadI X 2 rfl dX4_init_72 ?_
  refine n_init (q := q) (av := [0]) (fkc := fkT_X2) (fsh := [some 0, some 23, some 24]) (Sc := SN_X2) (mc := zM) X ao ci_X4_38 (fun exc h => N_X2 G exc h) rfl (fun al9 alc9 h9 => by
      have e0 : al9 0 = alc9 0 := h9 0 (by decide)
      have e1 : al9 23 = alc9 1 := h9 1 (by decide)
      have e2 : al9 24 = alc9 2 := h9 2 (by decide)
      show [Value.ref (al9 0), Value.ref (al9 23), Value.ref (al9 24)] = _
      rw [e0, e1, e2]
      rfl) (fun c _ i => rfl) (Nat.le_of_ble_eq_true rfl) rfl (pd_rows (M := 22) (fun j h => by omega) (Nat.le_of_ble_eq_true rfl)) rfl rfl (Nat.le_of_ble_eq_true rfl) ⟨Nat.le_of_ble_eq_true rfl, Nat.le_of_ble_eq_true rfl⟩ ⟨Nat.le_of_ble_eq_true rfl, Nat.le_of_ble_eq_true rfl⟩ (fun _ => Nat.le_of_ble_eq_true rfl) dX4_init_73 ?_
  refine n_aast (id := 22) (r := 5) (g := 2) X rfl rfl (Nat.le_of_ble_eq_true rfl) rfl (by omega) (by omega) dX4_init_76 ?_
  refine n_iinc (z := 5) (L' := [(3, .inl (.int (i32 6))), (0, .inl (.ref a)), (1, .inr 0), (2, .inr 1)]) X rfl rfl (hno_X4 a) (by decide) dX4_init_77 ?_
  refine n_goto (tgt := 57) X dX4_init_80 (by omega) ?_
  refine n_iload (z := 6) X 0 rfl dX4_init_57 ?_
  refine n_bipush X (by omega) dX4_init_58 ?_
  refine n_gt_f (x := 6) (y := 12) X (by unfold InR; omega) (by unfold InR; omega) (by omega) dX4_init_60 83 (by omega) ?_
  refine n_load X 1 rfl dX4_init_63 ?_
  refine n_get (v := .inr 2) X fkN_X4_11 rfl dX4_init_64 ?_
  refine n_iload (z := 6) X 0 rfl dX4_init_67 ?_
  refine n_newo (cx := 2) (fs := [.null, .null, .null]) X rfl inU_X2 tyX2_ok no_X4_9.1 no_X4_9.2.1 no_X4_9.2.2 df_X2 (Nat.le_of_ble_eq_true rfl) (Nat.le_of_ble_eq_true rfl) dX4_init_68 (fun q => ?_)
  refine n_dup X dX4_init_71 ?_
  refine n_loadI X 2 rfl dX4_init_72 ?_
  refine n_init (q := q) (av := [0]) (fkc := fkT_X2) (fsh := [some 0, some 26, some 27]) (Sc := SN_X2) (mc := zM) X ao ci_X4_38 (fun exc h => N_X2 G exc h) rfl (fun al9 alc9 h9 => by
      have e0 : al9 0 = alc9 0 := h9 0 (by decide)
      have e1 : al9 26 = alc9 1 := h9 1 (by decide)
      have e2 : al9 27 = alc9 2 := h9 2 (by decide)
      show [Value.ref (al9 0), Value.ref (al9 26), Value.ref (al9 27)] = _
      rw [e0, e1, e2]
      rfl) (fun c _ i => rfl) (Nat.le_of_ble_eq_true rfl) rfl (pd_rows (M := 25) (fun j h => by omega) (Nat.le_of_ble_eq_true rfl)) rfl rfl (Nat.le_of_ble_eq_true rfl) ⟨Nat.le_of_ble_eq_true rfl, Nat.le_of_ble_eq_true rfl⟩ ⟨Nat.le_of_ble_eq_true rfl, Nat.le_of_ble_eq_true rfl⟩ (fun _ => Nat.le_of_ble_eq_true rfl) dX4_init_73 ?_
  refine n_aast (id := 25) (r := 6) (g := 2) X rfl rfl (Nat.le_of_ble_eq_true rfl) rfl (by omega) (by omega) dX4_init_76 ?_
  refine n_iinc (z := 6) (L' := [(3, .inl (.int (i32 7))), (0, .inl (.ref a)), (1, .inr 0), (2, .inr 1)]) X rfl rfl (hno_X4 a) (by decide) dX4_init_77 ?_
  refine n_goto (tgt := 57) X dX4_init_80 (by omega) ?_
  refine n_iload (z := 7) X 0 rfl dX4_init_57 ?_
  refine n_bipush X (by omega) dX4_init_58 ?_
  refine n_gt_f (x := 7) (y := 12) X (by unfold InR; omega) (by unfold InR; omega) (by omega) dX4_init_60 83 (by omega) ?_
  refine n_load X 1 rfl dX4_init_63 ?_
  refine n_get (v := .inr 2) X fkN_X4_11 rfl dX4_init_64 ?_
  refine n_iload (z := 7) X 0 rfl dX4_init_67 ?_
  refine n_newo (cx := 2) (fs := [.null, .null, .null]) X rfl inU_X2 tyX2_ok no_X4_9.1 no_X4_9.2.1 no_X4_9.2.2 df_X2 (Nat.le_of_ble_eq_true rfl) (Nat.le_of_ble_eq_true rfl) dX4_init_68 (fun q => ?_)
  refine n_dup X dX4_init_71 ?_
  refine n_loadI X 2 rfl dX4_init_72 ?_
  refine n_init (q := q) (av := [0]) (fkc := fkT_X2) (fsh := [some 0, some 29, some 30]) (Sc := SN_X2) (mc := zM) X ao ci_X4_38 (fun exc h => N_X2 G exc h) rfl (fun al9 alc9 h9 => by
      have e0 : al9 0 = alc9 0 := h9 0 (by decide)
      have e1 : al9 29 = alc9 1 := h9 1 (by decide)
      have e2 : al9 30 = alc9 2 := h9 2 (by decide)
      show [Value.ref (al9 0), Value.ref (al9 29), Value.ref (al9 30)] = _
      rw [e0, e1, e2]
      rfl) (fun c _ i => rfl) (Nat.le_of_ble_eq_true rfl) rfl (pd_rows (M := 28) (fun j h => by omega) (Nat.le_of_ble_eq_true rfl)) rfl rfl (Nat.le_of_ble_eq_true rfl) ⟨Nat.le_of_ble_eq_true rfl, Nat.le_of_ble_eq_true rfl⟩ ⟨Nat.le_of_ble_eq_true rfl, Nat.le_of_ble_eq_true rfl⟩ (fun _ => Nat.le_of_ble_eq_true rfl) dX4_init_73 ?_
  refine n_aast (id := 28) (r := 7) (g := 2) X rfl rfl (Nat.le_of_ble_eq_true rfl) rfl (by omega) (by omega) dX4_init_76 ?_
  refine n_iinc (z := 7) (L' := [(3, .inl (.int (i32 8))), (0, .inl (.ref a)), (1, .inr 0), (2, .inr 1)]) X rfl rfl (hno_X4 a) (by decide) dX4_init_77 ?_
  refine n_goto (tgt := 57) X dX4_init_80 (by omega) ?_
  refine n_iload (z := 8) X 0 rfl dX4_init_57 ?_
  refine n_bipush X (by omega) dX4_init_58 ?_
  refine n_gt_f (x := 8) (y := 12) X (by unfold InR; omega) (by unfold InR; omega) (by omega) dX4_init_60 83 (by omega) ?_
  refine n_load X 1 rfl dX4_init_63 ?_
  refine n_get (v := .inr 2) X fkN_X4_11 rfl dX4_init_64 ?_
  refine n_iload (z := 8) X 0 rfl dX4_init_67 ?_
  refine n_newo (cx := 2) (fs := [.null, .null, .null]) X rfl inU_X2 tyX2_ok no_X4_9.1 no_X4_9.2.1 no_X4_9.2.2 df_X2 (Nat.le_of_ble_eq_true rfl) (Nat.le_of_ble_eq_true rfl) dX4_init_68 (fun q => ?_)
  refine n_dup X dX4_init_71 ?_
  refine n_loadI X 2 rfl dX4_init_72 ?_
  refine n_init (q := q) (av := [0]) (fkc := fkT_X2) (fsh := [some 0, some 32, some 33]) (Sc := SN_X2) (mc := zM) X ao ci_X4_38 (fun exc h => N_X2 G exc h) rfl (fun al9 alc9 h9 => by
      have e0 : al9 0 = alc9 0 := h9 0 (by decide)
      have e1 : al9 32 = alc9 1 := h9 1 (by decide)
      have e2 : al9 33 = alc9 2 := h9 2 (by decide)
      show [Value.ref (al9 0), Value.ref (al9 32), Value.ref (al9 33)] = _
      rw [e0, e1, e2]
      rfl) (fun c _ i => rfl) (Nat.le_of_ble_eq_true rfl) rfl (pd_rows (M := 31) (fun j h => by omega) (Nat.le_of_ble_eq_true rfl)) rfl rfl (Nat.le_of_ble_eq_true rfl) ⟨Nat.le_of_ble_eq_true rfl, Nat.le_of_ble_eq_true rfl⟩ ⟨Nat.le_of_ble_eq_true rfl, Nat.le_of_ble_eq_true rfl⟩ (fun _ => Nat.le_of_ble_eq_true rfl) dX4_init_73 ?_
  refine n_aast (id := 31) (r := 8) (g := 2) X rfl rfl (Nat.le_of_ble_eq_true rfl) rfl (by omega) (by omega) dX4_init_76 ?_
  refine n_iinc (z := 8) (L' := [(3, .inl (.int (i32 9))), (0, .inl (.ref a)), (1, .inr 0), (2, .inr 1)]) X rfl rfl (hno_X4 a) (by decide) dX4_init_77 ?_
  refine n_goto (tgt := 57) X dX4_init_80 (by omega) ?_
  refine n_iload (z := 9) X 0 rfl dX4_init_57 ?_
  refine n_bipush X (by omega) dX4_init_58 ?_
  refine n_gt_f (x := 9) (y := 12) X (by unfold InR; omega) (by unfold InR; omega) (by omega) dX4_init_60 83 (by omega) ?_
  refine n_load X 1 rfl dX4_init_63 ?_
  refine n_get (v := .inr 2) X fkN_X4_11 rfl dX4_init_64 ?_
  refine n_iload (z := 9) X 0 rfl dX4_init_67 ?_
  refine n_newo (cx := 2) (fs := [.null, .null, .null]) X rfl inU_X2 tyX2_ok no_X4_9.1 no_X4_9.2.1 no_X4_9.2.2 df_X2 (Nat.le_of_ble_eq_true rfl) (Nat.le_of_ble_eq_true rfl) dX4_init_68 (fun q => ?_)
  refine n_dup X dX4_init_71 ?_
  refine n_loadI X 2 rfl dX4_init_72 ?_
  refine n_init (q := q) (av := [0]) (fkc := fkT_X2) (fsh := [some 0, some 35, some 36]) (Sc := SN_X2) (mc := zM) X ao ci_X4_38 (fun exc h => N_X2 G exc h) rfl (fun al9 alc9 h9 => by
      have e0 : al9 0 = alc9 0 := h9 0 (by decide)
      have e1 : al9 35 = alc9 1 := h9 1 (by decide)
      have e2 : al9 36 = alc9 2 := h9 2 (by decide)
      show [Value.ref (al9 0), Value.ref (al9 35), Value.ref (al9 36)] = _
      rw [e0, e1, e2]
      rfl) (fun c _ i => rfl) (Nat.le_of_ble_eq_true rfl) rfl (pd_rows (M := 34) (fun j h => by omega) (Nat.le_of_ble_eq_true rfl)) rfl rfl (Nat.le_of_ble_eq_true rfl) ⟨Nat.le_of_ble_eq_true rfl, Nat.le_of_ble_eq_true rfl⟩ ⟨Nat.le_of_ble_eq_true rfl, Nat.le_of_ble_eq_true rfl⟩ (fun _ => Nat.le_of_ble_eq_true rfl) dX4_init_73 ?_
  refine n_aast (id := 34) (r := 9) (g := 2) X rfl rfl (Nat.le_of_ble_eq_true rfl) rfl (by omega) (by omega) dX4_init_76 ?_
  refine n_iinc (z := 9) (L' := [(3, .inl (.int (i32 10))), (0, .inl (.ref a)), (1, .inr 0), (2, .inr 1)]) X rfl rfl (hno_X4 a) (by decide) dX4_init_77 ?_
  refine n_goto (tgt := 57) X dX4_init_80 (by omega) ?_
  refine n_iload (z := 10) X 0 rfl dX4_init_57 ?_
  refine n_bipush X (by omega) dX4_init_58 ?_
  refine n_gt_f (x := 10) (y := 12) X (by unfold InR; omega) (by unfold InR; omega) (by omega) dX4_init_60 83 (by omega) ?_
  refine n_load X 1 rfl dX4_init_63 ?_
  refine n_get (v := .inr 2) X fkN_X4_11 rfl dX4_init_64 ?_
  refine n_iload (z := 10) X 0 rfl dX4_init_67 ?_
  refine n_newo (cx := 2) (fs := [.null, .null, .null]) X rfl inU_X2 tyX2_ok no_X4_9.1 no_X4_9.2.1 no_X4_9.2.2 df_X2 (Nat.le_of_ble_eq_true rfl) (Nat.le_of_ble_eq_true rfl) dX4_init_68 (fun q => ?_)
  refine n_dup X dX4_init_71 ?_
  refine n_loadI X 2 rfl dX4_init_72 ?_
  refine n_init (q := q) (av := [0]) (fkc := fkT_X2) (fsh := [some 0, some 38, some 39]) (Sc := SN_X2) (mc := zM) X ao ci_X4_38 (fun exc h => N_X2 G exc h) rfl (fun al9 alc9 h9 => by
      have e0 : al9 0 = alc9 0 := h9 0 (by decide)
      have e1 : al9 38 = alc9 1 := h9 1 (by decide)
      have e2 : al9 39 = alc9 2 := h9 2 (by decide)
      show [Value.ref (al9 0), Value.ref (al9 38), Value.ref (al9 39)] = _
      rw [e0, e1, e2]
      rfl) (fun c _ i => rfl) (Nat.le_of_ble_eq_true rfl) rfl (pd_rows (M := 37) (fun j h => by omega) (Nat.le_of_ble_eq_true rfl)) rfl rfl (Nat.le_of_ble_eq_true rfl) ⟨Nat.le_of_ble_eq_true rfl, Nat.le_of_ble_eq_true rfl⟩ ⟨Nat.le_of_ble_eq_true rfl, Nat.le_of_ble_eq_true rfl⟩ (fun _ => Nat.le_of_ble_eq_true rfl) dX4_init_73 ?_
  refine n_aast (id := 37) (r := 10) (g := 2) X rfl rfl (Nat.le_of_ble_eq_true rfl) rfl (by omega) (by omega) dX4_init_76 ?_
  refine n_iinc (z := 10) (L' := [(3, .inl (.int (i32 11))), (0, .inl (.ref a)), (1, .inr 0), (2, .inr 1)]) X rfl rfl (hno_X4 a) (by decide) dX4_init_77 ?_
  refine n_goto (tgt := 57) X dX4_init_80 (by omega) ?_
  refine n_iload (z := 11) X 0 rfl dX4_init_57 ?_
  refine n_bipush X (by omega) dX4_init_58 ?_
  refine n_gt_f (x := 11) (y := 12) X (by unfold InR; omega) (by unfold InR; omega) (by omega) dX4_init_60 83 (by omega) ?_
  refine n_load X 1 rfl dX4_init_63 ?_
  refine n_get (v := .inr 2) X fkN_X4_11 rfl dX4_init_64 ?_
  refine n_iload (z := 11) X 0 rfl dX4_init_67 ?_
  refine n_newo (cx := 2) (fs := [.null, .null, .null]) X rfl inU_X2 tyX2_ok no_X4_9.1 no_X4_9.2.1 no_X4_9.2.2 df_X2 (Nat.le_of_ble_eq_true rfl) (Nat.le_of_ble_eq_true rfl) dX4_init_68 (fun q => ?_)
  refine n_dup X dX4_init_71 ?_
  refine n_loadI X 2 rfl dX4_init_72 ?_
  refine n_init (q := q) (av := [0]) (fkc := fkT_X2) (fsh := [some 0, some 41, some 42]) (Sc := SN_X2) (mc := zM) X ao ci_X4_38 (fun exc h => N_X2 G exc h) rfl (fun al9 alc9 h9 => by
      have e0 : al9 0 = alc9 0 := h9 0 (by decide)
      have e1 : al9 41 = alc9 1 := h9 1 (by decide)
      have e2 : al9 42 = alc9 2 := h9 2 (by decide)
      show [Value.ref (al9 0), Value.ref (al9 41), Value.ref (al9 42)] = _
      rw [e0, e1, e2]
      rfl) (fun c _ i => rfl) (Nat.le_of_ble_eq_true rfl) rfl (pd_rows (M := 40) (fun j h => by omega) (Nat.le_of_ble_eq_true rfl)) rfl rfl (Nat.le_of_ble_eq_true rfl) ⟨Nat.le_of_ble_eq_true rfl, Nat.le_of_ble_eq_true rfl⟩ ⟨Nat.le_of_ble_eq_true rfl, Nat.le_of_ble_eq_true rfl⟩ (fun _ => Nat.le_of_ble_eq_true rfl) dX4_init_73 ?_
  refine n_aast (id := 40) (r := 11) (g := 2) X rfl rfl (Nat.le_of_ble_eq_true rfl) rfl (by omega) (by omega) dX4_init_76 ?_
  refine n_iinc (z := 11) (L' := [(3, .inl (.int (i32 12))), (0, .inl (.ref a)), (1, .inr 0), (2, .inr 1)]) X rfl rfl (hno_X4 a) (by decide) dX4_init_77 ?_
  refine n_goto (tgt := 57) X dX4_init_80 (by omega) ?_
  refine n_iload (z := 12) X 0 rfl dX4_init_57 ?_
  refine n_bipush X (by omega) dX4_init_58 ?_
  refine n_gt_f (x := 12) (y := 12) X (by unfold InR; omega) (by unfold InR; omega) (by omega) dX4_init_60 83 (by omega) ?_
  refine n_load X 1 rfl dX4_init_63 ?_
  refine n_get (v := .inr 2) X fkN_X4_11 rfl dX4_init_64 ?_
  refine n_iload (z := 12) X 0 rfl dX4_init_67 ?_
  refine n_newo (cx := 2) (fs := [.null, .null, .null]) X rfl inU_X2 tyX2_ok no_X4_9.1 no_X4_9.2.1 no_X4_9.2.2 df_X2 (Nat.le_of_ble_eq_true rfl) (Nat.le_of_ble_eq_true rfl) dX4_init_68 (fun q => ?_)
  refine n_dup X dX4_init_71 ?_
  refine n_loadI X 2 rfl dX4_init_72 ?_
  refine n_init (q := q) (av := [0]) (fkc := fkT_X2) (fsh := [some 0, some 44, some 45]) (Sc := SN_X2) (mc := zM) X ao ci_X4_38 (fun exc h => N_X2 G exc h) rfl (fun al9 alc9 h9 => by
      have e0 : al9 0 = alc9 0 := h9 0 (by decide)
      have e1 : al9 44 = alc9 1 := h9 1 (by decide)
      have e2 : al9 45 = alc9 2 := h9 2 (by decide)
      show [Value.ref (al9 0), Value.ref (al9 44), Value.ref (al9 45)] = _
      rw [e0, e1, e2]
      rfl) (fun c _ i => rfl) (Nat.le_of_ble_eq_true rfl) rfl (pd_rows (M := 43) (fun j h => by omega) (Nat.le_of_ble_eq_true rfl)) rfl rfl (Nat.le_of_ble_eq_true rfl) ⟨Nat.le_of_ble_eq_true rfl, Nat.le_of_ble_eq_true rfl⟩ ⟨Nat.le_of_ble_eq_true rfl, Nat.le_of_ble_eq_true rfl⟩ (fun _ => Nat.le_of_ble_eq_true rfl) dX4_init_73 ?_
  refine n_aast (id := 43) (r := 12) (g := 2) X rfl rfl (Nat.le_of_ble_eq_true rfl) rfl (by omega) (by omega) dX4_init_76 ?_
  refine n_iinc (z := 12) (L' := [(3, .inl (.int (i32 13))), (0, .inl (.ref a)), (1, .inr 0), (2, .inr 1)]) X rfl rfl (hno_X4 a) (by decide) dX4_init_77 ?_
  refine n_goto (tgt := 57) X dX4_init_80 (by omega) ?_
  refine n_iload (z := 13) X 0 rfl dX4_init_57 ?_
  refine n_bipush X (by omega) dX4_init_58 ?_
  refine n_gt_t (x := 13) (y := 12) (tgt := 83) X (by unfold InR; omega) (by unfold InR; omega) (by omega) dX4_init_60 (by omega) ?_
  refine n_unghost (g := 2) rfl (Nat.le_of_ble_eq_true rfl) ?_
  exact n_ret X (Nat.le_of_ble_eq_true rfl) (Nat.le_of_ble_eq_true rfl) dX4_init_83
