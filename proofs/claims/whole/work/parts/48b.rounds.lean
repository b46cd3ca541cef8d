section NR3
variable {SH : List Sh} {G : Gl} {R : Room} {Q : State → Prop} {C : Ct} {ex : List Nat} {a ci k n pc : Nat} {L : List (Nat × FV)} {st fk : List FV} {S : List Sh} {m : Mem} {pd : (Nat → Nat) → va_W} {cc : ByteArray} {nL : Nat} {own : String} {ret : Option FieldType} {nx : Bool}
/-- a row of references, filled up to r -/
def rowsC (ta : Nat → ClassId) (q N b s r : Nat) (al : Nat → Nat) : Nat × va_E := (q, .inl (ta 4, N, .inr (.inr (.inr (.inr (fun j => if j < r then some (al (b + s * j)) else none))))))
theorem n_anew (X : Cx SH G R C cc nL own ret nx) {i N b s : Nat} (wl : Cond.classLink own i "Lastbus$Labels" ∈ lw_U) (hao : AOc C) (hN : N ≤ 1000) (hg : S.length = ex.length) (hw : wfN L st fk S = true) (hpd : pdok S pd) (hcells : k + 1 ≤ R.cells) (hslots : n + N ≤ R.slots) (d : decode cc pc = .ok (.anewarray i, 3))
    (kk : ∀ q : Nat, NJ G R Q C (ex ++ [q]) a ci (k + 1) (n + N) (pc + 3) L (.inr S.length :: st) fk (S ++ [.inr (0, 0, none)]) m (fun al => pd al ++ [rowsC G.2.2.1 q N b s 0 al])) : NJ G R Q C ex a ci k n pc L (.inl (.int (i32 N)) :: st) fk S m pd := by
  obtain ⟨p, e, s9, m9, args, below, meth, c, A0⟩ := C
  obtain ⟨hx, hb, hml, hown, hts, hK, hr, hlk, hex, hXB, hst, hA⟩ := X
  intro al H locs ls hx9 hP hD hS hl
  have hin : InR (N : Int) := ⟨by omega, by omega⟩
  have hnn : ¬ i32 (N : Int) < 0 := fun q => by
    have : i32 (N : Int) < i32 0 := q
    rw [i32_lt hin ⟨by omega, by omega⟩] at this
    omega
  refine va_newq hx hb (C := "Lastbus$Labels") hown (hts _ wl) hao.2 hK hP hD hS hA (N' := N) hnn (by rw [i32_nat (by omega) hin]; omega) (by omega) hcells hslots d (fun q cA H1 hK1 hP1 hD1 hS1 => ?_)
  have hcA : cA = G.2.2.1 4 := by
    have h1 := (hK1.2 (tysC G.2.2.1).length (cA, .object "Lastbus$Labels") (by rw [List.getElem?_append_right (Nat.le_refl _), Nat.sub_self]; rfl)).2
    have h2 := (hK.2 4 (G.2.2.1 4, .object "Lastbus$Labels") rfl).2
    obtain ⟨_, _, _, _, _, f1⟩ := h1
    obtain ⟨_, _, _, _, _, f2⟩ := h2
    exact Option.some.inj (f1.symm.trans f2)
  subst hcA
  simp only [wfN, Bool.and_eq_true] at hw
  obtain ⟨w1, w2, w3, w4⟩ := hw
  let al' : Nat → Nat := fun i => if i = S.length then q else al i
  have hag : ∀ i, i < S.length → al' i = al i := fun i h => if_neg (by omega)
  have hq : al' S.length = q := if_pos rfl
  have hx8 : exok (ex ++ [q]) al' := fun j b9 hj => by
    by_cases h9 : j < ex.length
    · rw [List.getElem?_append_left h9] at hj
      rw [hag j (by omega)]
      exact hx9 j b9 hj
    · rw [List.getElem?_append_right (by omega)] at hj
      have h0 : j - ex.length < 1 := (List.getElem?_eq_some_iff.mp hj).1
      rw [show j - ex.length = 0 by omega] at hj
      cases hj
      rw [show j = S.length by omega]
      exact hq
  have hp : (nW G.2.2.1 ex.length a ci fk S m pd al) ++ [(q, (.inl (G.2.2.1 4, N, .inr (.inr (.inr (.inr (fun _ => none))))) : va_E))] = nW G.2.2.1 (ex ++ [q]).length a ci fk (S ++ [.inr (0, 0, none)]) m (fun al => pd al ++ [rowsC G.2.2.1 q N b s 0 al]) al' := by
    unfold nW
    have d1 : (wsOf (S ++ [.inr (0, 0, none)]) G.2.2.1 al' m).drop (ex ++ [q]).length = [] := List.drop_eq_nil_of_le (by rw [wsOf_len, List.length_append, List.length_append]; show S.length + 1 ≤ ex.length + 1; omega)
    have d2 : (wsOf S G.2.2.1 al m).drop ex.length = [] := List.drop_eq_nil_of_le (by rw [wsOf_len]; omega)
    rw [d1, d2, fvs_al hag w3]
    show _ :: (([] ++ pd al) ++ _) = _ :: ([] ++ (pd al' ++ _))
    rw [hpd al al' hag]
    rfl
  rw [hp] at hP1 hD1
  have hj := kk q al' H1 locs ls hx8 hP1 hD1 hS1 (by
    have e : (L.map fun q => (q.1, fvv al' q.2)) = L.map fun q => (q.1, fvv al q.2) := List.map_congr_left fun x hx => by rw [fvv_al hag (List.all_eq_true.mp w1 x hx)]
    rw [e]
    exact hl)
  rw [List.map_cons, fvs_al hag w2, show fvv al' (.inr S.length) = .ref q from congrArg Value.ref hq] at hj
  exact hj
theorem n_aast (X : Cx SH G R C cc nL own ret nx) {q N b s r g id : Nat} {fs : List (Option Nat)} (hid : id = b + s * r) (hgx : ex[g]? = some q) (hge : ex.length ≤ id) (sh : S[id]? = some (.inl (2, fs))) (hr9 : r < N) (hN : N ≤ 1000) (d : decode cc pc = .ok (.aastore, 1))
    (kk : NJ G R Q C ex a ci k n (pc + 1) L st fk S m (fun al => [rowsC G.2.2.1 q N b s (r + 1) al])) : NJ G R Q C ex a ci k n pc L (.inr id :: .inl (.int (i32 r)) :: .inr g :: st) fk S m (fun al => [rowsC G.2.2.1 q N b s r al]) := by
  obtain ⟨p, e, s9, m9, args, below, meth, c, A0⟩ := C
  obtain ⟨hx, hb, hml, hown, hts, hK, hr, hlk, hex, hXB, hst, hA⟩ := X
  intro al H locs ls hx9 hP hD hS hl
  have hin : InR (r : Int) := ⟨by omega, by omega⟩
  have hil : id < S.length := (List.getElem?_eq_some_iff.mp sh).1
  have hq : al g = q := hx9 g q hgx
  have hnt : (i32 (r : Int)).toNatClampNeg = r := by rw [i32_nat (by omega) hin]; omega
  have p0 : (nW G.2.2.1 ex.length a ci fk S m (fun al => [rowsC G.2.2.1 q N b s r al]) al)[1 + (S.length - ex.length)]? = some (q, .inl (G.2.2.1 4, N, .inr (.inr (.inr (.inr (fun j => if j < r then some (al (b + s * j)) else none)))))) := by
    unfold nW
    rw [Nat.add_comm, List.getElem?_cons_succ, List.getElem?_append_right (by rw [List.length_drop, wsOf_len]; exact Nat.le_refl _), List.length_drop, wsOf_len, Nat.sub_self]
    rfl
  have p1 : (nW G.2.2.1 ex.length a ci fk S m (fun al => [rowsC G.2.2.1 q N b s r al]) al)[1 + (id - ex.length)]? = some (al id, .inr (2, fs.zipIdx.map (fvl al m id))) := by
    unfold nW
    rw [Nat.add_comm, List.getElem?_cons_succ, List.getElem?_append_left (by rw [List.length_drop, wsOf_len]; omega), List.getElem?_drop, show ex.length + (id - ex.length) = id by omega]
    exact wsOf_at sh
  refine va_astq (v := al id) (a := q) hx hb hK hP hD hS (1 + (S.length - ex.length)) 4 (1 + (id - ex.length)) 2 (r := (RX2, TX2, 3)) p0 rfl p1 rfl (i32_in (by omega) (by omega) hin) d (fun H1 locs1 hP1 hD1 hS1 => ?_) |> fun z => by rw [← hq] at z; exact z
  have hp : (nW G.2.2.1 ex.length a ci fk S m (fun al => [rowsC G.2.2.1 q N b s r al]) al).set (1 + (S.length - ex.length)) (q, .inl (G.2.2.1 4, N, .inr (.inr (.inr (.inr (va_up (fun j => if j < r then some (al (b + s * j)) else none) (i32 (r : Int)).toNatClampNeg (some (al id)))))))) = nW G.2.2.1 ex.length a ci fk S m (fun al => [rowsC G.2.2.1 q N b s (r + 1) al]) al := by
    unfold nW
    rw [Nat.add_comm 1, List.set_cons_succ, List.set_append_right _ _ (by rw [List.length_drop, wsOf_len]; exact Nat.le_refl _), List.length_drop, wsOf_len, Nat.sub_self, hnt]
    have e : va_up (fun j => if j < r then some (al (b + s * j)) else none) r (some (al id)) = fun j => if j < r + 1 then some (al (b + s * j)) else none := by
      funext j
      unfold va_up
      by_cases h1 : j = r
      · subst h1
        rw [if_pos rfl, if_pos (by omega), hid]
      · rw [if_neg h1]
        show (if j < r then some (al (b + s * j)) else none) = _
        by_cases h2 : j < r
        · rw [if_pos h2, if_pos (by omega)]
        · rw [if_neg h2, if_neg (by omega)]
    rw [e]
    rfl
  rw [hp] at hP1 hD1
  exact kk al H1 locs1 ls hx9 hP1 hD1 hS1 hl
/-- the row is full: it takes its place -/
theorem n_unghost {q N b s g : Nat} (hge : ex.length = g) (hgS : g < S.length) (kk : NJ G R Q C ex a ci k n pc L st fk (S.set g (.inr (4, N, some (b, s)))) m (fun _ => [])) : NJ G R Q C (ex ++ [q]) a ci k n pc L st fk S m (fun al => [rowsC G.2.2.1 q N b s N al]) := by
  obtain ⟨p, e, s9, m9, args, below, meth, c, A0⟩ := C
  intro al H locs ls hx9 hP hD hS hl
  have hq : al g = q := hx9 g q (by rw [List.getElem?_append_right (by omega), ← hge, Nat.sub_self]; rfl)
  have hx8 : exok ex al := fun j b9 hj => hx9 j b9 (by rw [List.getElem?_append_left (List.getElem?_eq_some_iff.mp hj).1]; exact hj)
  have e1 : (wsOf (S.set g (.inr (4, N, some (b, s)))) G.2.2.1 al m).drop g = rowsC G.2.2.1 q N b s N al :: (wsOf S G.2.2.1 al m).drop (g + 1) := by
    apply List.ext_getElem?
    intro j
    rw [List.getElem?_drop]
    cases j with
    | zero =>
      rw [Nat.add_zero, wsOf_at (sh := .inr (4, N, some (b, s))) (by rw [List.getElem?_set_self hgS]), hq]
      rfl
    | succ j =>
      rw [List.getElem?_cons_succ, List.getElem?_drop, show g + 1 + j = g + (j + 1) by omega]
      cases hj : S[g + (j + 1)]? with
      | none =>
        have h2 : (S.set g (.inr (4, N, some (b, s))))[g + (j + 1)]? = none := by rw [List.getElem?_set_ne (by omega), hj]
        simp [wsOf, List.getElem?_map, List.getElem?_zipIdx, hj, h2]
      | some sh =>
        rw [wsOf_at hj, wsOf_at (by rw [List.getElem?_set_ne (by omega), hj])]
  have hp : (nW G.2.2.1 (ex ++ [q]).length a ci fk S m (fun al => [rowsC G.2.2.1 q N b s N al]) al).Perm (nW G.2.2.1 ex.length a ci fk (S.set g (.inr (4, N, some (b, s)))) m (fun _ => []) al) := by
    unfold nW
    rw [List.append_nil, hge, e1, List.length_append, hge]
    exact List.Perm.cons _ List.perm_append_comm
  exact kk al H locs ls hx8 (va_P_mem (fun x hx => hp.mem_iff.mpr hx) hP) (va_D_perm hp hD) hS hl
theorem n_istore (X : Cx SH G R C cc nL own ret nx) {i : Fin 4} {z : Int} {L' : List (Nat × FV)} (hL : L' = (i.val, .inl (.int (i32 z))) :: L) (hno : ∀ q ∈ L, q.1 ≠ i.val ∧ ∀ x, q.2 ≠ .inl x ∨ x.category = 1) (hi : i.val < nL) (d : decode cc pc = .ok (.istore_n i, 1)) (kk : NJ G R Q C ex a ci k n (pc + 1) L' st fk S m pd) : NJ G R Q C ex a ci k n pc L (.inl (.int (i32 z)) :: st) fk S m pd := by
  obtain ⟨p, e, s9, m9, args, below, meth, c, A0⟩ := C
  obtain ⟨hx, hb, hml, -⟩ := X
  intro al H locs ls hx9 hP hD hS hl
  subst hL
  refine lv_istore_n hx hb d rfl hl (by rw [hml]; exact hi) (lv' := (i.val, Value.int (i32 z)) :: L.map fun (q : Nat × FV) => (q.1, fvv al q.2)) ?_ (fun ls' hl' => kk al H locs ls' hx9 hP hD hS hl')
  congr 1
  rw [List.filter_eq_self]
  intro q hq
  obtain ⟨q0, h0, rfl⟩ := List.mem_map.mp hq
  obtain ⟨h1, h2⟩ := hno q0 h0
  have h3 : (fvv al q0.2).category ≠ 2 := by
    rcases hq2 : q0.2 with v | id
    · rcases h2 v with h4 | h4
      · exact absurd hq2 h4
      · show v.category ≠ 2
        rw [h4]
        omega
    · show (Value.ref (al id)).category ≠ 2
      simp [Value.category]
  simp [h1, h3]
theorem n_iload (X : Cx SH G R C cc nL own ret nx) {i : Fin 4} {z : Int} (j : Nat) (hj : L[j]? = some (i.val, .inl (.int (i32 z)))) (d : decode cc pc = .ok (.iload_n i, 1)) (kk : NJ G R Q C ex a ci k n (pc + 1) L (.inl (.int (i32 z)) :: st) fk S m pd) : NJ G R Q C ex a ci k n pc L st fk S m pd := by
  obtain ⟨p, e, s9, m9, args, below, meth, c, A0⟩ := C
  obtain ⟨hx, hb, -⟩ := X
  intro al H locs ls hx9 hP hD hS hl
  exact lv_iload_n hx hb d rfl (nl_cat hl j hj) (kk al H locs ls hx9 hP hD hS hl)
theorem n_iinc (X : Cx SH G R C cc nL own ret nx) {i : Nat} {q z : Int} {L0 L' : List (Nat × FV)} (h0 : L = (i, .inl (.int (i32 z))) :: L0) (hL : L' = (i, .inl (.int (i32 (z + q)))) :: L0) (hno : ∀ q ∈ L0, q.1 ≠ i ∧ ∀ x, q.2 ≠ .inl x ∨ x.category = 1) (hi : i < nL) (d : decode cc pc = .ok (.iinc i q, 3)) (kk : NJ G R Q C ex a ci k n (pc + 3) L' st fk S m pd) : NJ G R Q C ex a ci k n pc L st fk S m pd := by
  obtain ⟨p, e, s9, m9, args, below, meth, c, A0⟩ := C
  obtain ⟨hx, hb, hml, -⟩ := X
  intro al H locs ls hx9 hP hD hS hl
  subst hL
  subst h0
  refine lv_iinc hx hb d hl (k := 0) (x := i32 z) (v := i32 (z + q)) rfl (i32_add z q) (by rw [hml]; exact hi) (lv' := (i, Value.int (i32 (z + q))) :: L0.map fun (q : Nat × FV) => (q.1, fvv al q.2)) ?_ (fun ls' hl' => kk al H locs ls' hx9 hP hD hS hl')
  congr 1
  rw [List.map_cons, List.filter_cons_of_neg (by simp [fvv])]
  rw [List.filter_eq_self]
  intro q1 hq
  obtain ⟨q0, h0, rfl⟩ := List.mem_map.mp hq
  obtain ⟨h1, h2⟩ := hno q0 h0
  have h3 : (fvv al q0.2).category ≠ 2 := by
    rcases hq2 : q0.2 with v | id
    · rcases h2 v with h4 | h4
      · exact absurd hq2 h4
      · show v.category ≠ 2
        rw [h4]
        omega
    · show (Value.ref (al id)).category ≠ 2
      simp [Value.category]
  simp [h1, h3]
theorem n_gt_t (X : Cx SH G R C cc nL own ret nx) {x y : Int} {off : Int} {tgt : Nat} (hx1 : InR x) (hy1 : InR y) (h : y < x) (d : decode cc pc = .ok (.if_icmp .gt off, 3)) (ht : (pc : Int) + off = (tgt : Int)) (kk : NJ G R Q C ex a ci k n tgt L st fk S m pd) : NJ G R Q C ex a ci k n pc L (.inl (.int (i32 y)) :: .inl (.int (i32 x)) :: st) fk S m pd := by
  obtain ⟨p, e, s9, m9, args, below, meth, c, A0⟩ := C
  obtain ⟨hx, hb, -⟩ := X
  intro al H locs ls hx9 hP hD hS hl
  exact lv_icmp_gt hx hb d ht (fun _ => kk al H locs ls hx9 hP hD hS hl) (fun q => absurd ((i32_lt hy1 hx1).mpr h) q)
theorem n_gt_f (X : Cx SH G R C cc nL own ret nx) {x y : Int} {off : Int} (hx1 : InR x) (hy1 : InR y) (h : ¬ y < x) (d : decode cc pc = .ok (.if_icmp .gt off, 3)) (tgt : Nat) (ht : (pc : Int) + off = (tgt : Int)) (kk : NJ G R Q C ex a ci k n (pc + 3) L st fk S m pd) : NJ G R Q C ex a ci k n pc L (.inl (.int (i32 y)) :: .inl (.int (i32 x)) :: st) fk S m pd := by
  obtain ⟨p, e, s9, m9, args, below, meth, c, A0⟩ := C
  obtain ⟨hx, hb, -⟩ := X
  intro al H locs ls hx9 hP hD hS hl
  exact lv_icmp_gt hx hb d ht (fun q => absurd ((i32_lt hy1 hx1).mp q) h) (fun _ => kk al H locs ls hx9 hP hD hS hl)
theorem n_goto (X : Cx SH G R C cc nL own ret nx) {off : Int} {tgt : Nat} (d : decode cc pc = .ok (.goto off, 3)) (ht : (pc : Int) + off = (tgt : Int)) (kk : NJ G R Q C ex a ci k n tgt L st fk S m pd) : NJ G R Q C ex a ci k n pc L st fk S m pd := by
  obtain ⟨p, e, s9, m9, args, below, meth, c, A0⟩ := C
  obtain ⟨hx, hb, -⟩ := X
  intro al H locs ls hx9 hP hD hS hl
  exact lv_goto hx hb d ht (kk al H locs ls hx9 hP hD hS hl)
end NR3
