/-! ===== CONSTRUCTORS: a world under way ===== -/
abbrev FV : Type := Value ⊕ Nat
def fvv (al : Nat → Nat) : FV → Value
  | .inl v => v
  | .inr id => .ref (al id)
def fvok (n : Nat) : FV → Bool
  | .inl _ => true
  | .inr id => id < n
def shok (n : Nat) : Sh → Bool
  | .inl o => o.2.all fun q => match q with | none => true | some id => id < n
  | .inr (_, N, some b) => b.1 + b.2 * (N - 1) < n || N == 0
  | .inr (_, _, none) => true
def wfS (S : List Sh) : Bool := S.all (shok S.length)
theorem cel_al {ta : Nat → ClassId} {al al' : Nat → Nat} {m : Mem} {c n : Nat} (h : ∀ i, i < n → al' i = al i) {sh : Sh} (hs : shok n sh = true) : cel ta al' m c sh = cel ta al m c sh := by
  rcases sh with o | ⟨t, N, b | b⟩
  · show Sum.inr (o.1, o.2.zipIdx.map (fvl al' m c)) = Sum.inr (o.1, o.2.zipIdx.map (fvl al m c))
    congr 2
    apply List.map_congr_left
    rintro ⟨q, k⟩ hq
    have hq' : q ∈ o.2 := by
      have := List.mem_of_getElem? (List.getElem?_of_mem hq).choose_spec
      rw [List.mem_zipIdx_iff_getElem?] at this
      exact List.mem_of_getElem? this
    cases q with
    | none => rfl
    | some id =>
      have h1 := List.all_eq_true.mp hs _ hq'
      show Value.ref (al' id) = Value.ref (al id)
      rw [h id (by simpa using h1)]
  · rfl
  · show Sum.inl (ta t, N, Sum.inr (Sum.inr (Sum.inr (Sum.inr (fun j => if j < N then some (al' (b.1 + b.2 * j)) else none))))) = Sum.inl (ta t, N, Sum.inr (Sum.inr (Sum.inr (Sum.inr (fun j => if j < N then some (al (b.1 + b.2 * j)) else none)))))
    have e : (fun j => if j < N then some (al' (b.1 + b.2 * j)) else none) = (fun j => if j < N then some (al (b.1 + b.2 * j)) else none) := by
     funext j
     by_cases hj : j < N
     · rw [if_pos hj, if_pos hj]
       have h2 : b.1 + b.2 * j < n := by
         simp only [shok, Bool.or_eq_true, decide_eq_true_eq, beq_iff_eq] at hs
         rcases hs with hs | hs
         · have : b.2 * j ≤ b.2 * (N - 1) := Nat.mul_le_mul_left _ (by omega)
           omega
         · omega
       rw [h _ h2]
     · rw [if_neg hj, if_neg hj]
    rw [e]
theorem wsOf_al {ta : Nat → ClassId} {al al' : Nat → Nat} {m : Mem} {S : List Sh} (h : ∀ i, i < S.length → al' i = al i) (hs : wfS S = true) : wsOf S ta al' m = wsOf S ta al m := by
  apply List.ext_getElem?
  intro k
  cases hk : S[k]? with
  | none => simp [wsOf, List.getElem?_map, List.getElem?_zipIdx, hk]
  | some sh =>
    rw [wsOf_at hk, wsOf_at hk, h k (List.getElem?_eq_some_iff.mp hk).1, cel_al h (List.all_eq_true.mp hs sh (List.mem_of_getElem? hk))]
theorem fvv_al {al al' : Nat → Nat} {n : Nat} (h : ∀ i, i < n → al' i = al i) {v : FV} (hv : fvok n v = true) : fvv al' v = fvv al v := by
  rcases v with v | id
  · rfl
  · show Value.ref _ = Value.ref _
    rw [h id (by simpa [fvok] using hv)]
theorem fvs_al {al al' : Nat → Nat} {n : Nat} (h : ∀ i, i < n → al' i = al i) {vs : List FV} (hv : vs.all (fvok n) = true) : vs.map (fvv al') = vs.map (fvv al) :=
  List.map_congr_left fun v hm => fvv_al h (List.all_eq_true.mp hv v hm)
theorem wsOf_app {ta : Nat → ClassId} {al : Nat → Nat} {m : Mem} (S T : List Sh) : wsOf (S ++ T) ta al m = wsOf S ta al m ++ (T.zipIdx S.length).map (fun q => (al q.2, cel ta al m q.2 q.1)) := by
  unfold wsOf
  rw [List.zipIdx_append, List.map_append, Nat.zero_add]
theorem va_P_mem {D : va_G} {cl : List vw_C} {ws ws' : va_W} {H : Heap} (h : ∀ q ∈ ws', q ∈ ws) (hP : va_P D cl ws H) : va_P D cl ws' H := fun k q hk => by
  obtain ⟨j, hj⟩ := List.getElem?_of_mem (h q (List.mem_of_getElem? hk))
  exact hP j q hj
theorem va_D_iff {A : Nat → Prop} {ws : va_W} : va_D A ws ↔ (ws.map (·.1)).Nodup ∧ ∀ q ∈ ws, A q.1 := by
  constructor
  · intro h
    refine ⟨?_, fun q hq => ?_⟩
    · refine List.pairwise_iff_getElem.mpr (fun i j hi hj hij e => ?_)
      rw [List.length_map] at hi hj
      rw [List.getElem_map, List.getElem_map] at e
      have := h.1 i j _ _ (List.getElem?_eq_getElem hi) (List.getElem?_eq_getElem hj) e
      omega
    · obtain ⟨j, hj⟩ := List.getElem?_of_mem hq
      exact h.2 j q hj
  · rintro ⟨h1, h2⟩
    refine ⟨fun i j p q hi hj hpq => ?_, fun k q hk => h2 q (List.mem_of_getElem? hk)⟩
    have h3 := List.pairwise_iff_getElem.mp h1
    obtain ⟨hil, hi⟩ := List.getElem?_eq_some_iff.mp hi
    obtain ⟨hjl, hj⟩ := List.getElem?_eq_some_iff.mp hj
    rcases Nat.lt_trichotomy i j with h | h | h
    · exact absurd (by rw [List.getElem_map, List.getElem_map, hi, hj, hpq]) (h3 i j (by rwa [List.length_map]) (by rwa [List.length_map]) h)
    · exact h
    · exact absurd (by rw [List.getElem_map, List.getElem_map, hi, hj, hpq]) (h3 j i (by rwa [List.length_map]) (by rwa [List.length_map]) h)
theorem va_D_perm {A : Nat → Prop} {ws ws' : va_W} (hp : ws.Perm ws') (h : va_D A ws) : va_D A ws' := by
  rw [va_D_iff] at h ⊢
  exact ⟨(hp.map _).nodup_iff.mp h.1, fun q hq => h.2 q (hp.mem_iff.mpr hq)⟩
theorem zip_rep {α : Type} (x : α) (N d : Nat) : (List.replicate N x).zipIdx d = (List.range N).map (fun i => (x, d + i)) := by
  apply List.ext_getElem?
  intro k
  rw [List.getElem?_zipIdx, List.getElem?_replicate, List.getElem?_map]
  by_cases h : k < N
  · rw [List.getElem?_range h, if_pos h]
    rfl
  · rw [if_neg h, List.getElem?_eq_none (by rw [List.length_range]; omega)]
    rfl
/-- the world: the object under way, the cells made so far, what is pending -/
def nW (ta : Nat → ClassId) (g a ci : Nat) (fk : List FV) (S : List Sh) (m : Mem) (pd : (Nat → Nat) → va_W) (al : Nat → Nat) : va_W := (a, .inr (ci, fk.map (fvv al))) :: ((wsOf S ta al m).drop g ++ pd al)
def exok (ex : List Nat) (al : Nat → Nat) : Prop := ∀ j b : Nat, ex[j]? = some b → al j = b
theorem exok.to {ex : List Nat} {al al' : Nat → Nat} {n : Nat} (h : exok ex al) (hg : ex.length ≤ n) (hag : ∀ i, i < n → al' i = al i) : exok ex al' := fun j b hj => by
  have := (List.getElem?_eq_some_iff.mp hj).1
  rw [hag j (by omega)]
  exact h j b hj
theorem wsOf_len (S : List Sh) (ta : Nat → ClassId) (al : Nat → Nat) (m : Mem) : (wsOf S ta al m).length = S.length := by simp [wsOf]
def wfN (L : List (Nat × FV)) (st fk : List FV) (S : List Sh) : Bool := (L.all fun q => fvok S.length q.2) && (st.all (fvok S.length) && (fk.all (fvok S.length) && wfS S))
def pdok (S : List Sh) (pd : (Nat → Nat) → va_W) : Prop := ∀ al al' : Nat → Nat, (∀ i, i < S.length → al' i = al i) → pd al' = pd al
def NJ (G : Gl) (R : Room) (Q : State → Prop) (C : Ct) (ex : List Nat) (a ci k n pc : Nat) (L : List (Nat × FV)) (st fk : List FV) (S : List Sh) (m : Mem) (pd : (Nat → Nat) → va_W) : Prop := match C with
  | (p, e, s, m9, args, below, meth, c, A0) => ∀ (al : Nat → Nat) (H : Heap) (locs : List Loc) (ls : Array Slot), exok ex al → va_P G.2.1 vC (nW G.2.2.1 ex.length a ci fk S m pd al) H → va_D A0 (nW G.2.2.1 ex.length a ci fk S m pd al) → va_S A0 s.heap H locs → lv_has ls c.maxLocals (L.map fun q => (q.1, fvv al q.2)) → W p G.1 e R s m9 args below meth c H locs k n Q (F0 m9 pc ls (st.map (fvv al)))
section NR
variable {SH : List Sh} {G : Gl} {R : Room} {Q : State → Prop} {C : Ct} {ex : List Nat} {a ci k n pc : Nat} {L : List (Nat × FV)} {st fk : List FV} {S : List Sh} {m : Mem} {pd : (Nat → Nat) → va_W} {cc : ByteArray} {nL : Nat} {own : String} {ret : Option FieldType} {nx : Bool}
theorem nl_cat {ls : Array Slot} {al : Nat → Nat} (h : lv_has ls nL (L.map fun q => (q.1, fvv al q.2))) (j : Nat) {i : Nat} {v : FV} (hj : L[j]? = some (i, v)) : ls[i]? = some (.val (fvv al v)) :=
  lv_at h j (by rw [List.getElem?_map, hj]; rfl)
theorem n_load (X : Cx SH G R C cc nL own ret nx) {i : Fin 4} {b : Nat} (j : Nat) (hj : L[j]? = some (i.val, .inl (.ref b))) (d : decode cc pc = .ok (.aload_n i, 1)) (kk : NJ G R Q C ex a ci k n (pc + 1) L (.inl (.ref b) :: st) fk S m pd) : NJ G R Q C ex a ci k n pc L st fk S m pd := by
  obtain ⟨p, e, s, m9, args, below, meth, c, A0⟩ := C
  obtain ⟨hx, hb, -⟩ := X
  intro al H locs ls hx9 hP hD hS hl
  exact lv_aload_n hx hb d rfl (nl_cat hl j hj) (kk al H locs ls hx9 hP hD hS hl)
theorem n_loadI (X : Cx SH G R C cc nL own ret nx) {i : Fin 4} {b : Nat} (j : Nat) (hj : L[j]? = some (i.val, .inr b)) (d : decode cc pc = .ok (.aload_n i, 1)) (kk : NJ G R Q C ex a ci k n (pc + 1) L (.inr b :: st) fk S m pd) : NJ G R Q C ex a ci k n pc L st fk S m pd := by
  obtain ⟨p, e, s, m9, args, below, meth, c, A0⟩ := C
  obtain ⟨hx, hb, -⟩ := X
  intro al H locs ls hx9 hP hD hS hl
  exact lv_aload_n hx hb d rfl (nl_cat hl j hj) (kk al H locs ls hx9 hP hD hS hl)
theorem n_loadIW (X : Cx SH G R C cc nL own ret nx) {i b : Nat} (j : Nat) (hj : L[j]? = some (i, .inr b)) (d : decode cc pc = .ok (.aload i, 2)) (kk : NJ G R Q C ex a ci k n (pc + 2) L (.inr b :: st) fk S m pd) : NJ G R Q C ex a ci k n pc L st fk S m pd := by
  obtain ⟨p, e, s, m9, args, below, meth, c, A0⟩ := C
  obtain ⟨hx, hb, -⟩ := X
  intro al H locs ls hx9 hP hD hS hl
  exact lv_aload hx hb d (nl_cat hl j hj) (kk al H locs ls hx9 hP hD hS hl)
theorem n_loadW (X : Cx SH G R C cc nL own ret nx) {i b : Nat} (j : Nat) (hj : L[j]? = some (i, .inl (.ref b))) (d : decode cc pc = .ok (.aload i, 2)) (kk : NJ G R Q C ex a ci k n (pc + 2) L (.inl (.ref b) :: st) fk S m pd) : NJ G R Q C ex a ci k n pc L st fk S m pd := by
  obtain ⟨p, e, s, m9, args, below, meth, c, A0⟩ := C
  obtain ⟨hx, hb, -⟩ := X
  intro al H locs ls hx9 hP hD hS hl
  exact lv_aload hx hb d (nl_cat hl j hj) (kk al H locs ls hx9 hP hD hS hl)
theorem n_const (X : Cx SH G R C cc nL own ret nx) {z : Int} (d : decode cc pc = .ok (.iconst z, 1)) (kk : NJ G R Q C ex a ci k n (pc + 1) L (.inl (.int (i32 z)) :: st) fk S m pd) : NJ G R Q C ex a ci k n pc L st fk S m pd := by
  obtain ⟨p, e, s, m9, args, below, meth, c, A0⟩ := C
  obtain ⟨hx, hb, -⟩ := X
  intro al H locs ls hx9 hP hD hS hl
  exact lv_iconst hx hb d (v := i32 z) rfl (kk al H locs ls hx9 hP hD hS hl)
theorem n_bipush (X : Cx SH G R C cc nL own ret nx) {z : Int} (hz : -128 ≤ z ∧ z ≤ 127) (d : decode cc pc = .ok (.bipush z, 2)) (kk : NJ G R Q C ex a ci k n (pc + 2) L (.inl (.int (i32 z)) :: st) fk S m pd) : NJ G R Q C ex a ci k n pc L st fk S m pd := by
  obtain ⟨p, e, s, m9, args, below, meth, c, A0⟩ := C
  obtain ⟨hx, hb, -⟩ := X
  intro al H locs ls hx9 hP hD hS hl
  exact lv_bipush hx hb d (v := i32 z) (b8 hz) (kk al H locs ls hx9 hP hD hS hl)
theorem n_sipush (X : Cx SH G R C cc nL own ret nx) {z : Int} (hz : -32768 ≤ z ∧ z ≤ 32767) (d : decode cc pc = .ok (.sipush z, 3)) (kk : NJ G R Q C ex a ci k n (pc + 3) L (.inl (.int (i32 z)) :: st) fk S m pd) : NJ G R Q C ex a ci k n pc L st fk S m pd := by
  obtain ⟨p, e, s, m9, args, below, meth, c, A0⟩ := C
  obtain ⟨hx, hb, -⟩ := X
  intro al H locs ls hx9 hP hD hS hl
  exact lv_sipush hx hb d (v := i32 z) (b16 hz) (kk al H locs ls hx9 hP hD hS hl)
theorem n_dup (X : Cx SH G R C cc nL own ret nx) {b : Nat} (d : decode cc pc = .ok (.dup, 1)) (kk : NJ G R Q C ex a ci k n (pc + 1) L (.inl (.ref b) :: .inl (.ref b) :: st) fk S m pd) : NJ G R Q C ex a ci k n pc L (.inl (.ref b) :: st) fk S m pd := by
  obtain ⟨p, e, s, m9, args, below, meth, c, A0⟩ := C
  obtain ⟨hx, hb, -⟩ := X
  intro al H locs ls hx9 hP hD hS hl
  exact lv_dup hx hb d rfl (kk al H locs ls hx9 hP hD hS hl)
theorem n_objInit (X : Cx SH G R C cc nL own ret nx) {b i : Nat} (w1 : Cond.methodLink own i Lib.objectInit ∈ lw_U) (w2 : Cond.instanceMethod Lib.objectInit ∈ lw_U) (w3 : Cond.code Lib.objectInit ⟨#[0xb1]⟩ 1 none ∈ lw_U) (hst : st = []) (d : decode cc pc = .ok (.invokespecial i, 3)) (hf : 1 ≤ R.frames) (hloc : 12 ≤ R.locals) (kk : NJ G R Q C ex a ci k n (pc + 3) L [] fk S m pd) : NJ G R Q C ex a ci k n pc L (.inl (.ref b) :: st) fk S m pd := by
  subst hst
  obtain ⟨p, e, s, m9, args, below, meth, c, A0⟩ := C
  obtain ⟨hx, hb, hml, hown, hts, -⟩ := X
  intro al H locs ls hx9 hP hD hS hl
  exact W.objInit hx hb hown (hts _ w1) (hts _ w2) (hts _ w3) rfl hl.1 rfl d hf (by show 2 * 0 + 0 + 12 ≤ R.locals; omega) (kk al H locs ls hx9 hP hD hS hl)
/-- a new array -/
theorem n_newa (X : Cx SH G R C cc nL own ret nx) {t N : Nat} {at9 : ArrayType} {ty : FieldType} (hat : newarray.typeOf at9 = ty) (htt : (tysC G.2.2.1)[t]? = some (G.2.2.1 t, ty)) (hra : ∀ (U : State) (cA : ClassId), va_RA U cA ty ↔ U.vm.findClass ("[" ++ ty.toString) = some cA) (w : Cond.arrayClass ty ∈ lw_U)
    (ha : ∀ cA : ClassId, vp_cell cA (N, kon (fun _ => 0) t) = arrV cA N (fun _ => defaultValue ty)) (hN : N ≤ 1000) (hcb : componentBytes ty ≤ 8) (hm : ∀ i, m S.length i = 0) (hg : ex.length ≤ S.length) (hw : wfN L st fk S = true) (hpd : pdok S pd) (hcells : k + 1 ≤ R.cells) (hslots : n + N ≤ R.slots) (d : decode cc pc = .ok (.newarray at9, 2))
    (kk : NJ G R Q C ex a ci (k + 1) (n + N) (pc + 2) L (.inr S.length :: st) fk (S ++ [.inr (t, N, none)]) m pd) : NJ G R Q C ex a ci k n pc L (.inl (.int (i32 N)) :: st) fk S m pd := by
  obtain ⟨p, e, s, m9, args, below, meth, c, A0⟩ := C
  obtain ⟨hx, hb, hml, hown, hts, hK, hr, hlk, hex, hXB, hst, hA⟩ := X
  intro al H locs ls hx9 hP hD hS hl
  have hin : InR (N : Int) := ⟨by omega, by omega⟩
  have hnn : ¬ i32 (N : Int) < 0 := fun q => by
    have : i32 (N : Int) < i32 0 := q
    rw [i32_lt hin ⟨by omega, by omega⟩] at this
    omega
  refine va_newa hx hb (atype := at9) (by rw [hat]; exact hts _ w) hat hK hP hD hS hA (N' := N) (a0 := (N, kon (fun _ => 0) t)) ha hnn (by rw [i32_nat (by omega) hin]; omega) (by have := Nat.mul_le_mul_left N hcb; omega) hcells hslots d (fun q cA H1 hK1 hP1 hD1 hS1 => ?_)
  have hcA : cA = G.2.2.1 t := by
    have h1 := (hra s cA).mp (hK1.2 (tysC G.2.2.1).length (cA, ty) (by rw [List.getElem?_append_right (Nat.le_refl _), Nat.sub_self]; rfl)).2
    have h2 := (hra s (G.2.2.1 t)).mp (hK.2 t _ htt).2
    exact Option.some.inj (h1.symm.trans h2)
  subst hcA
  simp only [wfN, Bool.and_eq_true] at hw
  obtain ⟨w1, w2, w3, w4⟩ := hw
  let al' : Nat → Nat := fun i => if i = S.length then q else al i
  have hag : ∀ i, i < S.length → al' i = al i := fun i h => if_neg (by omega)
  have hq : al' S.length = q := if_pos rfl
  have hp : ((nW G.2.2.1 ex.length a ci fk S m pd al) ++ [(q, (.inl (G.2.2.1 t, (N, kon (fun _ => 0) t)) : va_E))]).Perm (nW G.2.2.1 ex.length a ci fk (S ++ [.inr (t, N, none)]) m pd al') := by
    unfold nW
    rw [wsOf_app, wsOf_al hag w4, fvs_al hag w3, hpd al al' hag, List.drop_append_of_le_length (by rw [wsOf_len]; exact hg)]
    show List.Perm (_ :: (((wsOf S G.2.2.1 al m).drop ex.length ++ pd al) ++ [(q, (.inl (G.2.2.1 t, (N, kon (fun _ => 0) t)) : va_E))])) (_ :: (((wsOf S G.2.2.1 al m).drop ex.length ++ [(al' S.length, (.inl (G.2.2.1 t, N, kon (m S.length) t) : va_E))]) ++ pd al))
    rw [hq, show m S.length = fun _ => 0 from funext hm, List.append_assoc, List.append_assoc]
    exact List.Perm.cons _ (List.Perm.append_left _ List.perm_append_comm)
  have hj := kk al' H1 locs ls (hx9.to hg hag) (va_P_mem (fun x hx => hp.mem_iff.mpr hx) hP1) (va_D_perm hp hD1) hS1 (by
    have e : (L.map fun q => (q.1, fvv al' q.2)) = L.map fun q => (q.1, fvv al q.2) := List.map_congr_left fun x hx => by rw [fvv_al hag (List.all_eq_true.mp w1 x hx)]
    rw [e]
    exact hl)
  rw [List.map_cons, fvs_al hag w2, show fvv al' (.inr S.length) = .ref q from congrArg Value.ref hq] at hj
  exact hj
/-- an array of arrays -/
theorem n_mna (X : Cx SH G R C cc nL own ret nx) {i N K : Nat} (wl : Cond.classLink own i "[[I" ∈ lw_U) (wa : Cond.arrayClass .int ∈ lw_U) (hao : match C with | (_, _, s, _, _, _, _, _, _) => va_AOA .int s) (hN : N ≤ 1000) (hK0 : K ≤ 1000) (hm : ∀ c, S.length ≤ c → c < S.length + (1 + N) → ∀ i, m c i = 0) (hg : ex.length ≤ S.length) (hw : wfN L st fk S = true) (hpd : pdok S pd) (hcells : k + (1 + N) ≤ R.cells) (hslots : n + (N + N * K) ≤ R.slots) (d : decode cc pc = .ok (.multianewarray i 2, 4))
    (kk : NJ G R Q C ex a ci (k + (1 + N)) (n + (N + N * K)) (pc + 4) L (.inr S.length :: st) fk (S ++ (.inr (3, N, some (S.length + 1, 1)) :: List.replicate N (.inr (0, K, none)))) m pd) : NJ G R Q C ex a ci k n pc L (.inl (.int (i32 K)) :: .inl (.int (i32 N)) :: st) fk S m pd := by
  obtain ⟨p, e, s, m9, args, below, meth, c, A0⟩ := C
  obtain ⟨hx, hb, hml, hown, hts, hK, hr, hlk, hex, hXB, hst, hA⟩ := X
  intro al H locs ls hx9 hP hD hS hl
  have hin : InR (N : Int) := ⟨by omega, by omega⟩
  have hik : InR (K : Int) := ⟨by omega, by omega⟩
  have hnn : ∀ z : Nat, InR (z : Int) → ¬ i32 (z : Int) < 0 := fun z hz q => by
    have : i32 (z : Int) < i32 0 := q
    rw [i32_lt hz ⟨by omega, by omega⟩] at this
    omega
  have hnt : ∀ z : Nat, InR (z : Int) → (i32 (z : Int)).toNatClampNeg = z := fun z hz => by rw [i32_nat (by omega) hz]; omega
  have e0 : nW G.2.2.1 ex.length a ci fk S m pd al = nW G.2.2.1 ex.length a ci fk S m pd al ++ va_pl [] (fun _ => .inr (0, [])) := (List.append_nil _).symm
  rw [e0] at hP hD
  have hcy : s.vm.findClass (FieldType.array .int).toString = some (G.2.2.1 0) := (hK.2 0 (G.2.2.1 0, .int) rfl).2
  refine va_mna (ty := .int) hx hb hown (hts _ wl) hao (hts _ wa) hcy hK hP hD hS hA (z := (K, .inl (fun _ => 0))) (hnn N hin) (hnn K hik) (hnt N hin) (hnt K hik) (by omega) (by show K * 4 ≤ 536870912; omega) (by omega) (by decide) (by decide) hcells hslots (fun cA => by show _ = arrV cA K (fun _ => .int 0); rw [← arrV_new]; rfl) d (fun q r cA H1 hinj hrL hK1 hP1 hD1 hS1 => ?_)
  have hcA : cA = G.2.2.1 3 := by
    have h1 : s.vm.findClass "[[I" = some cA := (hK1.2 (tysC G.2.2.1).length (cA, .array .int) (by rw [List.getElem?_append_right (Nat.le_refl _), Nat.sub_self]; rfl)).2
    have h2 : s.vm.findClass "[[I" = some (G.2.2.1 3) := (hK.2 3 (G.2.2.1 3, .array .int) rfl).2
    exact Option.some.inj (h1.symm.trans h2)
  subst hcA
  simp only [wfN, Bool.and_eq_true] at hw
  obtain ⟨w1, w2, w3, w4⟩ := hw
  let al' : Nat → Nat := fun i => if i < S.length then al i else if i = S.length then q else r (i - (S.length + 1))
  have hag : ∀ i, i < S.length → al' i = al i := fun i h => if_pos h
  have hq : al' S.length = q := by show (if _ then _ else _) = q; rw [if_neg (by omega), if_pos rfl]
  have hr9 : ∀ i, al' (S.length + 1 + i) = r i := fun i => by show (if _ then _ else _) = r i; rw [if_neg (by omega), if_neg (by omega), Nat.add_sub_cancel_left]
  have ef : va_pl ([] ++ (List.range N).map r) (vr_up (fun _ => .inr (0, [])) ((List.range N).map r) (.inl (G.2.2.1 0, (K, .inl (fun _ => 0))))) = (List.range N).map (fun i => (r i, (.inl (G.2.2.1 0, (K, .inl (fun _ => 0))) : va_E))) := by
    unfold va_pl
    rw [List.nil_append, List.map_map]
    apply List.map_congr_left
    intro j hj
    show (r j, vr_up _ _ _ (r j)) = _
    rw [vr_up_in (List.mem_map.mpr ⟨j, hj, rfl⟩)]
  rw [ef] at hP1 hD1
  have hz0 : ∀ c, S.length ≤ c → c < S.length + (1 + N) → m c = fun _ => 0 := fun c h1 h2 => funext (hm c h1 h2)
  have hp : ((nW G.2.2.1 ex.length a ci fk S m pd al ++ [(q, (.inl (G.2.2.1 3, N, .inr (.inr (.inr (.inr (fun i => if i < N then some (r i) else none))))) : va_E))]) ++ (List.range N).map (fun i => (r i, (.inl (G.2.2.1 0, (K, .inl (fun _ => 0))) : va_E)))).Perm (nW G.2.2.1 ex.length a ci fk (S ++ (.inr (3, N, some (S.length + 1, 1)) :: List.replicate N (.inr (0, K, none)))) m pd al') := by
    have e1 : (List.zipIdx ((.inr (3, N, some (S.length + 1, 1)) : Sh) :: List.replicate N (.inr (0, K, none))) S.length).map (fun q => (al' q.2, cel G.2.2.1 al' m q.2 q.1)) = (q, (.inl (G.2.2.1 3, N, .inr (.inr (.inr (.inr (fun i => if i < N then some (r i) else none))))) : va_E)) :: (List.range N).map (fun i => (r i, (.inl (G.2.2.1 0, (K, .inl (fun _ => 0))) : va_E))) := by
      rw [List.zipIdx_cons, zip_rep, List.map_cons, List.map_map]
      congr 1
      · show (al' S.length, (Sum.inl (G.2.2.1 3, N, Sum.inr (Sum.inr (Sum.inr (Sum.inr (fun j => if j < N then some (al' (S.length + 1 + 1 * j)) else none))))) : va_E)) = _
        have e3 : (fun j => if j < N then some (al' (S.length + 1 + 1 * j)) else none) = (fun i => if i < N then some (r i) else none) := by
          funext j
          rw [Nat.one_mul, hr9]
        rw [hq, e3]
      · apply List.map_congr_left
        intro j hj
        have hj := List.mem_range.mp hj
        show (al' (S.length + 1 + j), (Sum.inl (G.2.2.1 0, K, kon (m (S.length + 1 + j)) 0) : va_E)) = _
        rw [hr9, hz0 _ (by omega) (by omega)]
        rfl
    unfold nW
    rw [wsOf_app, wsOf_al hag w4, fvs_al hag w3, hpd al al' hag, e1, List.drop_append_of_le_length (by rw [wsOf_len]; exact hg)]
    show List.Perm (_ :: ((((wsOf S G.2.2.1 al m).drop ex.length ++ pd al) ++ [_]) ++ _)) (_ :: (((wsOf S G.2.2.1 al m).drop ex.length ++ (_ :: _)) ++ pd al))
    rw [List.append_assoc, List.append_assoc, List.append_assoc, List.singleton_append]
    exact List.Perm.cons _ (List.Perm.append_left _ List.perm_append_comm)
  have hj := kk al' H1 locs ls (hx9.to hg hag) (va_P_mem (fun x hx => hp.mem_iff.mpr hx) hP1) (va_D_perm hp hD1) hS1 (by
    have e : (L.map fun q => (q.1, fvv al' q.2)) = L.map fun q => (q.1, fvv al q.2) := List.map_congr_left fun x hx => by rw [fvv_al hag (List.all_eq_true.mp w1 x hx)]
    rw [e]
    exact hl)
  rw [List.map_cons, fvs_al hag w2, show fvv al' (.inr S.length) = .ref q from congrArg Value.ref hq] at hj
  rw [show k + 1 + N = k + (1 + N) by omega, show n + N + N * K = n + (N + N * K) by omega]
  exact hj
/-- a final field's entry, in its class's own constructor -/
def FFk (own : String) (i ci f : Nat) (ty : FieldType) : Prop := ∃ (Cn : String) (T : u_T) (N : Nat) (t0 : Nat → FieldType), vC[ci]? = some (Cn, T, N) ∧ f < N ∧ (∀ w ∈ u_ws Cn T N, w ∈ lw_U) ∧ Cond.fieldLink own i Cn (T f).2.1 (T f).2.2.1 ∈ lw_U ∧ (T f).1 = Cn ∧ (∀ k, k < N → parseFieldDescriptor (T k).2.2.1 = some (t0 k)) ∧ (∀ a, a < N → ∀ b, b < N → a ≠ b → (T a).2.1 ≠ (T b).2.1) ∧ (T f).2.2.2 = true ∧ (T f).1 = own ∧ parseFieldDescriptor (T f).2.2.1 = some ty
def NMo (C : Ct) : Prop := match C with
  | (_, _, _, _, _, _, meth, _, _) => meth.name = "<init>"
theorem nW_set (ta : Nat → ClassId) (g a ci : Nat) (fk : List FV) (S : List Sh) (m : Mem) (pd : (Nat → Nat) → va_W) (al : Nat → Nat) (f : Nat) (v : FV) : (nW ta g a ci fk S m pd al).set 0 (a, .inr (ci, (fk.map (fvv al)).set f (fvv al v))) = nW ta g a ci (fk.set f v) S m pd al := by
  unfold nW
  rw [List.set_cons_zero, List.map_set]
theorem n_putF (X : Cx SH G R C cc nL own ret nx) (nm : NMo C) {i f : Nat} {ty : FieldType} {v : FV} (fx : FFk own i ci f ty) (hv : ∀ al, narrow ty (fvv al v) = fvv al v ∧ fits ty (fvv al v) = true) (hl9 : f < fk.length) (d : decode cc pc = .ok (.putfield i, 3)) (kk : NJ G R Q C ex a ci k n (pc + 3) L st (fk.set f v) S m pd) : NJ G R Q C ex a ci k n pc L (v :: .inl (.ref a) :: st) fk S m pd := by
  obtain ⟨p, e, s, m9, args, below, meth, c, A0⟩ := C
  obtain ⟨hx, hb, hml, hown, hts, hK, hr, hlk, hex, hXB, hst, hA⟩ := X
  intro al H locs ls hx9 hP hD hS hl
  obtain ⟨Cn, T, N, t0, c1, c2, c3, c4, c5, c6, c7, c8, c9, c10⟩ := fx
  refine va_putF (D := G.2.1) hx hb hts c3 t0 c6 c7 hown hK hP hD hS 0 (fs := fk.map (fvv al)) rfl c1 f c2 (hts _ c4) (fun _ h => c5 ▸ h) c8 nm c9 c10 (hv al).1 (hv al).2 (by rw [List.length_map]; exact hl9) d (fun H1 locs1 hP1 hD1 hS1 => ?_)
  rw [nW_set] at hP1 hD1
  exact kk al H1 locs1 ls hx9 hP1 hD1 hS1 hl
theorem n_putI (X : Cx SH G R C cc nL own ret nx) {i f : Nat} {ty : FieldType} {v : FV} (fx : FPk own i ci f ty) (hv : ∀ al, narrow ty (fvv al v) = fvv al v ∧ fits ty (fvv al v) = true) (hl9 : f < fk.length) (d : decode cc pc = .ok (.putfield i, 3)) (kk : NJ G R Q C ex a ci k n (pc + 3) L st (fk.set f v) S m pd) : NJ G R Q C ex a ci k n pc L (v :: .inl (.ref a) :: st) fk S m pd := by
  obtain ⟨p, e, s, m9, args, below, meth, c, A0⟩ := C
  obtain ⟨hx, hb, hml, hown, hts, hK, hr, hlk, hex, hXB, hst, hA⟩ := X
  intro al H locs ls hx9 hP hD hS hl
  obtain ⟨Cn, T, N, t0, c1, c2, c3, c4, c5, c6, c7, c8, c9⟩ := fx
  refine va_put (D := G.2.1) hx hb hts c3 t0 c6 c7 hown hK hP hD hS 0 (fs := fk.map (fvv al)) rfl c1 f c2 (hts _ c4) (fun _ h => c5 ▸ h) c8 c9 (hv al).1 (hv al).2 (by rw [List.length_map]; exact hl9) d (fun H1 locs1 hP1 hD1 hS1 => ?_)
  rw [nW_set] at hP1 hD1
  exact kk al H1 locs1 ls hx9 hP1 hD1 hS1 hl
theorem n_get (X : Cx SH G R C cc nL own ret nx) {i f : Nat} {v : FV} (fx : FLk own i ci f) (hv : fk[f]? = some v) (d : decode cc pc = .ok (.getfield i, 3)) (kk : NJ G R Q C ex a ci k n (pc + 3) L (v :: st) fk S m pd) : NJ G R Q C ex a ci k n pc L (.inl (.ref a) :: st) fk S m pd := by
  obtain ⟨p, e, s, m9, args, below, meth, c, A0⟩ := C
  obtain ⟨hx, hb, hml, hown, hts, hK, hr, hlk, hex, hXB, hst, hA⟩ := X
  intro al H locs ls hx9 hP hD hS hl
  obtain ⟨Cn, T, N, c1, c2, c3, c4, c5⟩ := fx
  exact va_get (D := G.2.1) hx hb hts c3 hown hK hP 0 (fs := fk.map (fvv al)) rfl c1 f c2 (hts _ c4) (fun _ h => c5 ▸ h) (v := fvv al v) (by rw [List.getElem?_map, hv]; rfl) d (kk al H locs ls hx9 hP hD hS hl)
/-- a new object, pending until its constructor has run -/
theorem n_newo (X : Cx SH G R C cc nL own ret nx) {i cx N : Nat} {Cn : String} {T : u_T} {t0 : Nat → FieldType} {fs : List Value} (hc : vC[cx]? = some (Cn, T, N)) (hin : ∀ w ∈ u_ws Cn T N, w ∈ lw_U) (hty : ∀ k, k < N → parseFieldDescriptor (T k).2.2.1 = some (t0 k)) (w1 : Cond.classLink own i Cn ∈ lw_U) (w2 : Cond.instantiable Cn N ∈ lw_U) (w3 : Cond.initialized Cn ∈ lw_U) (hfs : ∀ j, j < N → defaultValue (t0 j) = vp_V fs j) (hcells : k + 1 ≤ R.cells) (hslots : n + N ≤ R.slots) (d : decode cc pc = .ok (.new i, 3))
    (kk : ∀ q : Nat, NJ G R Q C ex a ci (k + 1) (n + N) (pc + 3) L (.inl (.ref q) :: st) fk S m (fun al => pd al ++ [(q, .inr (cx, fs))])) : NJ G R Q C ex a ci k n pc L st fk S m pd := by
  obtain ⟨p, e, s, m9, args, below, meth, c, A0⟩ := C
  obtain ⟨hx, hb, hml, hown, hts, hK, hr, hlk, hex, hXB, hst, hA⟩ := X
  intro al H locs ls hx9 hP hD hS hl
  refine va_new (D := G.2.1) hx hb hts hin t0 hty hown (hts _ w1) (hts _ w2) (hts _ w3) hK hP hD hS hA hc hfs hcells hslots d (fun q H1 hP1 hD1 hS1 => ?_)
  have e1 : nW G.2.2.1 ex.length a ci fk S m pd al ++ [(q, .inr (cx, fs))] = nW G.2.2.1 ex.length a ci fk S m (fun al => pd al ++ [(q, .inr (cx, fs))]) al := by
    unfold nW
    rw [List.cons_append, List.append_assoc]
  rw [e1] at hP1 hD1
  exact kk q al H1 locs ls hx9 hP1 hD1 hS1 hl
end NR
def AOo (U : State) : Prop := va_AOA .int U ∧ va_AO "Lastbus$Labels" U
/-- a constructor's start -/
def PN (G : Gl) (sz : Nat) (X : va_W) (U : State) : Prop := U.heap.size = sz ∧ (va_P G.2.1 vC X U.heap ∧ va_K G.2.1 vC (tysC G.2.2.1) U ∧ va_D (fun _ => True) X) ∧ XB (va_A X sz) U ∧ AOo U ∧ G.1.stackTraces = false
def QNv (G : Gl) (ex : List Nat) (a ci : Nat) (fk : List FV) (S : List Sh) (m : Mem) (A : Nat → Prop) : Array Value → State → Outcome → State → Prop := va_Qv (exok ex) (fun al t => va_P G.2.1 vC (nW G.2.2.1 ex.length a ci fk S m (fun _ => []) al) t.heap ∧ va_D A (nW G.2.2.1 ex.length a ci fk S m (fun _ => []) al)) A
/-- a constructor's contract -/
def ConN (G : Gl) (y : MethodName) (cc : ByteArray) (nL : Nat) (rm : Room) (ci : Nat) (dfs : List Value) (ex : List Nat) (fk : List FV) (S : List Sh) (m : Mem) : Prop := ∀ a sz : Nat, Met G.1 y (Cond.code y cc nL none :: lw_U) rm (va_Pc (.ref a :: ex.map Value.ref) (PN G sz [(a, .inr (ci, dfs))])) (QNv G ex a ci fk S m (va_A [(a, .inr (ci, dfs))] sz)) rm.cells rm.slots (va_A [(a, .inr (ci, dfs))] sz)
def QN (G : Gl) (R : Room) (C : Ct) (ex : List Nat) (a ci : Nat) (fk : List FV) (S : List Sh) (m : Mem) : State → Prop := match C with
  | (_, _, s, _, args, below, _, _, A0) => MQ below (QNv G ex a ci fk S m A0) args s R.cells R.slots A0
def argE : Nat → Nat → List Nat → List (Nat × FV)
  | _, _, [] => []
  | i, j, _ :: vs => (i, .inr j) :: argE (i + 1) (j + 1) vs
def AOc (C : Ct) : Prop := match C with
  | (_, _, s, _, _, _, _, _, _) => AOo s
theorem argE_map (al : Nat → Nat) : ∀ (vs : List Nat) (i j : Nat), (∀ x b : Nat, vs[x]? = some b → al (j + x) = b) → lv_args i (vs.map Value.ref) = (argE i j vs).map fun q => (q.1, fvv al q.2)
  | [], _, _, _ => rfl
  | v :: vs, i, j, h => by
    simp only [lv_args, List.map_cons, argE]
    rw [if_neg (show ¬ (Value.ref v).category = 2 by show ¬ (1 : Nat) = 2; omega), argE_map al vs (i + 1) (j + 1) (fun x b hx => by have := h (x + 1) b (by simpa using hx); rw [show j + 1 + x = j + (x + 1) by omega]; exact this)]
    have h0 := h 0 v rfl
    rw [Nat.add_zero] at h0
    show (i, Value.ref v) :: _ = (i, Value.ref (al j)) :: _
    rw [h0]
theorem refs_sl : ∀ vs : List Nat, (lg_sl (vs.map Value.ref)).length = vs.length
  | [] => rfl
  | v :: vs => by
    have h2 := refs_sl vs
    unfold lg_sl at h2 ⊢
    rw [List.map_cons, List.flatMap_cons, List.length_append, h2]
    simp [Value.category]
    omega
theorem conN_of {G : Gl} {y : MethodName} {cc : ByteArray} {nL : Nat} {rm : Room} {ci : Nat} {dfs : List Value} {ex : List Nat} {fk : List FV} {S : List Sh} {m : Mem} {own : String} (hy : plainName y.cls = true) (ho : y.cls = own) (hyn : y.name = "<init>") (hn : ex.length + 1 ≤ nL)
    (body : ∀ (a : Nat) (C : Ct), Cx [] G rm C cc nL own none false → NMo C → AOc C → NJ G rm (QN G rm C ex a ci fk S m) C ex a ci 0 0 0 ((0, .inl (.ref a)) :: argE 1 0 ex) [] (dfs.map Sum.inl) (List.replicate ex.length (.inr (0, 0, none))) m (fun _ => [])) : ConN G y cc nL rm ci dfs ex fk S m := by
  intro a sz
  refine Met.ofW (cc := cc) (maxL := nL) (ret := none) hy rfl ?_
  intro p e s m9 args9 below meth c s₁ B hml hv
  obtain ⟨rfl, hsz, ⟨hP, hK, hD⟩, hXB, hAO, hst⟩ := hv
  have hts := atoms_spec (ws := Cond.code y cc nL none :: lw_U) B.pre
  have X : Cx [] G rm (p, e, s, m9, (Value.ref a :: ex.map Value.ref).toArray, below, meth, c, va_A [(a, .inr (ci, dfs))] sz) cc nL own none false :=
    ⟨B.exec, B.bytes, hml, ho ▸ findClass_of_methodNamed B.named, fun w hw => hts w (List.mem_cons_of_mem _ hw), hK, B.returns, B.notSynchronized, fun h => (by cases h), hXB, hst, fun q h => Or.inr (hsz ▸ h)⟩
  have hnm : meth.name = "<init>" := (name_of_methodNamed B.named B.method).1.trans hyn
  let al0 : Nat → Nat := fun j => ex.getD j 0
  have hx0 : exok ex al0 := fun j b hj => by show ex.getD j 0 = b; rw [List.getD_eq_getElem?_getD, hj]; rfl
  have hl := lv_entry (Value.ref a :: ex.map Value.ref) (n := nL) (by rw [show Value.ref a :: ex.map Value.ref = (a :: ex).map Value.ref from rfl, refs_sl]; exact hn)
  have el : lv_args 0 (Value.ref a :: ex.map Value.ref) = ((0, .inl (.ref a)) :: argE 1 0 ex).map fun q => (q.1, fvv al0 q.2) := by
    rw [List.map_cons, ← argE_map al0 ex 1 0 (fun x b hx => by rw [Nat.zero_add]; exact hx0 x b hx)]
    rfl
  rw [el] at hl
  have eW : nW G.2.2.1 ex.length a ci (dfs.map Sum.inl) (List.replicate ex.length (.inr (0, 0, none))) m (fun _ => []) al0 = [(a, .inr (ci, dfs))] := by
    unfold nW
    rw [List.map_map, show (fvv al0 ∘ Sum.inl) = id from rfl, List.map_id, List.drop_eq_nil_of_le (by rw [wsOf_len, List.length_replicate]; exact Nat.le_refl _)]
    rfl
  have hj := body a _ X hnm hAO al0 s.heap [] _ hx0 (eW ▸ hP) (eW ▸ hD.self) va_S.rf (by show lv_has _ c.maxLocals _; rw [hml]; exact hl)
  rw [lg_entry_eq]
  exact hj
section NR2
variable {SH : List Sh} {G : Gl} {R : Room} {Q : State → Prop} {C : Ct} {ex : List Nat} {a ci k n pc : Nat} {L : List (Nat × FV)} {st fk : List FV} {S : List Sh} {m : Mem} {pd : (Nat → Nat) → va_W} {cc : ByteArray} {nL : Nat} {own : String} {nx : Bool}
theorem n_ret (X : Cx SH G R C cc nL own none nx) (hk : k ≤ R.cells) (hn : n ≤ R.slots) (d : decode cc pc = .ok (.return_, 1)) : NJ G R (QN G R C ex a ci fk S m) C ex a ci k n pc L [] fk S m (fun _ => []) := by
  obtain ⟨p, e, s, m9, args, below, meth, c, A0⟩ := C
  obtain ⟨hx, hb, hml, hown, hts, hK, hr, hlk, hex, hXB, hst, hA⟩ := X
  intro al H locs ls hx9 hP hD hS hl
  refine W.widen hk hn ?_
  exact W.vret hx hb hr (fun t ht hW => ⟨⟨al, rfl, hx9, by rw [ht]; exact hP, hD⟩, hS.F ht⟩) hS.2.2 d hlk
/-- a constructor's words -/
def CIk (own : String) (i : Nat) (y : MethodName) (bytes : ByteArray) (nl na : Nat) : Prop :=
  ((∃ host : String, Cond.methodLinkNest own i y host ∈ lw_tbl) ∨ Cond.methodLink own i y ∈ lw_U) ∧ Cond.instanceMethod y ∈ lw_U ∧ Cond.initialized y.cls ∈ lw_U ∧ Cond.code y bytes nl none ∈ lw_U ∧ y.name = "<init>" ∧
  (y.cls ≠ "java/lang/invoke/MethodHandle" ∧ y.cls ≠ "java/lang/invoke/VarHandle" ∧ (parseMethodDescriptor y.desc).map (fun d => d.parameters.length) = some na)
theorem va_AOA.spec {u : State} (h : va_AOA .int u) : ∃ (comp c : ClassId) (k : Class), u.vm.findClass (FieldType.array .int).toString = some comp ∧ (u.vm.classes.findIdx? fun (x : Class) => match x.kind with | .array component _ => component == comp | _ => false) = some c ∧ u.vm.classes[c]? = some k ∧ k.kind = .array comp (.array .int) ∧ u.vm.findClass ("[" ++ (FieldType.array .int).toString) = some c := by
  unfold va_AOA Cond.before at h
  simp only [Cond.holds, Cond.value, beq_iff_eq] at h
  cases hc : u.vm.findClass (FieldType.array .int).toString with
  | none => simp [hc] at h
  | some comp =>
    simp only [hc, Option.bind_some, Option.bind_eq_some_iff, Option.map_eq_some_iff] at h
    obtain ⟨c, hi, k, hk, hb⟩ := h
    obtain ⟨hlt, hp, -⟩ := Array.findIdx?_eq_some_iff_getElem.mp hi
    have hkk : u.vm.classes[c] = k := (Array.getElem?_eq_some_iff.mp hk).2
    rw [hkk] at hp
    cases hkind : k.kind with
    | array component ty =>
      rw [hkind] at hb hp
      simp at hb hp
      exact ⟨comp, c, k, rfl, hi, hk, by rw [hkind, hp, hb.1], hb.2⟩
    | _ => rw [hkind] at hb; simp at hb
theorem va_AOA.moved {u U : State} (hvm : u.vm.Alike U.vm) (h : va_AOA .int u) : va_AOA .int U := by
  obtain ⟨comp, c, k, h1, h2, h3, h4, h5⟩ := h.spec
  obtain ⟨k', hk', he⟩ := hvm.2.2 _ _ h3
  have hi : (U.vm.classes.findIdx? fun (x : Class) => match x.kind with | .array component _ => component == comp | _ => false) = some c := by
    refine (va_idx_bare U.vm comp).symm.trans ?_
    first
    | (rw [hvm.bare_eq]; exact (va_idx_bare u.vm comp).trans h2)
    | (rw [← hvm.bare_eq]; exact (va_idx_bare u.vm comp).trans h2)
  have hkind : k'.kind = .array comp (.array .int) := by rw [he]; exact h4
  have f1 : U.vm.findClass (FieldType.array .int).toString = some comp := by rw [hvm.findClass]; exact h1
  have f2 : U.vm.findClass ("[" ++ (FieldType.array .int).toString) = some c := by rw [hvm.findClass]; exact h5
  unfold va_AOA Cond.before Cond.holds
  simp only [Cond.value]
  rw [f1, Option.bind_some]
  refine (congrArg (fun o : Option Nat => (o.bind (fun c => (U.vm.classes[c]?).map fun (k : Class) => match k.kind with | .array _ ty => decide (ty = FieldType.array .int) && decide (U.vm.findClass ("[" ++ (FieldType.array .int).toString) = some c) | _ => false) == some true)) hi).trans ?_
  simp [hk', hkind, f2]
theorem AOo.moved {u U : State} (hvm : u.vm.Alike U.vm) (h : AOo u) : AOo U := ⟨va_AOA.moved hvm h.1, h.2.moved hvm⟩
theorem PN_blind {G : Gl} {sz : Nat} {W9 : va_W} {As : List Value} : FrameBlind (va_Pc As (PN G sz W9)) := by
  intro a U g mk h
  obtain ⟨h0, h1, ⟨hP, hK, hD⟩, ⟨x1, x2, x3, x4⟩, hao, h5⟩ := h
  exact ⟨h0, h1, ⟨hP, va_K.moved (u := U) (U := U.calling g mk a) (Vm.Alike.refl U.vm) hK, hD⟩, ⟨vx_Zq.moved (u := U) (U := U.calling g mk a) (Vm.Alike.refl U.vm) x1, vx_Zq.moved (u := U) (U := U.calling g mk a) (Vm.Alike.refl U.vm) x2, fun q hq => (x3 q hq).imp fun _ z => vk_R.same (u := U) (U := U.calling g mk a) rfl z, fun w hw => va_Nw.same (u := U) (U := U.calling g mk a) (by
    have := (List.mem_filter.mp hw).2
    cases w <;> first | rfl | (simp [isD] at this)) rfl (x4 w hw)⟩, AOo.moved (u := U) (U := U.calling g mk a) (Vm.Alike.refl U.vm) hao, h5⟩
/-- shapes under a renaming -/
def shR (ρ : Nat → Nat) : Sh → Sh
  | .inl o => .inl (o.1, o.2.map (Option.map ρ))
  | .inr (t, n, b) => .inr (t, n, b.map (fun q => (ρ q.1, q.2)))
def rho (gc d : Nat) (av : List Nat) : Nat → Nat := fun j => if j < gc then av.getD j 0 else d + (j - gc)
def shgc (gc : Nat) : Sh → Bool
  | .inr (_, _, some b) => gc ≤ b.1
  | _ => true
theorem cel_ren {ta : Nat → ClassId} {al alc : Nat → Nat} {m mc : Mem} {c x gc d n : Nat} {av : List Nat} (h : ∀ j, j < n → al (rho gc d av j) = alc j) (hm : ∀ i, m c i = mc x i) {sh : Sh} (hs : shok n sh = true) (hg : shgc gc sh = true) : cel ta al m c (shR (rho gc d av) sh) = cel ta alc mc x sh := by
  rcases sh with o | ⟨t, N, b | b⟩
  · show Sum.inr (o.1, ((o.2.map (Option.map (rho gc d av))).zipIdx.map (fvl al m c))) = Sum.inr (o.1, o.2.zipIdx.map (fvl alc mc x))
    congr 2
    apply List.ext_getElem?
    intro j
    simp only [List.getElem?_map, List.getElem?_zipIdx]
    cases hj : o.2[j]? with
    | none => rfl
    | some q =>
      cases q with
      | none =>
        show some (Value.int (i32 (m c (0 + j)))) = some (Value.int (i32 (mc x (0 + j))))
        rw [hm]
      | some id =>
        have h1 := List.all_eq_true.mp hs _ (List.mem_of_getElem? hj)
        show some (Value.ref (al (rho gc d av id))) = some (Value.ref (alc id))
        rw [h id (by simpa using h1)]
  · show Sum.inl (ta t, N, kon (m c) t) = Sum.inl (ta t, N, kon (mc x) t)
    rw [show m c = mc x from funext hm]
  · show Sum.inl (ta t, N, Sum.inr (Sum.inr (Sum.inr (Sum.inr (fun j => if j < N then some (al (rho gc d av b.1 + b.2 * j)) else none))))) = Sum.inl (ta t, N, Sum.inr (Sum.inr (Sum.inr (Sum.inr (fun j => if j < N then some (alc (b.1 + b.2 * j)) else none)))))
    have hg : gc ≤ b.1 := by simpa [shgc] using hg
    have e : (fun j => if j < N then some (al (rho gc d av b.1 + b.2 * j)) else none) = (fun j => if j < N then some (alc (b.1 + b.2 * j)) else none) := by
      funext j
      by_cases hj : j < N
      · rw [if_pos hj, if_pos hj]
        have h2 : b.1 + b.2 * j < n := by
          simp only [shok, Bool.or_eq_true, decide_eq_true_eq, beq_iff_eq] at hs
          rcases hs with hs | hs
          · have : b.2 * j ≤ b.2 * (N - 1) := Nat.mul_le_mul_left _ (by omega)
            omega
          · omega
        rw [← h _ h2]
        congr 2
        unfold rho
        rw [if_neg (by omega), if_neg (by omega)]
        omega
      · rw [if_neg hj, if_neg hj]
    rw [e]
/-- the pending object's constructor -/
theorem n_init {ret : Option FieldType} (X : Cx SH G R C cc nL own ret nx) (ao : AOc C) {i q cx nl : Nat} {y : MethodName} {bytes : ByteArray} {rm : Room} {dfs : List Value} {av : List Nat} {st0 fkc : List FV} {fsh : List (Option Nat)} {Sc : List Sh} {mc : Mem}
    (cw : CIk own i y bytes nl av.length) (hM : ∀ exc : List Nat, exc.length = av.length → ConN G y bytes nl rm cx dfs exc fkc Sc mc) (hst : st = (av.map Sum.inr).reverse ++ .inl (.ref q) :: .inl (.ref q) :: st0)
    (hobj : ∀ al' alc : Nat → Nat, (∀ j, j < Sc.length → al' (rho av.length (S.length + 1) av j) = alc j) → fsh.zipIdx.map (fvl al' m S.length) = fkc.map (fvv alc)) (hmc : ∀ c, av.length + c < Sc.length → ∀ i, m (S.length + 1 + c) i = mc (av.length + c) i) (hg : ex.length ≤ S.length) (hw : wfN L st fk S = true) (hpd : pdok S pd) (hwc : wfS Sc = true) (hgc : ((Sc.drop av.length).all (shgc av.length)) = true) (hgl : av.length ≤ Sc.length)
    (hR : rm.frames + 1 ≤ R.frames ∧ 8 + (nl + 11) + rm.locals ≤ R.locals) (hcs : k + rm.cells ≤ R.cells ∧ n + rm.slots ≤ R.slots) (hcat : ∀ al : Nat → Nat, (((Sum.inl (Value.ref q) :: st0).map (fvv al)).map fun v => v.category).sum ≤ 8) (d : decode cc pc = .ok (.invokespecial i, 3))
    (kk : NJ G R Q C ex a ci (k + rm.cells) (n + rm.slots) (pc + 3) L (.inr S.length :: st0) fk (S ++ (.inl (cx, fsh) :: (Sc.drop av.length).map (shR (rho av.length (S.length + 1) av)))) m pd) : NJ G R Q C ex a ci k n pc L st fk S m (fun al => pd al ++ [(q, .inr (cx, dfs))]) := by
  obtain ⟨p, e, s, m9, args, below, meth, c, A0⟩ := C
  obtain ⟨hx, hb, hml, hown, hts, hK, hr, hlk, hex, hXB, hst9, hA⟩ := X
  intro al H locs ls hx9 hP hD hS hl
  obtain ⟨c1, c2, c3, c4, c5, c6⟩ := cw
  have e0 : nW G.2.2.1 ex.length a ci fk S m (fun al => pd al ++ [(q, .inr (cx, dfs))]) al = nW G.2.2.1 ex.length a ci fk S m pd al ++ [(q, .inr (cx, dfs))] := by
    unfold nW
    rw [List.cons_append, List.append_assoc]
  rw [e0] at hP hD
  have hPq : va_P G.2.1 vC [(q, .inr (cx, dfs))] H := va_P_mem (fun x hx => List.mem_append_right _ hx) hP
  have hPo : va_P G.2.1 vC (nW G.2.2.1 ex.length a ci fk S m pd al) H := va_P_mem (fun x hx => List.mem_append_left _ hx) hP
  have hDi := va_D_iff.mp hD
  have hDq : va_D A0 [(q, .inr (cx, dfs))] := va_D_iff.mpr ⟨by simp, fun x hx => hDi.2 x (List.mem_append_right _ hx)⟩
  have hDo : va_D A0 (nW G.2.2.1 ex.length a ci fk S m pd al) := va_D_iff.mpr ⟨by
    have := hDi.1
    rw [List.map_append] at this
    exact (List.nodup_append.mp this).1, fun x hx => hDi.2 x (List.mem_append_left _ hx)⟩
  have hne : ∀ x ∈ nW G.2.2.1 ex.length a ci fk S m pd al, x.1 ≠ q := fun x hx e9 => by
    have := hDi.1
    rw [List.map_append] at this
    exact (List.nodup_append.mp this).2.2 x.1 (List.mem_map.mpr ⟨x, hx, rfl⟩) q (List.mem_map.mpr ⟨_, List.mem_singleton.mpr rfl, rfl⟩) e9
  have hAA : ∀ z, va_A [(q, (.inr (cx, dfs) : va_E))] H.size z → A0 z := fun z h => h.elim (fun ⟨j, e9, hj⟩ => hDq.2 j _ hj) (fun h => hA z (Nat.le_trans hS.1 h))
  have hM9 := hM (av.map al) (by simp) q H.size
  have eargs : (av.map Sum.inr).map (fvv al) = (av.map al).map Value.ref := by
    rw [List.map_map, List.map_map]
    rfl
  subst hst
  have hpre : PreS s H (va_Pc (Value.ref q :: (av.map al).map Value.ref) (PN G H.size [(q, .inr (cx, dfs))])) (Value.ref q :: (av.map al).map Value.ref) := ⟨PN_blind, fun U hU hW => ⟨rfl, by rw [hU], ⟨by rw [hU]; exact hPq, va_K.moved hW.alike hK, hDq.weaken fun _ _ _ _ => trivial⟩, XB_call hXB hS hAA hU hW, AOo.moved hW.alike ao, hst9⟩⟩
  have hcats : 2 * (F0 m9 pc ls (((av.map Sum.inr).reverse ++ Sum.inl (Value.ref q) :: Sum.inl (Value.ref q) :: st0).map (fvv al))).monitorRoom + (((Sum.inl (Value.ref q) :: st0).map (fvv al)).map fun v => v.category).sum ≤ 8 := by
    show 2 * 0 + _ ≤ 8
    have := hcat al
    omega
  have hstk : (F0 m9 pc ls (((av.map Sum.inr).reverse ++ Sum.inl (Value.ref q) :: Sum.inl (Value.ref q) :: st0).map (fvv al))).stack = ((av.map al).map Value.ref).reverse ++ .ref q :: ((Sum.inl (Value.ref q) :: st0).map (fvv al)) := by
    rw [← eargs]
    simp [List.map_append, List.map_reverse, fvv]
  have hrun : va_Run p G.1 e R s m9 args below meth c H locs k n rm.cells rm.slots (F0 m9 pc ls (((av.map Sum.inr).reverse ++ Sum.inl (Value.ref q) :: Sum.inl (Value.ref q) :: st0).map (fvv al))) ((Sum.inl (Value.ref q) :: st0).map (fvv al)) (QNv G (av.map al) q cx fkc Sc mc (va_A [(q, (.inr (cx, dfs) : va_E))] H.size) (Value.ref q :: (av.map al).map Value.ref).toArray) (va_A [(q, (.inr (cx, dfs) : va_E))] H.size) := by
    rcases c1 with ⟨host, c1⟩ | c1
    · exact va_runIN (As := (av.map al).map Value.ref) (b := q) (n := av.length) (host := host) ⟨hx, hb, hml, hown, hts⟩ hM9 ⟨va_cnB av.length hts (gUc c4) rfl rfl rfl (hXB.2.2.2 _ (List.mem_filter.mpr ⟨c1, rfl⟩)) (hts _ c3) c6 hR, c5, hts _ c2⟩ hpre rfl (by simp) (by rw [hl.1, hml]) hstk hcats d hcs
    · exact va_runI (As := (av.map al).map Value.ref) (b := q) (n := av.length) ⟨hx, hb, hml, hown, hts⟩ hM9 ⟨callB_of av.length hts (gUc c4) rfl rfl rfl (hts _ c3) (hts _ c1) c6 hR, c5, hts _ c2⟩ hpre rfl (by simp) (by rw [hl.1, hml]) hstk hcats d hcs
  refine va_callv (A1 := va_A [(q, (.inr (cx, dfs) : va_E))] H.size) hrun hS (fun z _ h => hAA z h) hAA ?_
  intro alc t H1 locs1 ht hal hxc hB hz hk9 hS1
  obtain ⟨hP1, hD1⟩ := hB
  rw [ht] at hP1
  rw [List.length_map] at hP1 hD1
  simp only [wfN, Bool.and_eq_true] at hw
  obtain ⟨w1, w2, w3, w4⟩ := hw
  let al' : Nat → Nat := fun i => if i < S.length then al i else if i = S.length then q else alc (i - (S.length + 1) + av.length)
  have hag : ∀ i, i < S.length → al' i = al i := fun i h => if_pos h
  have hq : al' S.length = q := by show (if _ then _ else _) = q; rw [if_neg (by omega), if_pos rfl]
  have hc9 : ∀ j, al' (S.length + 1 + j) = alc (av.length + j) := fun j => by
    show (if _ then _ else _) = alc (av.length + j)
    rw [if_neg (by omega), if_neg (by omega), Nat.add_sub_cancel_left, Nat.add_comm]
  have wst : ((av.map Sum.inr).all (fvok S.length)) = true ∧ (st0.all (fvok S.length)) = true := by
    rw [List.all_append, Bool.and_eq_true] at w2
    obtain ⟨a1, a2⟩ := w2
    refine ⟨by rw [List.all_reverse] at a1; exact a1, ?_⟩
    simp only [List.all_cons, Bool.and_eq_true] at a2
    exact a2.2.2
  have hrho : ∀ j, j < Sc.length → al' (rho av.length (S.length + 1) av j) = alc j := by
    intro j hj
    unfold rho
    by_cases h9 : j < av.length
    · rw [if_pos h9]
      have h1 : av[j]? = some av[j] := List.getElem?_eq_getElem h9
      rw [List.getD_eq_getElem?_getD, h1]
      show al' av[j] = alc j
      have h2 : av[j] < S.length := by
        have := List.all_eq_true.mp wst.1 (Sum.inr av[j]) (List.mem_map.mpr ⟨_, List.getElem_mem h9, rfl⟩)
        simpa [fvok] using this
      rw [hag _ h2]
      exact (hxc j (al av[j]) (by rw [List.getElem?_map, h1]; rfl)).symm
    · rw [if_neg h9, hc9]
      congr 1
      omega
  have ec : nW G.2.2.1 av.length q cx fkc Sc mc (fun _ => []) alc = (List.zipIdx ((.inl (cx, fsh) : Sh) :: (Sc.drop av.length).map (shR (rho av.length (S.length + 1) av))) S.length).map (fun z => (al' z.2, cel G.2.2.1 al' m z.2 z.1)) := by
    rw [List.zipIdx_cons, List.map_cons]
    unfold nW
    rw [List.append_nil]
    congr 1
    · show (q, (Sum.inr (cx, fkc.map (fvv alc)) : va_E)) = (al' S.length, (Sum.inr (cx, fsh.zipIdx.map (fvl al' m S.length)) : va_E))
      rw [hobj al' alc hrho, hq]
    · apply List.ext_getElem?
      intro j
      rw [List.getElem?_map, List.getElem?_zipIdx, List.getElem?_map, List.getElem?_drop, List.getElem?_drop]
      cases hj : Sc[av.length + j]? with
      | none => simp [wsOf, List.getElem?_map, List.getElem?_zipIdx, hj]
      | some sh =>
        rw [wsOf_at hj]
        have hjl : av.length + j < Sc.length := (List.getElem?_eq_some_iff.mp hj).1
        show some (alc (av.length + j), cel G.2.2.1 alc mc (av.length + j) sh) = some (al' (S.length + 1 + j), cel G.2.2.1 al' m (S.length + 1 + j) (shR (rho av.length (S.length + 1) av) sh))
        rw [cel_ren hrho (fun i => hmc j hjl i) (List.all_eq_true.mp hwc sh (List.mem_of_getElem? hj)) (List.all_eq_true.mp hgc sh (List.mem_of_getElem? (i := j) (by rw [List.getElem?_drop]; exact hj))), hc9]
  have hp : (nW G.2.2.1 ex.length a ci fk S m pd al ++ nW G.2.2.1 av.length q cx fkc Sc mc (fun _ => []) alc).Perm (nW G.2.2.1 ex.length a ci fk (S ++ (.inl (cx, fsh) :: (Sc.drop av.length).map (shR (rho av.length (S.length + 1) av)))) m pd al') := by
    rw [ec]
    unfold nW
    rw [wsOf_app, wsOf_al hag w4, fvs_al hag w3, hpd al al' hag, List.drop_append_of_le_length (by rw [wsOf_len]; exact hg), List.cons_append, List.append_assoc, List.append_assoc]
    exact List.Perm.cons _ (List.Perm.append_left _ List.perm_append_comm)
  have hlt : ∀ x ∈ nW G.2.2.1 ex.length a ci fk S m pd al, x.1 < H.size ∧ ¬ va_A [(q, (.inr (cx, dfs) : va_E))] H.size x.1 := by
    intro x hx
    obtain ⟨j, hj⟩ := List.getElem?_of_mem hx
    have h1 := (hPo j x hj).lt
    refine ⟨h1, ?_⟩
    rintro (⟨j2, e9, h2⟩ | h2)
    · have := List.mem_of_getElem? h2
      rw [List.mem_singleton] at this
      exact hne x hx (congrArg Prod.fst this)
    · omega
  have hPn : va_P G.2.1 vC (nW G.2.2.1 ex.length a ci fk S m pd al) H1 := hPo.kept (fun j x hj => hk9 x.1 (hlt x (List.mem_of_getElem? hj)).1 (hlt x (List.mem_of_getElem? hj)).2)
  have hPa := va_P.app hPn hP1
  have hDa : va_D A0 (nW G.2.2.1 ex.length a ci fk S m pd al ++ nW G.2.2.1 av.length q cx fkc Sc mc (fun _ => []) alc) := va_D.app hDo (hD1.weaken fun j x _ h => hAA x.1 h) (fun i j x z hx hz9 hxz => (hlt x (List.mem_of_getElem? hx)).2 (by rw [hxz]; exact hD1.2 j z hz9))
  have hj := kk al' H1 locs1 ls (hx9.to hg hag) (va_P_mem (fun x hx => hp.mem_iff.mpr hx) hPa) (va_D_perm hp hDa) hS1 (by
    have e : (L.map fun q => (q.1, fvv al' q.2)) = L.map fun q => (q.1, fvv al q.2) := List.map_congr_left fun x hx => by rw [fvv_al hag (List.all_eq_true.mp w1 x hx)]
    rw [e]
    exact hl)
  rw [List.map_cons, fvs_al hag wst.2, show fvv al' (.inr S.length) = .ref q from congrArg Value.ref hq] at hj
  exact hj
theorem wsOf_m {ta : Nat → ClassId} {al : Nat → Nat} {m mc : Mem} {Sc : List Sh} (h : ∀ c, c < Sc.length → ∀ i, m c i = mc c i) : wsOf Sc ta al m = wsOf Sc ta al mc := by
  apply List.ext_getElem?
  intro j
  cases hj : Sc[j]? with
  | none => simp [wsOf, List.getElem?_map, List.getElem?_zipIdx, hj]
  | some sh => rw [wsOf_at hj, wsOf_at hj, cel_congr (m' := m) (m := mc) (fun i => h j (List.getElem?_eq_some_iff.mp hj).1 i)]
/-- the head's own constructor -/
theorem n_head {ret : Option FieldType} (X : Cx SH G R C cc nL own ret nx) (ao : AOc C) {i nl : Nat} {y : MethodName} {bytes : ByteArray} {rm : Room} {dfs : List Value} {fkc : List FV} {Sc : List Sh} {mc : Mem} (cw : CIk own i y bytes nl 0) (hM : ConN G y bytes nl rm ci dfs [] fkc Sc mc) (hmc : ∀ c, c < Sc.length → ∀ i, m c i = mc c i) (hL : (L.all fun q => fvok 0 q.2) = true) (hst : (st.all (fvok 0)) = true)
    (hR : rm.frames + 1 ≤ R.frames ∧ 8 + (nl + 11) + rm.locals ≤ R.locals) (hcs : k + rm.cells ≤ R.cells ∧ n + rm.slots ≤ R.slots) (hcat : ∀ al : Nat → Nat, ((st.map (fvv al)).map fun v => v.category).sum ≤ 8) (d : decode cc pc = .ok (.invokespecial i, 3))
    (kk : NJ G R Q C [] a ci (k + rm.cells) (n + rm.slots) (pc + 3) L st fkc Sc m (fun _ => [])) : NJ G R Q C [] a ci k n pc L (.inl (.ref a) :: st) (dfs.map Sum.inl) [] m (fun _ => []) := by
  obtain ⟨p, e, s, m9, args, below, meth, c, A0⟩ := C
  obtain ⟨hx, hb, hml, hown, hts, hK, hr, hlk, hex, hXB, hst9, hA⟩ := X
  intro al H locs ls hx9 hP hD hS hl
  obtain ⟨c1, c2, c3, c4, c5, c6⟩ := cw
  have eW : nW G.2.2.1 ([] : List Nat).length a ci (dfs.map Sum.inl) [] m (fun _ => []) al = [(a, .inr (ci, dfs))] := by
    unfold nW
    rw [List.map_map, show (fvv al ∘ Sum.inl) = id from rfl, List.map_id]
    rfl
  rw [eW] at hP hD
  have hAA : ∀ z, va_A [(a, (.inr (ci, dfs) : va_E))] H.size z → A0 z := fun z h => h.elim (fun ⟨j, e9, hj⟩ => hD.2 j _ hj) (fun h => hA z (Nat.le_trans hS.1 h))
  have hM9 := hM a H.size
  have hpre : PreS s H (va_Pc (Value.ref a :: ([] : List Nat).map Value.ref) (PN G H.size [(a, .inr (ci, dfs))])) (Value.ref a :: ([] : List Nat).map Value.ref) := ⟨PN_blind, fun U hU hW => ⟨rfl, by rw [hU], ⟨by rw [hU]; exact hP, va_K.moved hW.alike hK, hD.weaken fun _ _ _ _ => trivial⟩, XB_call hXB hS hAA hU hW, AOo.moved hW.alike ao, hst9⟩⟩
  have hcats : 2 * (F0 m9 pc ls ((Sum.inl (Value.ref a) :: st).map (fvv al))).monitorRoom + ((st.map (fvv al)).map fun v => v.category).sum ≤ 8 := by
    show 2 * 0 + _ ≤ 8
    have := hcat al
    omega
  have hrun : va_Run p G.1 e R s m9 args below meth c H locs k n rm.cells rm.slots (F0 m9 pc ls ((Sum.inl (Value.ref a) :: st).map (fvv al))) (st.map (fvv al)) (QNv G [] a ci fkc Sc mc (va_A [(a, (.inr (ci, dfs) : va_E))] H.size) (Value.ref a :: ([] : List Nat).map Value.ref).toArray) (va_A [(a, (.inr (ci, dfs) : va_E))] H.size) := by
    rcases c1 with ⟨host, c1⟩ | c1
    · exact va_runIN (As := []) (b := a) (n := 0) (host := host) ⟨hx, hb, hml, hown, hts⟩ hM9 ⟨va_cnB 0 hts (gUc c4) rfl rfl rfl (hXB.2.2.2 _ (List.mem_filter.mpr ⟨c1, rfl⟩)) (hts _ c3) c6 hR, c5, hts _ c2⟩ hpre rfl rfl (by rw [hl.1, hml]) rfl hcats d hcs
    · exact va_runI (As := []) (b := a) (n := 0) ⟨hx, hb, hml, hown, hts⟩ hM9 ⟨callB_of 0 hts (gUc c4) rfl rfl rfl (hts _ c3) (hts _ c1) c6 hR, c5, hts _ c2⟩ hpre rfl rfl (by rw [hl.1, hml]) rfl hcats d hcs
  refine va_callv (A1 := va_A [(a, (.inr (ci, dfs) : va_E))] H.size) hrun hS (fun z _ h => hAA z h) hAA ?_
  intro alc t H1 locs1 ht hal hxc hB hz hk9 hS1
  obtain ⟨hP1, hD1⟩ := hB
  rw [ht] at hP1
  have e9 : nW G.2.2.1 ([] : List Nat).length a ci fkc Sc mc (fun _ => []) alc = nW G.2.2.1 ([] : List Nat).length a ci fkc Sc m (fun _ => []) alc := by
    unfold nW
    rw [wsOf_m hmc]
  rw [e9] at hP1 hD1
  have h00 : ∀ i, i < 0 → alc i = al i := fun i h => absurd h (Nat.not_lt_zero i)
  have hj := kk alc H1 locs1 ls (fun j b hj => by cases hj) hP1 (hD1.weaken fun j x _ h => hAA x.1 h) hS1 (by
    have e : (L.map fun q => (q.1, fvv alc q.2)) = L.map fun q => (q.1, fvv al q.2) := List.map_congr_left fun x hx => by rw [fvv_al h00 (List.all_eq_true.mp hL x hx)]
    rw [e]
    exact hl)
  rw [fvs_al h00 hst] at hj
  exact hj
theorem n_astore {ret : Option FieldType} (X : Cx SH G R C cc nL own ret nx) {i : Fin 4} {v : FV} {L' : List (Nat × FV)} (hv : ∀ al, ∃ x, fvv al v = .ref x) (hL : L' = (i.val, v) :: L) (hno : ∀ al, ((L.map fun q => (q.1, fvv al q.2)).filter (fun q => !(q.1 == i.val) && !(q.1 + 1 == i.val && q.2.category == 2))) = L.map fun q => (q.1, fvv al q.2)) (hi : i.val < nL) (d : decode cc pc = .ok (.astore_n i, 1)) (kk : NJ G R Q C ex a ci k n (pc + 1) L' st fk S m pd) : NJ G R Q C ex a ci k n pc L (v :: st) fk S m pd := by
  obtain ⟨p, e, s9, m9, args, below, meth, c, A0⟩ := C
  obtain ⟨hx, hb, hml, -⟩ := X
  intro al H locs ls hx9 hP hD hS hl
  subst hL
  obtain ⟨x, hx1⟩ := hv al
  have hj := kk al
  rw [List.map_cons, hx1]
  exact lv_astore_n hx hb d rfl hl (by rw [hml]; exact hi) (by rw [hno al]) (fun ls' hl' => kk al H locs ls' hx9 hP hD hS (by rw [List.map_cons, hx1]; exact hl'))
theorem n_astoreW {ret : Option FieldType} (X : Cx SH G R C cc nL own ret nx) {i : Nat} {v : FV} {L' : List (Nat × FV)} (hv : ∀ al, ∃ x, fvv al v = .ref x) (hL : L' = (i, v) :: L) (hno : ∀ al, ((L.map fun q => (q.1, fvv al q.2)).filter (fun q => !(q.1 == i) && !(q.1 + 1 == i && q.2.category == 2))) = L.map fun q => (q.1, fvv al q.2)) (hi : i < nL) (d : decode cc pc = .ok (.astore i, 2)) (kk : NJ G R Q C ex a ci k n (pc + 2) L' st fk S m pd) : NJ G R Q C ex a ci k n pc L (v :: st) fk S m pd := by
  obtain ⟨p, e, s9, m9, args, below, meth, c, A0⟩ := C
  obtain ⟨hx, hb, hml, -⟩ := X
  intro al H locs ls hx9 hP hD hS hl
  subst hL
  obtain ⟨x, hx1⟩ := hv al
  rw [List.map_cons, hx1]
  exact lv_astore hx hb d hl (by rw [hml]; exact hi) (by rw [hno al]) (fun ls' hl' => kk al H locs ls' hx9 hP hD hS (by rw [List.map_cons, hx1]; exact hl'))
theorem n_istoreW {ret : Option FieldType} (X : Cx SH G R C cc nL own ret nx) {i : Nat} {z : Int} {L' : List (Nat × FV)} (hL : L' = (i, .inl (.int (i32 z))) :: L) (hno : ∀ al, ((L.map fun q => (q.1, fvv al q.2)).filter (fun q => !(q.1 == i) && !(q.1 + 1 == i && q.2.category == 2))) = L.map fun q => (q.1, fvv al q.2)) (hi : i < nL) (d : decode cc pc = .ok (.istore i, 2)) (kk : NJ G R Q C ex a ci k n (pc + 2) L' st fk S m pd) : NJ G R Q C ex a ci k n pc L (.inl (.int (i32 z)) :: st) fk S m pd := by
  obtain ⟨p, e, s9, m9, args, below, meth, c, A0⟩ := C
  obtain ⟨hx, hb, hml, -⟩ := X
  intro al H locs ls hx9 hP hD hS hl
  subst hL
  exact lv_istore hx hb d hl (by rw [hml]; exact hi) (by rw [hno al]; rfl) (fun ls' hl' => kk al H locs ls' hx9 hP hD hS hl')
end NR2
