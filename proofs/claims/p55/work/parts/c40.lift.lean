/-! ===== A SMALLER WORLD IN A GREATER ONE: a contract over a segment serves over the whole ===== -/
def shSh (d : Nat) : Sh → Sh
  | .inl o => .inl (o.1, o.2.map (Option.map (fun i => d + i)))
  | .inr (t, n, b) => .inr (t, n, b.map (fun q => (d + q.1, q.2)))
def offG (G : Gl) (d : Nat) : Gl := (G.1, G.2.1, G.2.2.1, fun i => G.2.2.2 (d + i))
def offM (d : Nat) (m : Mem) : Mem := fun c i => m (d + c) i
def offV (d : Nat) : V → V
  | .inr (.inl a) => VR (d + a)
  | v => v
def seg (SH SH1 : List Sh) (d : Nat) : Prop := ∀ (k : Nat) (sh : Sh), SH1[k]? = some sh → SH[d + k]? = some (shSh d sh)
theorem cel_off {ta : Nat → ClassId} {al : Nat → Nat} {m : Mem} {d x : Nat} (sh : Sh) : cel ta al m (d + x) (shSh d sh) = cel ta (fun i => al (d + i)) (offM d m) x sh := by
  rcases sh with o | ⟨t, n, b | b⟩
  · show Sum.inr (o.1, ((o.2.map (Option.map (fun i => d + i))).zipIdx.map (fvl al m (d + x)))) = Sum.inr (o.1, o.2.zipIdx.map (fvl (fun i => al (d + i)) (offM d m) x))
    congr 2
    apply List.ext_getElem?
    intro j
    simp only [List.getElem?_map, List.getElem?_zipIdx]
    cases o.2[j]? with
    | none => rfl
    | some q => cases q <;> rfl
  · rfl
  · show Sum.inl (ta t, n, Sum.inr (Sum.inr (Sum.inr (Sum.inr (fun j => if j < n then some (al (d + b.1 + b.2 * j)) else none))))) = Sum.inl (ta t, n, Sum.inr (Sum.inr (Sum.inr (Sum.inr (fun j => if j < n then some (al (d + (b.1 + b.2 * j))) else none)))))
    simp only [Nat.add_assoc]
theorem cv_off (al : Nat → Nat) (d : Nat) (v : V) : cv al (offV d v) = cv (fun i => al (d + i)) v := by
  rcases v with z | a | x | x | x <;> rfl
theorem seg_at {SH SH1 : List Sh} {d : Nat} (hs : seg SH SH1 d) {ta : Nat → ClassId} {al : Nat → Nat} {m m1 : Mem} (hm : ∀ c i, c < SH1.length → m (d + c) i = m1 c i) {k : Nat} {q : Nat × va_E} (h : (wsOf SH1 ta (fun i => al (d + i)) m1)[k]? = some q) : (wsOf SH ta al m)[d + k]? = some q := by
  have hl : k < SH1.length := by
    have := (List.getElem?_eq_some_iff.mp h).1
    simpa [wsOf] using this
  have h1 : SH1[k]? = some SH1[k] := List.getElem?_eq_getElem hl
  rw [wsOf_at h1] at h
  rw [wsOf_at (hs k _ h1), cel_off, cel_congr (m' := offM d m) (m := m1) (fun i => hm k i hl)]
  exact h
theorem met_cons {l : Launch} {x : MethodName} {S : Spec} {P P' : Array Value → State → Prop} {K : Program → Env → List Frame → State → Array Value → Prop} {Q Q' : Array Value → State → Outcome → State → Prop} (h : MetFree l x S P K Q) (hp : ∀ a s, P' a s → P a s) (hq : ∀ a s o t, P' a s → Q a s o t → Q' a s o t) : MetFree l x S P' K Q' := by
  intro p e ha hc hk s m args below hf hap hP hK
  obtain ⟨n, o, h1, h2, h3, h4⟩ := h p e ha hc hk s m args below hf hap (hp _ _ hP) hK
  exact ⟨n, o, h1, h2, h3, hq _ _ _ _ hP h4⟩
theorem XB_narrow {A B : Nat → Prop} {U : State} (h : XB A U) (hAB : ∀ q, B q → A q) : XB B U := ⟨h.1.narrow hAB, h.2.1.narrow hAB, h.2.2⟩
/-- the addresses alone -/
theorem va_D_same {A : Nat → Prop} {w1 w2 : va_W} (h : va_D A w1) (e : w1.map (·.1) = w2.map (·.1)) : va_D A w2 := by
  have key : ∀ (k : Nat) (q : Nat × va_E), w2[k]? = some q → ∃ q0, w1[k]? = some q0 ∧ q0.1 = q.1 := by
    intro k q hk
    have h1 : (w2.map (·.1))[k]? = some q.1 := by rw [List.getElem?_map, hk]; rfl
    rw [← e, List.getElem?_map] at h1
    cases h2 : w1[k]? with
    | none => rw [h2] at h1; cases h1
    | some q0 => rw [h2] at h1; exact ⟨q0, rfl, Option.some.inj h1⟩
  refine ⟨fun i j p q hi hj hpq => ?_, fun k q hk => ?_⟩
  · obtain ⟨p0, a1, a2⟩ := key i p hi
    obtain ⟨q0, b1, b2⟩ := key j q hj
    exact h.1 i j p0 q0 a1 b1 (by rw [a2, b2, hpq])
  · obtain ⟨q0, b1, b2⟩ := key k q hk
    exact b2 ▸ h.2 k q0 b1
theorem wsOf_adr (SH : List Sh) (ta : Nat → ClassId) (al : Nat → Nat) (m m' : Mem) : (wsOf SH ta al m).map (·.1) = (wsOf SH ta al m').map (·.1) := by
  simp [wsOf, Function.comp_def]
section LI
variable {SH SH1 : List Sh} {d : Nat} {G : Gl} {mm : Mem} {O1 : Res × Mem} {sz : Nat}
theorem seg_A (hs : seg SH SH1 d) : ∀ q, va_A (wsOf SH1 G.2.2.1 (fun i => G.2.2.2 (d + i)) (offM d mm)) sz q → va_A (wsOf SH G.2.2.1 G.2.2.2 mm) sz q := by
  rintro q (⟨k, e, h⟩ | h)
  · exact Or.inl ⟨d + k, e, seg_at hs (fun _ _ _ => rfl) h⟩
  · exact Or.inr h
theorem seg_PB (hs : seg SH SH1 d) {U : State} (h : PB SH G sz mm U) : PB SH1 (offG G d) sz (offM d mm) U := by
  obtain ⟨h0, ⟨hP, hK, hD⟩, hX, h5⟩ := h
  have at' : ∀ (k : Nat) (q : Nat × va_E), (wsOf SH1 G.2.2.1 (fun i => G.2.2.2 (d + i)) (offM d mm))[k]? = some q → (wsOf SH G.2.2.1 G.2.2.2 mm)[d + k]? = some q := fun k q hk => seg_at hs (fun _ _ _ => rfl) hk
  refine ⟨h0, ⟨fun k q hk => hP _ _ (at' k q hk), hK, fun i j p q hi hj hpq => ?_, fun _ _ _ => trivial⟩, XB_narrow hX (seg_A hs), h5⟩
  have := hD.1 _ _ _ _ (at' i p hi) (at' j q hj) hpq
  omega
theorem seg_PE (hs : seg SH SH1 d) {st t : State} (h0 : PB SH G sz mm st) (hE : PE SH1 (offG G d) (va_A (wsOf SH1 G.2.2.1 (fun i => G.2.2.2 (d + i)) (offM d mm)) sz) O1.2 t)
    (hF : va_F (va_A (wsOf SH1 G.2.2.1 (fun i => G.2.2.2 (d + i)) (offM d mm)) sz) st t) : PE SH G (va_A (wsOf SH G.2.2.1 G.2.2.2 mm) sz) (putM d SH1.length mm O1.2) t := by
  obtain ⟨g0, ⟨gP, gK, gD⟩, -, -⟩ := h0
  obtain ⟨hP, hK, hD⟩ := hE
  have at' : ∀ (k : Nat) (q : Nat × va_E), (wsOf SH1 G.2.2.1 (fun i => G.2.2.2 (d + i)) (offM d mm))[k]? = some q → (wsOf SH G.2.2.1 G.2.2.2 mm)[d + k]? = some q := fun k q hk => seg_at hs (fun _ _ _ => rfl) hk
  refine ⟨?_, hK, va_D_same (gD.self (sz := sz)) (wsOf_adr SH _ _ mm _)⟩
  intro k q hk
  have hl : k < SH.length := by
    have := (List.getElem?_eq_some_iff.mp hk).1
    simpa [wsOf] using this
  have hsh : SH[k]? = some SH[k] := List.getElem?_eq_getElem hl
  by_cases hin : d ≤ k ∧ k < d + SH1.length
  · obtain ⟨j, rfl⟩ : ∃ j, k = d + j := ⟨k - d, by omega⟩
    have hj : j < SH1.length := by omega
    have h1 : SH1[j]? = some SH1[j] := List.getElem?_eq_getElem hj
    have h2 := seg_at (ta := G.2.2.1) (al := G.2.2.2) (m := putM d SH1.length mm O1.2) (m1 := O1.2) hs (fun c i hc => by
      unfold putM
      rw [if_pos ⟨by omega, by omega⟩, Nat.add_sub_cancel_left]) (wsOf_at (ta := G.2.2.1) (al := fun i => G.2.2.2 (d + i)) (m := O1.2) h1)
    rw [hk] at h2
    have h3 := Option.some.inj h2
    subst h3
    exact hP j _ (wsOf_at (ta := G.2.2.1) (al := fun i => G.2.2.2 (d + i)) (m := O1.2) h1)
  · have h1 : (wsOf SH G.2.2.1 G.2.2.2 mm)[k]? = some q := by
      rw [wsOf_at hsh] at hk ⊢
      rw [← hk, cel_congr (m' := putM d SH1.length mm O1.2) (m := mm) (fun i => by unfold putM; rw [if_neg hin])]
    have hq := gP k q h1
    have hlt := hq.lt
    refine hq.kept (hF.2 q.1 hlt ?_)
    rintro (⟨j, e, hj⟩ | hj)
    · have := gD.1 k (d + j) q (q.1, e) h1 (at' j _ hj) rfl
      have hjl : j < SH1.length := by
        have := (List.getElem?_eq_some_iff.mp hj).1
        simpa [wsOf] using this
      omega
    · omega
theorem con_lift (hs : seg SH SH1 d) {y : MethodName} {cc : ByteArray} {nL : Nat} {ret : Option FieldType} {rm : Room} {As1 : List V} (hnr : ∀ v, O1.1 = .inl (some v) → offV d v = v) (h : okM (offM d mm) → (∀ v ∈ As1, okV v) → Con SH1 (offG G d) y cc nL ret rm As1 (offM d mm) O1) : Con SH G y cc nL ret rm (As1.map (offV d)) mm (O1.1, putM d SH1.length mm O1.2) := by
  intro hok hmm sz
  have hok1 : ∀ v ∈ As1, okV v := fun v hv => by
    have := hok (offV d v) (List.mem_map.mpr ⟨v, hv, rfl⟩)
    rcases v with z | a | x | x | x <;> first | exact this | trivial
  have hmm1 : okM (offM d mm) := fun c i => hmm _ _
  have hput : okM O1.2 → okM (putM d SH1.length mm O1.2) := fun h9 c i => by
    unfold putM
    split
    · exact h9 _ _
    · exact hmm _ _
  have eA : (As1.map (offV d)).map (cv G.2.2.2) = As1.map (cv (offG G d).2.2.2) := by
    rw [List.map_map]
    apply List.map_congr_left
    intro v _
    exact cv_off _ _ _
  have hM := h hmm1 hok1 hok1 hmm1 sz
  refine met_cons hM (fun a s hP => ?_) (fun a s o t hP hQ => ?_)
  · exact ⟨by rw [hP.1, eA], seg_PB hs hP.2⟩
  · rcases hQ with ⟨⟨⟨v, o1, o2, o3, o4, o5⟩, hF⟩, L, hL1, hL2⟩ | ⟨q, rfl, E, ce, L, ⟨⟨x, o1, o2, o3, o4⟩, hF⟩, r1, r2, r3, r4, r5, r6⟩
    · refine Or.inl ⟨⟨⟨v, o1, ?_, o3, hput o4, seg_PE hs hP.2 o5 hF⟩, hF.1, fun q h1 h2 => hF.2 q h1 (fun z => h2 (seg_A hs q z))⟩, L, hL1, fun q hq => seg_A hs _ (hL2 q hq)⟩
      rw [o2]
      cases v with
      | none => rfl
      | some v =>
        have := cv_off G.2.2.2 d v
        rw [hnr v o1] at this
        show Outcome.returned (some (cv (fun i => G.2.2.2 (d + i)) v)) = _
        rw [← this]
        rfl
    · exact Or.inr ⟨q, rfl, E, ce, L, ⟨⟨x, o1, o2, hput o3, seg_PE hs hP.2 o4 hF⟩, hF.1, fun q h1 h2 => hF.2 q h1 (fun z => h2 (seg_A hs q z))⟩, r1, r2, r3, r4, r5, fun z hz => seg_A hs _ (r6 z hz)⟩
end LI
