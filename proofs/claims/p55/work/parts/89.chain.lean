/-! ===== the chain: one ride of it ===== -/
def btw (mc : Mem) (stop : Nat) (pause : Int) (s : Nat) : Int := if s = stop then pause else wC mc (-1) s stop
/-- one can get off there in time -/
def Pof (mc : Mem) (day : Int) (A : Lb) (stop : Nat) (b pause : Int) (q o : Nat) : Prop := o < lenQ mc q ∧ (∃ c : Nat, c < o ∧ can (mc 2) A (stQ mc q c) (lvQ mc day (-1) 0 q c)) ∧ arQ mc day (-1) 0 q o + btw mc stop pause (stQ mc q o) ≤ b
def ChR (mc : Mem) (day : Int) (A : Lb) (stop : Nat) (b pause : Int) (q on off : Nat) : Prop := q < 72 ∧ isQ mc day q ∧ Pof mc day A stop b pause q off ∧ (∀ o : Nat, o < off → ¬ Pof mc day A stop b pause q o) ∧ (∀ q' o : Nat, q' < q → isQ mc day q' → ¬ Pof mc day A stop b pause q' o) ∧ on < off ∧ can (mc 2) A (stQ mc q on) (lvQ mc day (-1) 0 q on) ∧ ∀ c : Nat, on < c → c < off → ¬ can (mc 2) A (stQ mc q c) (lvQ mc day (-1) 0 q c)
def rch (L : Lb) (stop : Nat) (b pause : Int) : Prop := L.2 stop ≤ b ∨ L.1 stop + pause ≤ b
/-- rides from the end -/
def Seq (mc : Mem) (day : Int) (A : Nat → Lb) : Nat → Nat → Int → Int → (Nat → Nat) → (Nat → Nat) → (Nat → Nat) → Prop
  | 0 => fun _ _ _ _ _ _ => True
  | k + 1 => fun stop b pause Q On Of => ChR mc day (A k) stop b pause (Q k) (On k) (Of k) ∧ Seq mc day A k (stQ mc (Q k) (On k)) (lvQ mc day (-1) 0 (Q k) (On k)) (mc 2 (stQ mc (Q k) (On k))) Q On Of
section CHR
variable {mc m m0 : Mem} {day : Int} {A : Lb}
theorem ChR_uni {stop : Nat} {b pause : Int} {q on off q' on' off' : Nat} (h : ChR mc day A stop b pause q on off) (h' : ChR mc day A stop b pause q' on' off') : q = q' ∧ on = on' ∧ off = off' := by
  obtain ⟨a1, a2, a3, a4, a5, a6, a7, a8⟩ := h
  obtain ⟨b1, b2, b3, b4, b5, b6, b7, b8⟩ := h'
  have e1 : q = q' := by
    rcases Nat.lt_trichotomy q q' with z | z | z
    · exact absurd a3 (b5 q off z a2)
    · exact z
    · exact absurd b3 (a5 q' off' z b2)
  subst e1
  have e2 : off = off' := by
    rcases Nat.lt_trichotomy off off' with z | z | z
    · exact absurd a3 (b4 off z)
    · exact z
    · exact absurd b3 (a4 off' z)
  subst e2
  refine ⟨rfl, ?_, rfl⟩
  rcases Nat.lt_trichotomy on on' with z | z | z
  · exact absurd b7 (a8 on' z b6)
  · exact z
  · exact absurd a7 (b8 on z a6)
theorem Seq_uni {A : Nat → Lb} {Q On Of Q' On' Of' : Nat → Nat} : ∀ {k stop : Nat} {b pause : Int}, Seq mc day A k stop b pause Q On Of → Seq mc day A k stop b pause Q' On' Of' → ∀ j : Nat, j < k → Q j = Q' j ∧ On j = On' j ∧ Of j = Of' j := by
  intro k
  induction k with
  | zero => intro _ _ _ _ _ j hj; omega
  | succ k ih =>
    rintro stop b pause ⟨h1, h2⟩ ⟨h3, h4⟩ j hj
    have e := ChR_uni h1 h3
    by_cases hh : j = k
    · rw [hh]; exact e
    · rw [← e.1, ← e.2.1] at h4
      exact ih h2 h4 j (by omega)
/-- there is such a ride -/
theorem ride_is {B : Lb} {stop : Nat} {b pause : Int} (I : CI mc) (hs : stop < nC mc) (wcA : WCl (nC mc) (wC mc (-1)) A) (rgA : Rg (nC mc) A) (h : RndQ mc day (-1) 0 A B) (r : rch B stop b pause) (nr : ¬ rch A stop b pause) : ∃ q o : Nat, q < 72 ∧ isQ mc day q ∧ Pof mc day A stop b pause q o := by
  have key : ∀ x : Nat, x < nC mc → B.1 x < A.1 x → B.1 x + btw mc stop pause x ≤ b → ∃ q o : Nat, q < 72 ∧ isQ mc day q ∧ Pof mc day A stop b pause q o := by
    intro x hx h1 h2
    obtain ⟨s, t, t', rd, c, e⟩ := rode_why (RdQ_N I) h hx h1
    obtain ⟨q, c0, c1, q1, q2, q3, q4, q5, q6, q7, q8, -, -⟩ := rd
    refine ⟨q, c1, q1, q2, q4, ⟨c0, q3, ?_⟩, ?_⟩
    · rw [← q5, ← q6]; exact c
    · rw [← q7, ← q8, e]; exact h2
  rcases r with r | r
  · have lt : B.2 stop < A.2 stop := by
      apply Classical.byContradiction
      intro q
      exact nr (Or.inl (by omega))
    obtain ⟨x, hx, x1, x2⟩ := stood_why h wcA hs lt
    have a2 := (rgA stop hs).2.2.2
    have hne : x ≠ stop := by
      intro q
      rw [q, CI_wd I hs] at x2
      have := (h.1.1 stop hs)
      have p0 := (rgA stop hs)
      by_cases hB : 0 ≤ B.1 stop
      · omega
      · obtain ⟨s, t, t', rd, c, e⟩ := rode_why (RdQ_N I) h hs (by omega)
        have := (RdQ_st I rd).2.2
        have := c.1
        omega
    refine key x hx x1 ?_
    unfold btw
    rw [if_neg hne]
    omega
  · refine key stop hs ?_ ?_
    · apply Classical.byContradiction
      intro q
      exact nr (Or.inr (by omega))
    · unfold btw
      rw [if_pos rfl]
      exact r
/-- the first run, its first call, and its last one ahead -/
theorem ChR_is {stop : Nat} {b pause : Int} (h : ∃ q o : Nat, q < 72 ∧ isQ mc day q ∧ Pof mc day A stop b pause q o) : ∃ q on off : Nat, ChR mc day A stop b pause q on off := by
  have least : ∀ (P : Nat → Prop) (n : Nat), P n → ∃ k, P k ∧ ∀ j, j < k → ¬ P j := by
    intro P n
    induction n using Nat.strongRecOn with
    | _ n ih =>
      intro hn
      by_cases hh : ∃ j, j < n ∧ P j
      · obtain ⟨j, j1, j2⟩ := hh
        exact ih j j1 j2
      · exact ⟨n, hn, fun j hj q => hh ⟨j, hj, q⟩⟩
  have most : ∀ (P : Nat → Prop) (n : Nat), (∃ k, k < n ∧ P k) → ∃ k, k < n ∧ P k ∧ ∀ j, k < j → j < n → ¬ P j := by
    intro P n
    induction n with
    | zero => rintro ⟨k, k1, -⟩; omega
    | succ n ih =>
      rintro ⟨k, k1, k2⟩
      by_cases hn : P n
      · exact ⟨n, by omega, hn, fun j a b => by omega⟩
      · have : k ≠ n := fun q => hn (by rw [← q]; exact k2)
        obtain ⟨x, x1, x2, x3⟩ := ih ⟨k, by omega, k2⟩
        refine ⟨x, by omega, x2, fun j a b => ?_⟩
        by_cases hj : j = n
        · rw [hj]; exact hn
        · exact x3 j a (by omega)
  obtain ⟨q0, o0, q1, q2, q3⟩ := h
  obtain ⟨q, ⟨p1, p2, o, p3⟩, p4⟩ := least (fun q => q < 72 ∧ isQ mc day q ∧ ∃ o, Pof mc day A stop b pause q o) q0 ⟨q1, q2, o0, q3⟩
  obtain ⟨off, f1, f2⟩ := least (fun o => Pof mc day A stop b pause q o) o p3
  obtain ⟨on, g1, g2, g3⟩ := most (fun c => can (mc 2) A (stQ mc q c) (lvQ mc day (-1) 0 q c)) off f1.2.1
  exact ⟨q, on, off, p1, p2, f1, f2, fun q' o' a b c => p4 q' a ⟨by omega, b, o', c⟩, g1, g2, g3⟩
/-- .. and one ride fewer doesn't get there -/
theorem ChR_next {A0 : Lb} {stop : Nat} {b pause : Int} {q on off : Nat} (I : CI mc) (hs : stop < nC mc) (h : ChR mc day A stop b pause q on off) (rn : RndQ mc day (-1) 0 A0 A) (nr : ¬ rch A stop b pause) : stQ mc q on < nC mc ∧ rch A (stQ mc q on) (lvQ mc day (-1) 0 q on) (mc 2 (stQ mc q on)) ∧ ¬ rch A0 (stQ mc q on) (lvQ mc day (-1) 0 q on) (mc 2 (stQ mc q on)) := by
  obtain ⟨a1, a2, ⟨a3, -, a4⟩, -, -, a6, a7, -⟩ := h
  have s1 := (CI_call I a2.1 (c := on) (by omega)).2.1
  have s2 := (CI_call I a2.1 a3).2.1
  refine ⟨s1, a7.2, fun z => nr ?_⟩
  have rd : RdQ mc day (-1) 0 (-1) (stQ mc q on) (lvQ mc day (-1) 0 q on) (stQ mc q off) (arQ mc day (-1) 0 q off) := ⟨q, on, off, a1, a2, a6, a3, rfl, rfl, rfl, rfl, by omega, by omega⟩
  have e := rn.2 _ _ _ _ rd ⟨a7.1, z⟩
  unfold btw at a4
  by_cases hh : stQ mc q off = stop
  · rw [if_pos hh] at a4
    rw [hh] at e
    exact Or.inr (by omega)
  · rw [if_neg hh] at a4
    have := rn.1.2.1 _ _ s2 hs hh
    exact Or.inl (by omega)
/-! the class -/
theorem offCall_ok {r : Nat} {k : Nat} {R stop : Nat} {b pause : Int} (I : CI mc) (nt : NetT mc day (-1) 0 m R 72) (hR : R ≤ 72) (L : CtL mc (-1) m) (hr : r < R) (hk : k < 13) (hs : stop < nC mc) (hA : labC (361 + 3 * k) m = A) (rgA : Rg (nC mc) A) (hp : 0 ≤ pause ∧ pause ≤ 30) : Ok (C_Rounds_offCall r k stop b pause m) (fun z => (z = -1 ∧ ∀ o : Nat, ¬ Pof mc day A stop b pause (phi m r) o) ∨ ∃ o : Nat, z = o ∧ Pof mc day A stop b pause (phi m r) o ∧ ∀ o' : Nat, o' < o → ¬ Pof mc day A stop b pause (phi m r) o') := by
  have n := CI_n I
  obtain ⟨t1, t2, t3, t4, t5, t6⟩ := NetT_run I nt hr
  unfold C_Rounds_offCall
  refine ok_ltv (ok_ltv (ok_br2 (Q := fun z => match z with
    | .inl _ => ∀ o : Nat, ¬ Pof mc day A stop b pause (phi m r) o
    | .inr z => ∃ o : Nat, z = o ∧ Pof mc day A stop b pause (phi m r) o ∧ ∀ o' : Nat, o' < o → ¬ Pof mc day A stop b pause (phi m r) o') ?_ (fun _ _ h => ok_some (Or.inl ⟨rfl, h⟩)) (fun _ h => ok_some (Or.inr h))))
  refine ok_loop (fun x => ∃ c : Nat, x.2 = c ∧ c ≤ lenQ mc (phi m r) ∧ (x.1 = 0 ∨ x.1 = 1) ∧ (x.1 = 1 → Got mc day (-1) 0 A (phi m r) c) ∧ (x.1 = 0 → ∀ c0 : Nat, c0 < c → ¬ can (mc 2) A (stQ mc (phi m r) c0) (lvQ mc day (-1) 0 (phi m r) c0)) ∧ ∀ o : Nat, o < c → ¬ Pof mc day A stop b pause (phi m r) o) (fun x => 9 - x.2.toNat) ⟨0, rfl, Nat.zero_le _, Or.inl rfl, fun h => absurd (show (0 : Int) = 1 from h) (by decide), fun _ c0 h => by omega, fun o h => by omega⟩ ?_
  rintro ⟨z, y⟩ ⟨c, e1, e2, e3, e4, e5, e6⟩
  dsimp only at e1 e3 e4 e5 e6 ⊢
  subst e1
  unfold C_Rounds_offCall_b1
  simp only [Int.toNat_natCast]
  rw [t3]
  refine ok_grd (by omega) (ok_ite (fun hc => ?_) (fun hc => ok_some (fun o => ?_)))
  · have hc2 : c < lenQ mc (phi m r) := by omega
    have tc := t6 c hc2
    have bA := qa_bd (day := day) (sh := -1) (mi := 0) I t2.1 t1 (by omega) hc2
    simp only [tc.1, tc.2.2.1, tc.2.2.2, Int.toNat_natCast]
    have ebt : (if (stQ mc (phi m r) c : Int) = (stop : Int) then pause else m (17 + stQ mc (phi m r) c) stop) = btw mc stop pause (stQ mc (phi m r) c) := by
      unfold btw
      by_cases hh : stQ mc (phi m r) c = stop
      · rw [if_pos hh, if_pos (by omega)]
      · rw [if_neg hh, if_neg (by omega)]
        exact L.2.2.2 _ _ tc.2.1 hs
    rw [ebt]
    have wb : 0 ≤ btw mc stop pause (stQ mc (phi m r) c) ∧ btw mc stop pause (stQ mc (phi m r) c) ≤ 1000000 := by
      unfold btw
      split
      · omega
      · have := CI_w (cut := -1) I tc.2.1 hs
        omega
    refine ok_grd (by omega) (ok_ltv (ok_grd ⟨fun _ => by omega, fun _ => by omega, fun _ => by unfold InR; omega⟩ (ok_ite (fun h => ok_some ?_) (fun h => ok_ltv (ok_ite (fun hz => ok_ltv (ok_grd (by unfold InR; omega) (ok_ltv (ok_some ⟨⟨c + 1, by dsimp only; omega, by omega, Or.inr rfl, fun _ => ?_, fun q => absurd (show (1 : Int) = 0 from q) (by decide), fun o ho => ?_⟩, by dsimp only; omega⟩)))) (fun hz => ok_grd (by omega) (ok_bind (canGetOn_ok (x := 361 + 3 * k) I L tc.2.1 (by rw [hA]; exact rgA)) (fun v hv => ?_))))))))
    · obtain ⟨c0, j1, j2⟩ := e4 (by
        rcases e3 with e3 | e3
        · exact absurd e3 h.1
        · exact e3)
      exact ⟨c, rfl, ⟨hc2, ⟨c0, j1, j2⟩, h.2⟩, e6⟩
    · obtain ⟨c0, j1, j2⟩ := e4 (by
        rcases e3 with e3 | e3
        · exact absurd e3 hz
        · exact e3)
      exact ⟨c0, by omega, j2⟩
    · by_cases ho2 : o = c
      · rw [ho2]
        rintro ⟨-, -, q3⟩
        exact h ⟨hz, q3⟩
      · exact e6 o (by omega)
    · have hz0 : z = 0 := by
        rcases e3 with e3 | e3
        · exact e3
        · rw [e3] at hz
          exact absurd (by decide) hz
      rw [hA] at hv
      have no : ¬ Pof mc day A stop b pause (phi m r) c := by
        rintro ⟨-, ⟨c0, q1, q2⟩, -⟩
        exact e5 hz0 c0 q1 q2
      refine ok_ite (fun hv0 => ok_ltv (ok_grd (by unfold InR; omega) (ok_ltv (ok_some ⟨⟨c + 1, by dsimp only; omega, by omega, Or.inr rfl, fun _ => ?_, fun q => absurd (show (1 : Int) = 0 from q) (by decide), fun o ho => ?_⟩, by dsimp only; omega⟩)))) (fun hv0 => ok_ltv (ok_grd (by unfold InR; omega) (ok_ltv (ok_some ⟨⟨c + 1, by dsimp only; omega, by omega, Or.inl rfl, fun q => absurd (show (0 : Int) = 1 from q) (by decide), fun _ c0 hc0 => ?_, fun o ho => ?_⟩, by dsimp only; omega⟩))))
      · rcases hv with hv | hv
        · exact ⟨c, by omega, hv.2⟩
        · exact absurd hv.1 hv0
      · by_cases ho2 : o = c
        · rw [ho2]; exact no
        · exact e6 o (by omega)
      · by_cases hh : c0 = c
        · rcases hv with hv | hv
          · omega
          · rw [hh]; exact hv.2
        · exact e5 hz0 c0 (by omega)
      · by_cases ho2 : o = c
        · rw [ho2]; exact no
        · exact e6 o (by omega)
  · intro q
    by_cases ho : o < c
    · exact e6 o ho q
    · have := q.1
      omega
theorem findRideC_ok {k : Nat} {R stop q on off : Nat} {b pause : Int} (I : CI mc) (nt : NetT mc day (-1) 0 m R 72) (hR : R ≤ 72) (e4 : m 119 4 = R) (L : CtL mc (-1) m) (hk : k < 13) (hs : stop < nC mc) (hA : labC (361 + 3 * k) m = A) (rgA : Rg (nC mc) A) (hp : 0 ≤ pause ∧ pause ≤ 30) (h : ChR mc day A stop b pause q on off) : Ok (C_Rounds_findRide k stop b pause m) (fun z => ∃ r : Nat, z = r ∧ r < R ∧ phi m r = q) := by
  obtain ⟨rq, rq1, rq2⟩ := nt.2.2 q h.1 h.2.1
  unfold C_Rounds_findRide
  refine ok_ltv (ok_br1 (Q := fun z => match z with
    | .inl _ => False
    | .inr z => ∃ r : Nat, z = r ∧ r < R ∧ phi m r = q) ?_ (fun _ h => h.elim) (fun _ h => ok_some h))
  refine ok_loop (fun x => ∃ r : Nat, x = r ∧ r ≤ rq) (fun x => 80 - x.toNat) ⟨0, rfl, Nat.zero_le _⟩ ?_
  rintro x ⟨r, rfl, e2⟩
  unfold C_Rounds_findRide_b1
  rw [e4]
  refine ok_ite (fun hr => ok_bind (offCall_ok I nt hR L (by omega) hk hs hA rgA hp) (fun z hz => ok_ite (fun hz0 => ok_some ?_) (fun hz0 => ok_grd (by unfold InR; omega) (ok_ltv (ok_some ⟨⟨r + 1, by omega, ?_⟩, by omega⟩))))) (fun hr => by omega)
  · rcases hz with hz | ⟨o, o1, o2, -⟩
    · exact absurd hz.1 hz0
    · refine ⟨r, rfl, by omega, ?_⟩
      by_cases hh : r = rq
      · rw [hh]; exact rq2
      · have lt := nt.2.1 r rq (by omega) rq1
        rw [rq2] at lt
        exact absurd o2 (h.2.2.2.2.1 _ o lt (NetT_run I nt (r := r) (by omega)).2.1)
  · have : r ≠ rq := by
      intro q2
      rcases hz with hz | ⟨o, o1, -, -⟩
      · rw [q2, rq2] at hz
        exact hz.2 off h.2.2.1
      · omega
    omega
theorem onCall_ok {k : Nat} {R stop q on off r : Nat} {b pause : Int} (I : CI mc) (nt : NetT mc day (-1) 0 m R 72) (hR : R ≤ 72) (L : CtL mc (-1) m) (hr : r < R) (er : phi m r = q) (hk : k < 13) (hA : labC (361 + 3 * k) m = A) (rgA : Rg (nC mc) A) (h : ChR mc day A stop b pause q on off) : Ok (C_Rounds_onCall r k off m) (fun z => z = on) := by
  obtain ⟨h1, h2, h3, h4, h5, h6, h7, h8⟩ := h
  obtain ⟨t1, t2, t3, t4, t5, t6⟩ := NetT_run I nt hr
  rw [er] at t1 t2 t3 t4 t5 t6
  have hl := h3.1
  unfold C_Rounds_onCall
  refine ok_grd (by unfold InR; omega) (ok_ltv (ok_br1 (Q := fun z => match z with
    | .inl _ => on = 0
    | .inr z => z = on) ?_ (fun _ h => ok_some (by rw [h]; rfl)) (fun _ h => ok_some h)))
  refine ok_loop (fun x => ∃ c : Nat, x = c ∧ on ≤ c ∧ c < off) (fun x => x.toNat) ⟨off - 1, by omega, by omega, by omega⟩ ?_
  rintro x ⟨c, rfl, e1, e2⟩
  unfold C_Rounds_onCall_b1
  have tc := t6 c (by omega)
  simp only [Int.toNat_natCast, tc.1, tc.2.2.2]
  refine ok_ite (fun hc => ok_grd (by omega) (ok_bind (canGetOn_ok (x := 361 + 3 * k) I L tc.2.1 (by rw [hA]; exact rgA)) (fun v hv => ?_))) (fun hc => ok_some (by dsimp only; omega))
  rw [hA] at hv
  refine ok_ite (fun hv0 => ok_some ?_) (fun hv0 => ok_grd (by unfold InR; omega) (ok_ltv (ok_some ⟨⟨c - 1, by omega, ?_, by omega⟩, by omega⟩)))
  · rcases hv with hv | hv
    · dsimp only
      by_cases hh : c = on
      · rw [hh]
      · exact absurd hv.2 (h8 c (by omega) e2)
    · exact absurd hv.1 hv0
  · have : c ≠ on := by
      intro q2
      rcases hv with hv | hv
      · exact hv0 (by omega)
      · rw [q2] at hv
        exact hv.2 h7
    omega
end CHR
