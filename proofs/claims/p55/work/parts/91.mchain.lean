/-! ===== the reference's chain ===== -/
section MCH
variable {mc mm m m0 : Mem} {day : Int} {A : Lb}
theorem can_eq {L B : Lb} (h : eqL (nC mc) L B) {s : Nat} {t : Int} (hs : s < nC mc) : can (mc 2) L s t ↔ can (mc 2) B s t := by
  have := h s hs
  unfold can
  rw [this.1, this.2]
theorem ChR_congr {B : Lb} {stop q on off : Nat} {b pause : Int} (I : CI mc) (e : eqL (nC mc) A B) (h : ChR mc day A stop b pause q on off) : ChR mc day B stop b pause q on off := by
  have pe : ∀ q o : Nat, isQ mc day q → (Pof mc day A stop b pause q o ↔ Pof mc day B stop b pause q o) := fun q o hq => by
    unfold Pof
    constructor
    · rintro ⟨h1, ⟨c, c1, c2⟩, h3⟩
      exact ⟨h1, ⟨c, c1, (can_eq e (CI_call I hq.1 (c := c) (by omega)).2.1).mp c2⟩, h3⟩
    · rintro ⟨h1, ⟨c, c1, c2⟩, h3⟩
      exact ⟨h1, ⟨c, c1, (can_eq e (CI_call I hq.1 (c := c) (by omega)).2.1).mpr c2⟩, h3⟩
  obtain ⟨h1, h2, h3, h4, h5, h6, h7, h8⟩ := h
  have hl := h3.1
  exact ⟨h1, h2, (pe q off h2).mp h3, fun o ho z => h4 o ho ((pe q o h2).mpr z), fun q' o a b z => h5 q' o a b ((pe q' o b).mpr z), h6, (can_eq e (CI_call I h2.1 (c := on) (by omega)).2.1).mp h7, fun c a b z => h8 c a b ((can_eq e (CI_call I h2.1 (c := c) (by omega)).2.1).mpr z)⟩
theorem Seq_congr {A B : Nat → Lb} {Q On Of : Nat → Nat} (I : CI mc) (e : ∀ k, eqL (nC mc) (A k) (B k)) : ∀ {k stop : Nat} {b pause : Int}, Seq mc day A k stop b pause Q On Of → Seq mc day B k stop b pause Q On Of := by
  intro k
  induction k with
  | zero => intro _ _ _ _; exact trivial
  | succ k ih =>
    rintro stop b pause ⟨h1, h2⟩
    exact ⟨ChR_congr I (e k) h1, ih h2⟩
def FrR (k : Nat) (m0 m : Mem) : Prop := ∀ c i, ¬ ((c = 19 ∨ c = 20 ∨ c = 21) ∧ i = k) → m c i = m0 c i
theorem FrR_rel {k : Nat} (r : RelM mc day (-1) 0 (-1) m0) (f : FrR k m0 m) : RelM mc day (-1) 0 (-1) m := RelM_fr r (fun c i h => f c i (by unfold rM at h; omega))
theorem FrR_row {k : Nat} (f : FrR k m0 m) (j : Nat) : rowM m j = rowM m0 j := by
  unfold rowM
  exact Prod.ext (funext fun v => f 18 _ (by omega)) (funext fun v => f 17 _ (by omega))
/-- from a call back -/
theorem findOn_ok {k q o : Nat} (I : CI mc) (hd : 0 ≤ day ∧ day ≤ 27) (r : RelM mc day (-1) 0 (-1) m0) (hk : k < 74) (hq7 : q < 72) (hq : isQ mc day q) (ho : o < lenQ mc q) (hA : rowM m0 k = A) (rgA : Rg (nC mc) A) (e : m0 19 k = -1) : Ok (loop (fun s => M_findRide_b3 k q o s.1 s.2) ((o : Int) - 1, m0)) (fun x => FrR k m0 x.2 ∧ ((x.2 19 k = -1 ∧ ∀ c : Nat, c < o → ¬ can (mc 2) A (stQ mc q c) (lvQ mc day (-1) 0 q c)) ∨ ∃ c : Nat, c < o ∧ can (mc 2) A (stQ mc q c) (lvQ mc day (-1) 0 q c) ∧ (∀ c' : Nat, c < c' → c' < o → ¬ can (mc 2) A (stQ mc q c') (lvQ mc day (-1) 0 q c')) ∧ x.2 19 k = q ∧ x.2 20 k = c ∧ x.2 21 k = o)) := by
  have len := CI_len I hq.1
  refine ok_loop (fun x => ∃ c : Nat, x.1 = (c : Int) - 1 ∧ c ≤ o ∧ FrR k m0 x.2 ∧ ((x.2 19 k = -1 ∧ ∀ c' : Nat, c ≤ c' → c' < o → ¬ can (mc 2) A (stQ mc q c') (lvQ mc day (-1) 0 q c')) ∨ ∃ c : Nat, c < o ∧ can (mc 2) A (stQ mc q c) (lvQ mc day (-1) 0 q c) ∧ (∀ c' : Nat, c < c' → c' < o → ¬ can (mc 2) A (stQ mc q c') (lvQ mc day (-1) 0 q c')) ∧ x.2 19 k = q ∧ x.2 20 k = c ∧ x.2 21 k = o)) (fun x => (x.1 + 1).toNat) ⟨o, rfl, Nat.le_refl _, fun _ _ _ => rfl, Or.inl ⟨e, fun c' a b => by omega⟩⟩ ?_
  rintro ⟨x, m⟩ ⟨c, e1, e2, f, h⟩
  dsimp only at e1 f h ⊢
  subst e1
  unfold M_findRide_b3
  rw [Int.toNat_natCast]
  refine ok_grd (by omega) (ok_ite (fun hc => ?_) (fun hc => ok_some ⟨f, ?_⟩))
  · obtain ⟨c', rfl⟩ : ∃ c', c = c' + 1 := ⟨c - 1, by omega⟩
    have ec : ((c' + 1 : Nat) : Int) - 1 = (c' : Int) := by omega
    rw [ec] at hc ⊢
    have hu : ∀ c'' : Nat, c' + 1 ≤ c'' → c'' < o → ¬ can (mc 2) A (stQ mc q c'') (lvQ mc day (-1) 0 q c'') := by
      rcases h with h | ⟨_, -, -, -, h, -⟩
      · exact h.2
      · omega
    have rl := FrR_rel r f
    have cl := CI_call I hq.1 (c := c') (by omega)
    refine ok_bind (stopIn_ok I rl hq (c := c') (by omega)) (fun s hs => ok_bind (leavesAt_ok I rl hq7 hd (by omega) hq (c := c') (by omega)) (fun t ht => ?_))
    subst hs
    subst ht
    refine ok_bind (getsOnBy_ok I rl hk cl.2.1 (by rw [FrR_row f, hA]; exact rgA)) (fun v hv => ?_)
    rw [FrR_row f, hA] at hv
    refine ok_ite (fun hv0 => ok_grd (by omega) (ok_ltv (ok_ltv (ok_ltv (ok_grd (by unfold InR; omega) (ok_ltv (ok_some ⟨⟨c', rfl, by omega, fun c i hh => ?_, Or.inr ⟨c', by omega, ?_, fun c'' a b => hu c'' (by omega) b, ?_, ?_, ?_⟩⟩, by dsimp only; omega⟩))))))) (fun hv0 => ok_grd (by unfold InR; omega) (ok_ltv (ok_some ⟨⟨c', rfl, by omega, f, Or.inl ⟨hc.2, fun c'' a b => ?_⟩⟩, by dsimp only; omega⟩)))
    · dsimp only
      rw [setM_ne (by omega), setM_ne (by omega), setM_ne (by omega)]
      exact f c i hh
    · rcases hv with hv | hv
      · exact hv.2
      · exact absurd hv.1 hv0
    · dsimp only
      rw [setM_ne (by omega), setM_ne (by omega), setM_same]
    · dsimp only
      rw [setM_ne (by omega), setM_same]
    · dsimp only
      rw [setM_same]
    · by_cases hh : c'' = c'
      · rw [hh]
        rcases hv with hv | hv
        · omega
        · exact hv.2
      · exact hu c'' (by omega) b
  · rcases h with h | h
    · refine Or.inl ⟨h.1, fun c' hc' => h.2 c' ?_ hc'⟩
      have := h.1
      omega
    · exact Or.inr h
theorem findRideM_ok {k stop q on off : Nat} {b pause isEnd : Int} (I : CI mc) (hd : 0 ≤ day ∧ day ≤ 27) (r : RelM mc day (-1) 0 (-1) m0) (hk : k < 74) (hs : stop < nC mc) (hA : rowM m0 k = A) (rgA : Rg (nC mc) A) (hp : pause = if ¬ isEnd = 0 then 0 else mc 2 stop) (h : ChR mc day A stop b pause q on off) : Ok (M_findRide k stop b isEnd m0) (fun m => FrR k m0 m ∧ m 19 k = q ∧ m 20 k = on ∧ m 21 k = off) := by
  have n := CI_n I
  obtain ⟨h1, h2, h3, h4, h5, h6, h7, h8⟩ := id h
  unfold M_findRide
  rw [Int.toNat_natCast]
  refine ok_grd (by omega) (ok_ltv (ok_ltv ?_))
  refine ok_bq2 (Q := fun x => FrR k m0 x.2 ∧ x.2 19 k = q ∧ x.2 20 k = on ∧ x.2 21 k = off) ?_ (fun _ _ z => ok_some z)
  refine ok_loop (fun x => ∃ rn : Nat, x.1 = rn ∧ rn ≤ 72 ∧ FrR k m0 x.2 ∧ ((x.2 19 k = -1 ∧ rn ≤ q) ∨ (x.2 19 k = q ∧ x.2 20 k = on ∧ x.2 21 k = off))) (fun x => 80 - x.1.toNat) ⟨0, rfl, by omega, fun c i hh => setM_ne (by omega), Or.inl ⟨setM_same _ _ _ _, Nat.zero_le _⟩⟩ ?_
  rintro ⟨x, m⟩ ⟨rn, e1, e2, f, hh⟩
  dsimp only at e1 f hh ⊢
  subst e1
  unfold M_findRide_b1
  rw [Int.toNat_natCast]
  refine ok_grd (by omega) (ok_ite (fun hc => ok_ltv ?_) (fun hc => ok_some ⟨f, ?_⟩))
  · have hrq : rn ≤ q := by
      rcases hh with hh | hh
      · exact hh.2
      · omega
    refine ok_bq2 (Q := fun x => FrR k m0 x.2 ∧ ((x.2 19 k = -1 ∧ rn ≠ q) ∨ (x.2 19 k = q ∧ x.2 20 k = on ∧ x.2 21 k = off))) ?_ (fun _ m' z => ok_grd (by unfold InR; omega) (ok_ltv (ok_some ⟨⟨rn + 1, by dsimp only; omega, by omega, z.1, ?_⟩, by dsimp only; omega⟩)))
    · refine ok_loop (fun x => ∃ o : Nat, x.1 = o ∧ 1 ≤ o ∧ o ≤ 9 ∧ FrR k m0 x.2 ∧ ((x.2 19 k = -1 ∧ (rn = q → o ≤ off)) ∨ (x.2 19 k = q ∧ x.2 20 k = on ∧ x.2 21 k = off))) (fun x => 10 - x.1.toNat) ⟨1, rfl, Nat.le_refl _, by omega, f, Or.inl ⟨hc.2, fun _ => by omega⟩⟩ ?_
      rintro ⟨x, m'⟩ ⟨o, e1, e3, e4, g, gg⟩
      dsimp only at e1 g gg ⊢
      subst e1
      have rl := FrR_rel r g
      unfold M_findRide_b2
      refine ok_bind (isRun_ok I rl (q := rn) (by omega) hd) (fun v hv => ok_ite (fun hv0 => ?_) (fun hv0 => ok_some ⟨g, ?_⟩))
      · have hq : isQ mc day rn := by
          rcases hv with hv | hv
          · exact hv.2
          · exact absurd hv.1 hv0
        have len := CI_len I hq.1
        have e6 : m' 6 (rn % 24) = lenQ mc rn := by rw [(rl.2.2.2.2.1 (rn % 24) hq.1).2.1]; exact len.1
        rw [tm24, Int.toNat_natCast, e6, Int.toNat_natCast]
        refine ok_grd (by omega) (ok_ite (fun ho => ok_grd (by omega) (ok_ite (fun hm1 => ?_) (fun hm1 => ok_some ⟨g, ?_⟩))) (fun ho => ok_some ⟨g, ?_⟩))
        · have ho2 : o < lenQ mc rn := by omega
          have cl := CI_call I hq.1 ho2
          have bA := qa_bd (day := day) (sh := -1) (mi := 0) I hq.1 (by omega : rn < 72) (by omega) ho2
          have gu : rn = q → o ≤ off := by
            rcases gg with gg | gg
            · exact gg.2
            · omega
          refine ok_bind (stopIn_ok I rl hq ho2) (fun s hs2 => ok_ltv ?_)
          subst hs2
          have eb : (if ¬ (stQ mc rn o : Int) = (stop : Int) then m' 3 (12 * (stQ mc rn o : Int) + (stop : Int)).toNat else (if ¬ isEnd = 0 then 0 else m' 1 ((stop : Int)).toNat)) = btw mc stop pause (stQ mc rn o) := by
            unfold btw
            by_cases hst : stQ mc rn o = stop
            · rw [if_neg (by omega), if_pos hst, hp, Int.toNat_natCast, rl.2.1 stop hs]
            · rw [if_pos (by omega), if_neg hst, i12, rl.2.2.1 _ _ cl.2.1 hs]
              unfold dg
              rw [if_neg hst]
          rw [eb]
          have gb := CI_g I hs
          have wb : 0 ≤ btw mc stop pause (stQ mc rn o) ∧ btw mc stop pause (stQ mc rn o) ≤ 1000000 := by
            unfold btw
            split
            · rw [hp]; split <;> omega
            · have := CI_w (cut := -1) I cl.2.1 hs
              omega
          refine ok_grd (by unfold InR; omega) (ok_ltv (ok_bind (comesAt_ok I rl (by omega) hd (by omega) hq ho2) (fun t ht => ?_)))
          subst ht
          refine ok_grd (by unfold InR; omega) (ok_ite (fun hlt => ok_grd (by unfold InR; omega) (ok_ltv (ok_some ⟨⟨o + 1, by dsimp only; omega, by omega, by omega, g, Or.inl ⟨hm1, fun z => ?_⟩⟩, by dsimp only; omega⟩))) (fun hlt => ok_grd (by unfold InR; omega) (ok_ltv (ok_bq2 (findOn_ok (q := rn) (o := o) (A := A) I hd rl hk (by omega) hq ho2 (by rw [FrR_row g]; exact hA) rgA hm1) (fun _ m'' z => ok_grd (by unfold InR; omega) (ok_ltv (ok_some ⟨⟨o + 1, by dsimp only; omega, by omega, by omega, fun c i w => ?_, ?_⟩, by dsimp only; omega⟩)))))))
          · have := gu z
            have : o ≠ off := by
              intro w
              rw [z, w] at hlt
              have := h3.2.2
              omega
            omega
          · dsimp only at z ⊢
            rw [z.1 c i w]
            exact g c i w
          · dsimp only at z ⊢
            rcases z.2 with ⟨z1, z2⟩ | ⟨c, c1, c2, c3, c4, c5, c6⟩
            · refine Or.inl ⟨z1, fun w => ?_⟩
              have := gu w
              have : o ≠ off := by
                intro w2
                rw [w, w2] at z2
                exact z2 on h6 h7
              omega
            · have P : Pof mc day A stop b pause rn o := ⟨ho2, ⟨c, c1, c2⟩, by omega⟩
              have erq : rn = q := by
                apply Classical.byContradiction
                intro w
                exact h5 rn o (by omega) hq P
              rw [erq] at P c2 c3 c4
              have eo : o = off := by
                have := gu erq
                apply Classical.byContradiction
                intro w
                exact h4 o (by omega) P
              rw [eo] at c1 c3 c6
              have ec : c = on := by
                rcases Nat.lt_trichotomy c on with w | w | w
                · exact absurd h7 (c3 on w h6)
                · exact w
                · exact absurd c2 (h8 c w c1)
              refine Or.inr ⟨c4, by rw [c5, ec], c6⟩
        · rcases gg with gg | gg
          · exact absurd gg.1 hm1
          · exact Or.inr gg
        · rcases gg with gg | gg
          · refine Or.inl ⟨gg.1, fun w => ?_⟩
            have := gg.2 w
            have := h3.1
            rw [w] at ho
            omega
          · exact Or.inr gg
      · rcases gg with gg | gg
        · refine Or.inl ⟨gg.1, fun w => ?_⟩
          rcases hv with hv | hv
          · omega
          · rw [w] at hv
            exact hv.2 h2
        · exact Or.inr gg
    · dsimp only at z ⊢
      rcases z.2 with z2 | z2
      · exact Or.inl ⟨z2.1, by omega⟩
      · exact Or.inr z2
  · rcases hh with hh | hh
    · have := hh.1
      omega
    · exact hh
end MCH
