/-! ===== checksum ===== -/
section CHK
variable {mc mm m m0 : Mem}
/-- a fold -/
def fI {α : Type} (f : α → Nat → α) (a : α) : Nat → α
  | 0 => a
  | k + 1 => f (fI f a k) k
theorem ok_fold {α : Type} {a : α} {n : Nat} {body : α → Int → Option ((α × Int) ⊕ (α × Int))} (f : α → Nat → α) (h1 : ∀ (x : α) (k : Nat), k < n → Ok (body x k) (fun r => r = .inl (f x k, (k : Int) + 1))) (h2 : ∀ x : α, body x n = some (.inr (x, (n : Int)))) : Ok (loop (fun s => body s.1 s.2) (a, (0 : Int))) (fun x => x.1 = fI f a n) := by
  refine ok_loop (fun x => ∃ k : Nat, x.2 = k ∧ k ≤ n ∧ x.1 = fI f a k) (fun x => n - x.2.toNat) ⟨0, rfl, Nat.zero_le _, rfl⟩ ?_
  rintro ⟨x, y⟩ ⟨k, e1, e2, e3⟩
  dsimp only at e1 e3 ⊢
  subst e1
  by_cases hk : k < n
  · refine (h1 x k hk).mono (fun r hr => ?_)
    subst hr
    refine ⟨⟨k + 1, by dsimp only; omega, by omega, ?_⟩, by dsimp only; omega⟩
    show f x k = f (fI f a k) k
    rw [e3]
  · have : k = n := by omega
    subst this
    rw [h2 x]
    exact ok_some e3
def ck1 (mc : Mem) (x : Int64) (k : Nat) : Int64 := 31 * x + Int64.ofInt (mc 2 k)
def ck3 (mc : Mem) (t : Nat) (x : Int64) (c : Nat) : Int64 := 31 * (31 * (31 * x + Int64.ofInt (mc (35 + t) c)) + Int64.ofInt (mc (60 + t) c)) + Int64.ofInt (mc (85 + t) c)
def ck2 (mc : Mem) (x : Int64) (t : Nat) : Int64 := fI (ck3 mc t) (31 * x + Int64.ofInt (mc 32 t)) (mc 33 t).toNat
def ck5 (mc : Mem) (s : Nat) (x : Int64) (d : Nat) : Int64 := 31 * x + Int64.ofInt (bit (mc 30 s) d)
def ck4 (mc : Mem) (x : Int64) (s : Nat) : Int64 := fI (ck5 mc s) x 28
def ckS (mc : Mem) : Int64 := 31 * fI (ck4 mc) (fI (ck2 mc) (fI (ck1 mc) 7 (nC mc)) (mc 31 0).toNat) (mc 29 0).toNat + Int64.ofInt (mc 114 1)
theorem checkC_ok (I : Inv mc mm) : Ok (C_checksum mc) (fun x => x = ckS mc) := by
  have n := CI_n ⟨_, I⟩
  obtain ⟨t1, t2, t3, t4⟩ := id I.2.2.1
  obtain ⟨v1, v2, v3, v4, v5⟩ := id I.2.1
  unfold C_checksum C_Stops_addTo C_Trips_addTo C_Services_addTo
  refine ok_bind (Q := fun x => x = fI (ck1 mc) 7 (nC mc)) (ok_ltv (ok_ltv (ok_bq2 (ok_fold (n := nC mc) (ck1 mc) (fun x k hk => ?_) (fun x => ?_)) (fun _ _ h => ok_some h)))) (fun x hx => ok_ltv (ok_bind (Q := fun x => x = fI (ck2 mc) (fI (ck1 mc) 7 (nC mc)) (mc 31 0).toNat) (ok_ltv (ok_ltv (ok_bq2 (ok_fold (n := (mc 31 0).toNat) (ck2 mc) (fun x k hk => ?_) (fun x => ?_)) (fun _ _ h => ok_some (h.trans (by rw [hx])))))) (fun y hy => ok_ltv (ok_bind (Q := fun x => x = fI (ck4 mc) (fI (ck2 mc) (fI (ck1 mc) 7 (nC mc)) (mc 31 0).toNat) (mc 29 0).toNat) (ok_ltv (ok_ltv (ok_bq2 (ok_fold (n := (mc 29 0).toNat) (ck4 mc) (fun x k hk => ?_) (fun x => ?_)) (fun _ _ h => ok_some (h.trans (by rw [hy])))))) (fun z hz => ok_ltv (ok_some ?_))))))
  · unfold C_Stops_addTo_b1
    rw [Int.toNat_natCast]
    exact ok_ite (fun _ => ok_grd (by omega) (ok_ltv (ok_grd (by unfold InR; omega) (ok_ltv (ok_some rfl))))) (fun h => by omega)
  · unfold C_Stops_addTo_b1
    rw [if_neg (by omega)]
  · have q := t4 k (by omega)
    unfold C_Trips_addTo_b1
    rw [Int.toNat_natCast]
    refine ok_ite (fun _ => ok_grd (by omega) (ok_ltv (ok_ltv (ok_bq2 (ok_fold (n := (mc 33 k).toNat) (ck3 mc k) (fun x c hc => ?_) (fun x => ?_)) (fun _ _ h => ok_grd (by unfold InR; omega) (ok_ltv (ok_some ?_))))))) (fun h => by omega)
    · unfold C_Trips_addTo_b2
      simp only [Int.toNat_natCast]
      exact ok_grd (by omega) (ok_ite (fun _ => ok_grd (by omega) (ok_ltv (ok_ltv (ok_ltv (ok_grd (by unfold InR; omega) (ok_ltv (ok_some rfl))))))) (fun h => by omega))
    · unfold C_Trips_addTo_b2
      simp only [Int.toNat_natCast]
      rw [grd_pos (by omega), if_neg (by omega)]
    · dsimp only at h
      rw [h]
      rfl
  · unfold C_Trips_addTo_b1
    rw [if_neg (by omega)]
  · unfold C_Services_addTo_b1
    refine ok_ite (fun _ => ok_ltv (ok_bq2 (ok_fold (n := 28) (ck5 mc k) (fun x d hd => ?_) (fun x => ?_)) (fun _ _ h => ok_grd (by unfold InR; omega) (ok_ltv (ok_some ?_))))) (fun h => by omega)
    · have r := v4 k (by omega)
      unfold C_Services_addTo_b2
      refine ok_ite (fun _ => ok_ltv (ok_bind (isOn_ok (s := k) (d := (d : Int)) (m := mc) (by omega) (by omega) (by rw [Int.toNat_natCast]; exact ⟨r.1, r.2.1⟩)) (fun z hz => ?_))) (fun h => by omega)
      rw [if_pos (by omega), Int.toNat_natCast, Int.toNat_natCast] at hz
      have e : ck5 mc k x d = 31 * x + Int64.ofInt z := by rw [hz]; rfl
      have b := bit_01 (mc 30 k) d
      rw [e]
      refine ok_ite (fun hz0 => ?_) (fun hz0 => ?_)
      · have : z = 1 := by omega
        rw [this]
        exact ok_ltv (ok_grd (by unfold InR; omega) (ok_ltv (ok_some rfl)))
      · have : z = 0 := by omega
        rw [this]
        exact ok_ltv (ok_grd (by unfold InR; omega) (ok_ltv (ok_some rfl)))
    · unfold C_Services_addTo_b2
      rw [if_neg (by omega)]
    · dsimp only at h
      rw [h]
      rfl
  · unfold C_Services_addTo_b1
    rw [if_neg (by omega)]
  · unfold ckS
    rw [hz]
theorem checkM_ok (I : Inv mc mm) : Ok (M_checksum mm) (fun x => x.1 = ckS mc ∧ x.2 = setM mm 0 0 0) := by
  have n := CI_n ⟨_, I⟩
  obtain ⟨i1, i2, i3, i4, i5, i6, i7, i8⟩ := id I.1
  obtain ⟨t1, t2, t3, t4⟩ := id I.2.2.1
  obtain ⟨v1, v2, v3, v4, v5⟩ := id I.2.1
  unfold M_checksum
  refine ok_ltv (ok_ltv (ok_ltv (ok_bq2 (ok_fold (n := nC mc) (ck1 mc) (fun x k hk => ?_) (fun x => ?_)) (fun s1 _ h1 => ok_ltv (ok_bq2 (ok_fold (n := (mc 31 0).toNat) (ck2 mc) (fun x k hk => ?_) (fun x => ?_)) (fun s2 _ h2 => ok_ltv (ok_bq2 (ok_fold (n := (mc 29 0).toNat) (ck4 mc) (fun x k hk => ?_) (fun x => ?_)) (fun s3 _ h3 => ok_some ⟨?_, rfl⟩))))))))
  · unfold M_checksum_b1
    rw [Int.toNat_natCast, setM_ne (c' := 0) (i' := 1) (by omega), setM_ne (c' := 1) (by omega), i1, (i6 k (by omega)).1]
    exact ok_ite (fun _ => ok_grd (by omega) (ok_ltv (ok_grd (by unfold InR; omega) (ok_ltv (ok_some rfl))))) (fun h => by omega)
  · unfold M_checksum_b1
    rw [setM_ne (by omega), if_neg (by omega)]
  · have q := t4 k (by omega)
    unfold M_checksum_b2
    rw [Int.toNat_natCast, setM_ne (c' := 0) (i' := 8) (by omega), setM_ne (c' := 5) (by omega), t1, q.1]
    refine ok_ite (fun _ => ok_grd (by omega) (ok_ltv (ok_ltv (ok_bq2 (ok_fold (n := (mc 33 k).toNat) (ck3 mc k) (fun x c hc => ?_) (fun x => ?_)) (fun _ _ h => ok_grd (by unfold InR; omega) (ok_ltv (ok_some ?_))))))) (fun h => by omega)
    · have r := q.2.2.2.2.2.2 c (by omega)
      unfold ITc at r
      have ix : (8 * (k : Int) + (c : Int)).toNat = 8 * k + c := by omega
      unfold M_checksum_b3
      rw [Int.toNat_natCast, ix, setM_ne (c' := 6) (by omega), setM_ne (c' := 7) (by omega), setM_ne (c' := 8) (by omega), setM_ne (c' := 9) (by omega), q.2.2.2.1, r.1, r.2.2.2.1, r.2.2.2.2.1]
      exact ok_grd (by omega) (ok_ite (fun _ => ok_grd (by unfold InR; omega) (ok_ltv (ok_ltv (ok_ltv (ok_grd (by unfold InR; omega) (ok_ltv (ok_some rfl))))))) (fun h => by omega))
    · unfold M_checksum_b3
      rw [Int.toNat_natCast, setM_ne (c' := 6) (by omega), q.2.2.2.1, grd_pos (by omega), if_neg (by omega)]
    · dsimp only at h
      rw [h]
      rfl
  · unfold M_checksum_b2
    rw [setM_ne (by omega), if_neg (by omega)]
  · unfold M_checksum_b4
    rw [setM_ne (by omega), v1]
    refine ok_ite (fun _ => ok_ltv (ok_bq2 (ok_fold (n := 28) (ck5 mc k) (fun x d hd => ?_) (fun x => ?_)) (fun _ _ h => ok_grd (by unfold InR; omega) (ok_ltv (ok_some ?_))))) (fun h => by omega)
    · have ix : (28 * (k : Int) + (d : Int)).toNat = 28 * k + d := by omega
      unfold M_checksum_b5
      rw [ix, setM_ne (by omega), v5 k d (by omega) hd]
      have e : (if ¬ bit (mc 30 k) d = 0 then (1 : Int) else 0) = bit (mc 30 k) d := by
        have := bit_01 (mc 30 k) d
        split <;> omega
      rw [e]
      exact ok_ite (fun _ => ok_grd (by unfold InR; omega) (ok_ltv (ok_grd (by unfold InR; omega) (ok_ltv (ok_some rfl))))) (fun h => by omega)
    · unfold M_checksum_b5
      rw [if_neg (by omega)]
    · dsimp only at h
      rw [h]
      rfl
  · unfold M_checksum_b4
    rw [setM_ne (by omega), if_neg (by omega)]
  · dsimp only at h1 h2 h3 ⊢
    rw [h3, h2, h1, setM_ne (by omega), I.2.2.2.2.1.1]
    rfl
theorem st_checksum : ST_checksum Inv := by
  intro mc mm I
  obtain ⟨x, h1, h2⟩ := checkC_ok I
  obtain ⟨y, g1, g2, g3⟩ := checkM_ok I
  refine ⟨x, y, h1, g1, ?_, by rw [g2, h2]⟩
  rw [g3]
  exact Inv_thr I 0
end CHK
