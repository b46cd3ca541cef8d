/-! ===== vehicles by a matching ===== -/
def fol (m : Mem) (e b : Nat) : Prop := m 433 e = m 432 b ∧ m 435 e ≤ m 434 b
def MtI (n : Nat) (m : Mem) : Prop := (∀ e, e < n → m 438 e = -1 ∨ ∃ b : Nat, b < n ∧ m 438 e = b ∧ m 439 b = e ∧ fol m e b) ∧ ∀ b, b < n → m 439 b = -1 ∨ ∃ e : Nat, e < n ∧ m 439 b = e ∧ m 438 e = b
def Tgt (n : Nat) (m : Mem) (v τ : Int) : Prop := ∀ b, b < n → m 432 b = v → τ ≤ m 434 b → ∃ e : Nat, e < n ∧ m 439 b = e ∧ τ ≤ m 435 e
def QuP (n k w : Nat) (m : Mem) : Prop := m 440 0 = k ∧ (∀ p, p < w → ∃ e : Nat, e < n ∧ m 440 p = e ∧ m 433 e = m 433 k) ∧ (∀ p, 1 ≤ p → p < w → ∃ b : Nat, b < n ∧ m 439 b = m 440 p ∧ ∃ p', p' < p ∧ m 441 b = m 440 p' ∧ ∃ e : Nat, m 440 p' = e ∧ fol m e b) ∧ ∀ p p2, p < p2 → p2 < w → m 440 p ≠ m 440 p2
section MAT
variable {mc mm m m0 m1 : Mem} {day : Int} {n k w : Nat}
theorem mt_iff (M : MtI n m) {e b : Nat} (he : e < n) (hb : b < n) : m 439 b = (e : Int) ↔ m 438 e = (b : Int) := by
  constructor
  · intro h
    rcases M.2 b hb with q | ⟨e', h1, h2, h3⟩
    · omega
    · have : e' = e := by omega
      rw [← this]
      exact h3
  · intro h
    rcases M.1 e he with q | ⟨b', h1, h2, h3, -⟩
    · omega
    · have : b' = b := by omega
      rw [← this]
      exact h3
theorem mt_sum (M : MtI n m) (h : Nat → Int) : sI (fun b => if m 439 b = -1 then 0 else h (m 439 b).toNat) n = sI (fun e => if m 438 e = -1 then 0 else h e) n := by
  have e1 : sI (fun b => if m 439 b = -1 then 0 else h (m 439 b).toNat) n = sI (fun b => sI (fun e => if m 439 b = (e : Int) then h e else 0) n) n := by
    refine sI_congr (fun b hb => ?_)
    rw [sI_pt]
    rcases M.2 b hb with q | ⟨e, h1, h2, h3⟩
    · rw [if_pos q, if_neg (by omega)]
    · rw [if_neg (by omega), if_pos (by omega)]
  have e2 : sI (fun e => if m 438 e = -1 then 0 else h e) n = sI (fun e => sI (fun b => if m 439 b = (e : Int) then h e else 0) n) n := by
    refine sI_congr (fun e he => ?_)
    have c : sI (fun b => if m 439 b = (e : Int) then h e else 0) n = sI (fun b => if m 438 e = (b : Int) then (fun _ => h e) b else 0) n := by
      refine sI_congr (fun b hb => ?_)
      have := mt_iff M he hb
      by_cases z : m 439 b = (e : Int)
      · rw [if_pos z, if_pos (this.mp z)]
      · rw [if_neg z, if_neg (fun y => z (this.mpr y))]
    rw [c, sI_pt]
    rcases M.1 e he with q | ⟨b, h1, h2, h3⟩
    · rw [if_pos q, if_neg (by omega)]
    · rw [if_neg (by omega), if_pos (by omega)]
  rw [e1, e2, sI_swap]
theorem mt_one (M : MtI n m) : sI (fun b => if m 439 b = -1 then 0 else 1) n = sI (fun e => if m 438 e = -1 then 0 else 1) n := mt_sum M (fun _ => 1)
theorem least_of {r : Nat → Int} : ∀ {w : Nat}, 1 ≤ w → ∃ p, p < w ∧ ∀ p', p' < w → r p ≤ r p' := by
  intro w
  induction w with
  | zero => intro h; omega
  | succ w ih =>
    intro _
    by_cases hw : w = 0
    · subst hw
      exact ⟨0, by omega, fun p' h => by
        have : p' = 0 := by omega
        rw [this]
        exact Int.le_refl _⟩
    · obtain ⟨p, p1, p2⟩ := ih (by omega)
      by_cases hh : r p ≤ r w
      · refine ⟨p, by omega, fun p' h => ?_⟩
        by_cases e : p' = w
        · rw [e]; exact hh
        · exact p2 p' (by omega)
      · refine ⟨w, by omega, fun p' h => ?_⟩
        by_cases e : p' = w
        · rw [e]; exact Int.le_refl _
        · have := p2 p' (by omega)
          omega
/-- the search, under way -/
def BfS (n k : Nat) (m0 : Mem) (turn w : Nat) (m : Mem) : Prop := (∀ c i, ¬ (c = 440 ∨ c = 441) → m c i = m0 c i) ∧ 1 ≤ w ∧ QuP n k w m ∧ (∀ b, b < n → m 441 b = -1 ∨ ∃ p, p < w ∧ p ≤ turn ∧ m 441 b = m 440 p ∧ (∃ e : Nat, m 440 p = e ∧ fol m e b) ∧ ∃ p2, p < p2 ∧ p2 < w ∧ m 439 b = m 440 p2) ∧ (w : Int) = 1 + sI (fun b => if m 441 b = -1 then 0 else 1) n ∧ ∀ p, p < turn → ∀ e : Nat, m 440 p = e → ∀ b, b < n → fol m e b → m 441 b ≠ -1
theorem room_ok (M : MtI n m) (hk : k < n) (hk0 : m 438 k = -1) (hmk : ∀ b, b < n → m 441 b ≠ -1 → m 439 b ≠ -1) {b : Nat} (hb : b < n) (h1 : m 441 b = -1) (h2 : m 439 b ≠ -1) : sI (fun b => if m 441 b = -1 then 0 else 1) n + 2 ≤ n := by
  have a : sI (fun b => if m 441 b = -1 then 0 else 1) n + 1 ≤ sI (fun b => if m 439 b = -1 then 0 else 1) n := by
    have e : sI (fun b' => if b' = b then 1 else if m 441 b' = -1 then 0 else 1) n = sI (fun b => if m 441 b = -1 then 0 else 1) n + 1 := by
      refine sI_upd (s := b) hb (fun j hj hne => by rw [if_neg hne]) ?_
      rw [if_pos rfl, if_pos h1]
      rfl
    rw [← e]
    refine sI_le (fun j hj => ?_)
    by_cases hjb : j = b
    · rw [if_pos hjb, hjb, if_neg h2]
      exact Int.le_refl _
    · rw [if_neg hjb]
      by_cases z : m 441 j = -1
      · rw [if_pos z]
        split
        · exact Int.le_refl _
        · show (0 : Int) ≤ 1
          omega
      · rw [if_neg z, if_neg (hmk j hj z)]
        exact Int.le_refl _
  rw [mt_one M] at a
  have c : sI (fun e => if m 438 e = -1 then 0 else 1) n + 1 ≤ n := by
    have e : sI (fun e => if e = k then 1 else if m 438 e = -1 then 0 else 1) n = sI (fun e => if m 438 e = -1 then 0 else 1) n + 1 := by
      refine sI_upd (s := k) hk (fun j hj hne => by rw [if_neg hne]) ?_
      rw [if_pos rfl, if_pos hk0]
      rfl
    rw [← e, ← sI_one n]
    refine sI_le (fun j hj => ?_)
    split
    · exact Int.le_refl _
    · split <;> omega
  omega
theorem canFollow_ok {e b : Nat} (he : e < 24) (hb : b < 24) : Ok (C_Fleet_canFollow e b m) (fun z => (z = 1 ∧ fol m e b) ∨ (z = 0 ∧ ¬ fol m e b)) := by
  unfold C_Fleet_canFollow
  simp only [Int.toNat_natCast]
  refine ok_grd (by omega) (ok_some ?_)
  by_cases h : (m 433 e = m 432 b) ∧ (m 435 e ≤ m 434 b)
  · rw [if_pos h]
    exact Or.inl ⟨rfl, h⟩
  · rw [if_neg h]
    exact Or.inr ⟨rfl, h⟩
def FdR (n k : Nat) (m0 : Mem) (r : Int × Mem) : Prop := (∀ c i, ¬ (c = 440 ∨ c = 441) → r.2 c i = m0 c i) ∧ ∃ b w p : Nat, r.1 = b ∧ b < n ∧ r.2 439 b = -1 ∧ w ≤ n ∧ QuP n k w r.2 ∧ p < w ∧ r.2 441 b = r.2 440 p ∧ ∃ e : Nat, r.2 440 p = e ∧ fol r.2 e b
theorem fol_fr {e b : Nat} (f : ∀ c i, ¬ (c = 440 ∨ c = 441) → m1 c i = m c i) : fol m1 e b ↔ fol m e b := by
  unfold fol
  rw [f 433 _ (by omega), f 432 _ (by omega), f 435 _ (by omega), f 434 _ (by omega)]
theorem MtI_fr (f : ∀ c i, ¬ (c = 440 ∨ c = 441) → m1 c i = m c i) (M : MtI n m) : MtI n m1 := by
  refine ⟨fun e he => ?_, fun b hb => ?_⟩
  · rw [f 438 _ (by omega)]
    rcases M.1 e he with q | ⟨b, h1, h2, h3, h4⟩
    · exact Or.inl q
    · exact Or.inr ⟨b, h1, h2, by rw [f 439 _ (by omega)]; exact h3, (fol_fr f).mpr h4⟩
  · rw [f 439 _ (by omega)]
    rcases M.2 b hb with q | ⟨e, h1, h2, h3⟩
    · exact Or.inl q
    · exact Or.inr ⟨e, h1, h2, by rw [f 438 _ (by omega)]; exact h3⟩
/-- all that one can follow is looked at -/
theorem bfOne_ok {turn : Nat} (e1 : m0 431 0 = n) (n24 : n ≤ 24) (hk : k < n) (M : MtI n m0) (hk0 : m0 438 k = -1) (ht : turn < w) (B : BfS n k m0 turn w m) : Ok (loop (fun s => C_Fleet_findFree_b3 turn s.1 s.2.1 s.2.2) ((w : Int), (0 : Int), m)) (fun x => match x with | .inl y => ∃ w' : Nat, y.1 = w' ∧ turn < w' ∧ BfS n k m0 (turn + 1) w' y.2.2 | .inr r => FdR n k m0 r) := by
  refine ok_loop (fun y => ∃ w' nx : Nat, y.1 = w' ∧ y.2.1 = nx ∧ nx ≤ n ∧ turn < w' ∧ BfS n k m0 turn w' y.2.2 ∧ ∀ e : Nat, y.2.2 440 turn = e → ∀ b, b < nx → fol y.2.2 e b → y.2.2 441 b ≠ -1) (fun y => n - y.2.1.toNat) ⟨w, 0, rfl, rfl, Nat.zero_le _, ht, B, fun e _ b h => by omega⟩ ?_
  rintro ⟨ww, xx, m⟩ ⟨w, nx, a1, a2, a3, a4, ⟨f1, f2, f3, f4, f5, f6⟩, f7⟩
  dsimp only at a1 a2 f1 f2 f3 f4 f5 f6 f7 ⊢
  subst a1
  subst a2
  obtain ⟨q0, q1, q2, q3⟩ := f3
  have Mm : MtI n m := MtI_fr f1 M
  have k0 : m 438 k = -1 := by rw [f1 _ _ (by omega)]; exact hk0
  have marked : ∀ b, b < n → m 441 b ≠ -1 → m 439 b ≠ -1 := by
    intro b hb h
    rcases f4 b hb with z | ⟨p, p1, p2, p3, p4, p5, p6, p7, p8⟩
    · exact absurd z h
    · obtain ⟨e, e2, e3, -⟩ := q1 p5 p7
      omega
  unfold C_Fleet_findFree_b3
  rw [f1 431 0 (by omega), e1]
  refine ok_ite (fun hx => ok_grd (by omega) ?_) (fun hx => ok_some ?_)
  · rw [Int.toNat_natCast]
    have hnx : nx < n := by omega
    refine ok_ite (fun hu => ?_) (fun hu => ?_)
    · obtain ⟨e, he, hqe, hle⟩ := q1 turn a4
      have t24 : turn < 24 := by
        apply Classical.byContradiction
        intro hge
        -- the queue is no longer than the trips
        have sub : sI (fun b => if m 441 b = -1 then 0 else 1) n ≤ sI (fun b => if m 439 b = -1 then 0 else 1) n := by
          refine sI_le (fun j hj => ?_)
          by_cases z : m 441 j = -1
          · rw [if_pos z]
            split
            · exact Int.le_refl _
            · show (0 : Int) ≤ 1
              omega
          · rw [if_neg z, if_neg (marked j hj z)]
            exact Int.le_refl _
        rw [mt_one Mm] at sub
        have c : sI (fun e => if m 438 e = -1 then 0 else 1) n + 1 ≤ n := by
          have e : sI (fun e => if e = k then 1 else if m 438 e = -1 then 0 else 1) n = sI (fun e => if m 438 e = -1 then 0 else 1) n + 1 := by
            refine sI_upd (s := k) hk (fun j hj hne => by rw [if_neg hne]) ?_
            rw [if_pos rfl, if_pos k0]
            rfl
          rw [← e, ← sI_one n]
          refine sI_le (fun j hj => ?_)
          split
          · exact Int.le_refl _
          · split <;> omega
        omega
      rw [Int.toNat_natCast, hqe]
      refine ok_grd (by omega) (ok_bind (canFollow_ok (by omega) (by omega)) (fun z hz => ok_ite (fun hz1 => ok_ltv ?_) (fun hz1 => ok_grd (by unfold InR; omega) (ok_ltv (ok_some ⟨⟨w, nx + 1, rfl, by dsimp only; omega, by omega, a4, ⟨f1, f2, ⟨q0, q1, q2, q3⟩, f4, f5, f6⟩, fun e' he' b hb hf => ?_⟩, by dsimp only; omega⟩)))))
      · have hf : fol m e nx := by
          rcases hz with hz | hz
          · exact hz.2
          · exact absurd hz.1 hz1
        obtain ⟨m2, hm2⟩ : ∃ m2, m2 = setM m 441 nx (e : Int) := ⟨_, rfl⟩
        rw [← hm2]
        have x2 : ∀ c i, ¬ (c = 441 ∧ i = nx) → m2 c i = m c i := fun c i h => by rw [hm2]; exact setM_ne h
        have x2' : m2 441 nx = e := by rw [hm2, setM_same]
        have g2 : ∀ c i, ¬ (c = 440 ∨ c = 441) → m2 c i = m c i := fun c i h => x2 c i (by omega)
        have r440 : ∀ i, m2 440 i = m 440 i := fun i => x2 _ _ (by omega)
        rw [x2 439 nx (by omega)]
        -- the sources stay: nobody came from an unmarked one
        have Q2 : QuP n k w m2 := by
          refine ⟨by rw [r440]; exact q0, fun p hp => ?_, fun p h1 h2 => ?_, fun p p2 h1 h2 => by rw [r440, r440]; exact q3 p p2 h1 h2⟩
          · obtain ⟨e', u1, u2, u3⟩ := q1 p hp
            exact ⟨e', u1, by rw [r440]; exact u2, by rw [g2 433 _ (by omega), g2 433 _ (by omega)]; exact u3⟩
          · obtain ⟨b, u1, u2, p', u3, u4, e', u5, u6⟩ := q2 p h1 h2
            have hne : b ≠ nx := fun q => by
              rw [q, hu, u5] at u4
              omega
            exact ⟨b, u1, by rw [g2 439 _ (by omega), r440]; exact u2, p', u3, by rw [x2 441 b (by omega), r440]; exact u4, e', by rw [r440]; exact u5, (fol_fr g2).mpr u6⟩
        by_cases hfree : m 439 nx = -1
        · rw [if_pos hfree]
          refine ok_some ⟨fun c i h => by dsimp only; rw [x2 c i (by omega)]; exact f1 c i h, nx, w, turn, rfl, hnx, by dsimp only; rw [g2 439 _ (by omega)]; exact hfree, ?_, Q2, a4, by dsimp only; rw [x2', r440]; exact hqe.symm, e, by dsimp only; rw [r440]; exact hqe, (fol_fr g2).mpr hf⟩
          -- w is no more than n
          have sub : sI (fun b => if m 441 b = -1 then 0 else 1) n ≤ sI (fun b => if m 439 b = -1 then 0 else 1) n := by
            refine sI_le (fun j hj => ?_)
            by_cases z : m 441 j = -1
            · rw [if_pos z]
              split
              · exact Int.le_refl _
              · show (0 : Int) ≤ 1
                omega
            · rw [if_neg z, if_neg (marked j hj z)]
              exact Int.le_refl _
          rw [mt_one Mm] at sub
          have c : sI (fun e => if m 438 e = -1 then 0 else 1) n + 1 ≤ n := by
            have e : sI (fun e => if e = k then 1 else if m 438 e = -1 then 0 else 1) n = sI (fun e => if m 438 e = -1 then 0 else 1) n + 1 := by
              refine sI_upd (s := k) hk (fun j hj hne => by rw [if_neg hne]) ?_
              rw [if_pos rfl, if_pos k0]
              rfl
            rw [← e, ← sI_one n]
            refine sI_le (fun j hj => ?_)
            split
            · exact Int.le_refl _
            · split <;> omega
          omega
        · rw [if_neg hfree]
          have room := room_ok Mm hk k0 marked hnx hu hfree
          refine ok_ite (fun _ => ok_grd (by omega) (ok_ltv (ok_grd (by unfold InR; omega) (ok_ltv (ok_grd (by unfold InR; omega) (ok_ltv (ok_some ?_))))))) (fun h => by omega)
          rw [Int.toNat_natCast]
          obtain ⟨e9, h91, h92, h93⟩ : ∃ e9 : Nat, e9 < n ∧ m 439 nx = e9 ∧ m 438 e9 = nx := by
            rcases Mm.2 nx hnx with q | q
            · exact absurd q hfree
            · exact q
          have f9 : fol m e9 nx := by
            rcases Mm.1 e9 h91 with q | ⟨b, b1, b2, b3, b4⟩
            · omega
            · have : b = nx := by omega
              rw [← this]
              exact b4
          obtain ⟨m3, hm3⟩ : ∃ m3, m3 = setM m2 440 w (m2 439 nx) := ⟨_, rfl⟩
          rw [x2 439 nx (by omega)] at hm3
          rw [← hm3]
          have x3 : ∀ c i, ¬ (c = 440 ∧ i = w) → m3 c i = m2 c i := fun c i h => by rw [hm3]; exact setM_ne h
          have x3' : m3 440 w = e9 := by rw [hm3, setM_same]; exact h92
          have g3 : ∀ c i, ¬ (c = 440 ∨ c = 441) → m3 c i = m c i := fun c i h => by rw [x3 c i (by omega), x2 c i (by omega)]
          have s440 : ∀ i, i < w → m3 440 i = m 440 i := fun i hi => by rw [x3 _ _ (by omega), r440]
          have s441 : ∀ b, b ≠ nx → m3 441 b = m 441 b := fun b hb => by rw [x3 _ _ (by omega), x2 _ _ (by omega)]
          have s441' : m3 441 nx = e := by rw [x3 _ _ (by omega)]; exact x2'
          refine ⟨⟨w + 1, nx + 1, by dsimp only; omega, by dsimp only; omega, by omega, by omega, ⟨fun c i h => by dsimp only; rw [g3 c i h]; exact f1 c i h, by omega, ⟨?_, fun p hp => ?_, fun p h1 h2 => ?_, fun p p2 h1 h2 => ?_⟩, fun b hb => ?_, ?_, fun p hp e' he' b hb hfo => ?_⟩, fun e' he' b hb hfo => ?_⟩, by dsimp only; omega⟩
          · dsimp only
            rw [s440 0 (by omega)]
            exact q0
          · dsimp only
            by_cases hpw : p = w
            · rw [hpw]
              refine ⟨e9, h91, x3', ?_⟩
              rw [g3 433 _ (by omega), g3 433 _ (by omega), f9.1, ← hf.1]
              exact hle
            · obtain ⟨e', u1, u2, u3⟩ := q1 p (by omega)
              exact ⟨e', u1, by rw [s440 p (by omega)]; exact u2, by rw [g3 433 _ (by omega), g3 433 _ (by omega)]; exact u3⟩
          · dsimp only
            by_cases hpw : p = w
            · rw [hpw]
              exact ⟨nx, hnx, by rw [g3 439 _ (by omega), x3']; exact h92, turn, a4, by rw [s441', s440 turn a4]; exact hqe.symm, e, by rw [s440 turn a4]; exact hqe, (fol_fr g3).mpr hf⟩
            · obtain ⟨b, u1, u2, p', u3, u4, e', u5, u6⟩ := q2 p h1 (by omega)
              have hne : b ≠ nx := fun q => by
                rw [q, hu, u5] at u4
                omega
              exact ⟨b, u1, by rw [g3 439 _ (by omega), s440 p (by omega)]; exact u2, p', u3, by rw [s441 b hne, s440 p' (by omega)]; exact u4, e', by rw [s440 p' (by omega)]; exact u5, (fol_fr g3).mpr u6⟩
          · dsimp only
            by_cases hpw : p2 = w
            · rw [hpw, x3', s440 p (by omega)]
              intro q
              by_cases hp0 : p = 0
              · rw [hp0, q0] at q
                have : e9 = k := by omega
                rw [this, k0] at h93
                omega
              · obtain ⟨b, u1, u2, p', u3, u4, e', u5, u6⟩ := q2 p (by omega) (by omega)
                rw [q] at u2
                have := (mt_iff Mm h91 u1).mp u2
                have hbn : b = nx := by omega
                rw [hbn, hu, u5] at u4
                omega
            · rw [s440 p (by omega), s440 p2 (by omega)]
              exact q3 p p2 h1 (by omega)
          · dsimp only
            by_cases hbn : b = nx
            · rw [hbn]
              exact Or.inr ⟨turn, by omega, Nat.le_refl _, by rw [s441', s440 turn a4]; exact hqe.symm, ⟨e, by rw [s440 turn a4]; exact hqe, (fol_fr g3).mpr hf⟩, w, a4, by omega, by rw [g3 439 _ (by omega), x3']; exact h92⟩
            · rw [s441 b hbn]
              rcases f4 b hb with z | ⟨p, p1, p2, p3, ⟨e', p4, p4'⟩, p5, p6, p7, p8⟩
              · exact Or.inl z
              · exact Or.inr ⟨p, by omega, p2, by rw [s440 p p1]; exact p3, ⟨e', by rw [s440 p p1]; exact p4, (fol_fr g3).mpr p4'⟩, p5, p6, by omega, by rw [g3 439 _ (by omega), s440 p5 p7]; exact p8⟩
          · dsimp only
            have : sI (fun b => if m3 441 b = -1 then 0 else 1) n = sI (fun b => if m 441 b = -1 then 0 else 1) n + 1 := by
              refine sI_upd (s := nx) hnx (fun j hj hne => by rw [s441 j hne]) ?_
              rw [s441', if_neg (by omega), hu, if_pos rfl]
              rfl
            rw [this]
            omega
          · dsimp only at he' hfo ⊢
            rw [s440 p (by omega)] at he'
            by_cases hbn : b = nx
            · rw [hbn, s441']; omega
            · rw [s441 b hbn]
              exact f6 p hp e' he' b hb ((fol_fr g3).mp hfo)
          · dsimp only at he' hfo ⊢
            rw [s440 turn a4] at he'
            by_cases hbn : b = nx
            · rw [hbn, s441']; omega
            · rw [s441 b hbn]
              exact f7 e' he' b (by omega) ((fol_fr g3).mp hfo)
      · by_cases hbn : b = nx
        · rw [hbn] at hf
          dsimp only at he'
          have : e' = e := by omega
          rw [this] at hf
          rcases hz with hz | hz
          · exact absurd hz.1 (fun q => hz1 (by omega))
          · exact absurd hf hz.2
        · exact f7 e' he' b (by omega) hf
    · refine ok_grd (by unfold InR; omega) (ok_ltv (ok_some ⟨⟨w, nx + 1, rfl, by dsimp only; omega, by omega, a4, ⟨f1, f2, ⟨q0, q1, q2, q3⟩, f4, f5, f6⟩, fun e he b hb hf => ?_⟩, by dsimp only; omega⟩))
      by_cases hbn : b = nx
      · rw [hbn]; exact hu
      · exact f7 e he b (by omega) hf
  · have hnx : nx = n := by omega
    refine ⟨w, rfl, a4, f1, f2, ⟨q0, q1, q2, q3⟩, fun b hb => ?_, f5, fun p hp e he b hb hf => ?_⟩
    · rcases f4 b hb with z | ⟨p, p1, p2, p3⟩
      · exact Or.inl z
      · exact Or.inr ⟨p, p1, by omega, p3⟩
    · by_cases hpt : p = turn
      · rw [hpt] at he
        exact f7 e he b (by omega) hf
      · exact f6 p (by omega) e he b hb hf
end MAT
