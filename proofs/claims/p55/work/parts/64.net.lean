/-! ===== NETWORKS: labels, what is closed, the best ===== -/
abbrev Lb : Type := (Nat → Int) × (Nat → Int)
abbrev RdT : Type := Nat → Int → Nat → Int → Prop
def can (g : Nat → Int) (L : Lb) (s : Nat) (t : Int) : Prop := 0 ≤ t ∧ (L.2 s ≤ t ∨ L.1 s + g s ≤ t)
def leL (N : Nat) (A B : Lb) : Prop := ∀ s, s < N → A.1 s ≤ B.1 s ∧ A.2 s ≤ B.2 s
def WCl (N : Nat) (w : Nat → Nat → Int) (L : Lb) : Prop := ∀ s v, s < N → v < N → s ≠ v → L.2 v ≤ L.1 s + w s v
def RCl (g : Nat → Int) (Rd : RdT) (L : Lb) : Prop := ∀ s t s' t', Rd s t s' t' → can g L s t → L.1 s' ≤ t'
def Cl (N : Nat) (g : Nat → Int) (w : Nat → Nat → Int) (Rd : RdT) (L : Lb) : Prop := RCl g Rd L ∧ WCl N w L
def Und (N : Nat) (g : Nat → Int) (w : Nat → Nat → Int) (Rd : RdT) (I L : Lb) : Prop := leL N L I ∧ WCl N w L ∧ ∀ L', Cl N g w Rd L' → leL N L' I → leL N L' L
def Best (N : Nat) (g : Nat → Int) (w : Nat → Nat → Int) (Rd : RdT) (I L : Lb) : Prop := Und N g w Rd I L ∧ RCl g Rd L
def Jus (N : Nat) (g : Nat → Int) (w : Nat → Nat → Int) (Rd : RdT) (I : Lb) (s : Nat) (t : Int) : Prop := ∀ L', Cl N g w Rd L' → leL N L' I → can g L' s t
def gof (N : Nat) (w : Nat → Nat → Int) (L : Lb) (s : Nat) (t : Int) : Lb := if t < L.1 s then (fun v => if v = s then t else L.1 v, fun v => if v < N ∧ v ≠ s ∧ t + w s v < L.2 v then t + w s v else L.2 v) else L
/-- the labels at the beginning -/
def ini (w : Nat → Nat → Int) (a : Nat) (m : Int) : Lb := (fun _ => 1000000, fun v => if v = a then m else if m + w a v < 1000000 then m + w a v else 1000000)
section NET
variable {N : Nat} {g : Nat → Int} {w : Nat → Nat → Int} {Rd : RdT} {I L : Lb}
theorem leL_rfl : leL N L L := fun _ _ => ⟨Int.le_refl _, Int.le_refl _⟩
theorem leL_tr {A B C : Lb} (h : leL N A B) (h2 : leL N B C) : leL N A C := fun s hs => ⟨Int.le_trans (h s hs).1 (h2 s hs).1, Int.le_trans (h s hs).2 (h2 s hs).2⟩
theorem gof_no {s : Nat} {t : Int} (h : ¬ t < L.1 s) : gof N w L s t = L := if_neg h
theorem gof_1 {s : Nat} {t : Int} (v : Nat) : (gof N w L s t).1 v = if v = s ∧ t < L.1 s then t else L.1 v := by
  unfold gof
  by_cases h : t < L.1 s
  · rw [if_pos h]
    by_cases hv : v = s
    · rw [if_pos ⟨hv, h⟩]; exact if_pos hv
    · rw [if_neg (fun q => hv q.1)]; exact if_neg hv
  · rw [if_neg h, if_neg (fun q => h q.2)]
theorem gof_2 {s : Nat} {t : Int} (v : Nat) : (gof N w L s t).2 v = if t < L.1 s ∧ v < N ∧ v ≠ s ∧ t + w s v < L.2 v then t + w s v else L.2 v := by
  unfold gof
  by_cases h : t < L.1 s
  · rw [if_pos h]
    by_cases hv : v < N ∧ v ≠ s ∧ t + w s v < L.2 v
    · rw [if_pos ⟨h, hv⟩]; exact if_pos hv
    · rw [if_neg (fun q => hv q.2)]; exact if_neg hv
  · rw [if_neg h, if_neg (fun q => h q.1)]
theorem gof_le1 {s : Nat} {t : Int} (v : Nat) : (gof N w L s t).1 v ≤ L.1 v := by
  rw [gof_1]
  split
  · rename_i h; rw [h.1]; omega
  · omega
theorem gof_le2 {s : Nat} {t : Int} (v : Nat) : (gof N w L s t).2 v ≤ L.2 v := by
  rw [gof_2]
  split
  · omega
  · omega
theorem gof_le {s : Nat} {t : Int} : leL N (gof N w L s t) L := fun v _ => ⟨gof_le1 v, gof_le2 v⟩
theorem gof_at {s : Nat} {t : Int} : (gof N w L s t).1 s ≤ t := by
  rw [gof_1]
  split
  · omega
  · rename_i h
    have : ¬ t < L.1 s := fun q => h ⟨rfl, q⟩
    omega
theorem gof_wc {s : Nat} {t : Int} (h : WCl N w L) : WCl N w (gof N w L s t) := by
  intro a v ha hv hn
  have q := h a v ha hv hn
  have l2 := gof_le2 (N := N) (w := w) (L := L) (s := s) (t := t) v
  rw [gof_1]
  split
  · rename_i k
    rw [gof_2]
    split
    · rename_i z; rw [k.1]; omega
    · rename_i z
      rw [k.1] at hn q ⊢
      have : ¬ t + w s v < L.2 v := fun y => z ⟨k.2, hv, fun e => hn e.symm, y⟩
      omega
  · omega
theorem can_mono {A B : Lb} {s : Nat} {t : Int} (h : leL N A B) (hs : s < N) (c : can g B s t) : can g A s t := by
  obtain ⟨h1, h2⟩ := c
  have := h s hs
  exact ⟨h1, by omega⟩
theorem und_jus {s : Nat} {t : Int} (h : Und N g w Rd I L) (hs : s < N) (c : can g L s t) : Jus N g w Rd I s t := fun L' h1 h2 => can_mono (h.2.2 L' h1 h2) hs c
theorem und_gof {s s' : Nat} {t t' : Int} (h : Und N g w Rd I L) (j : Jus N g w Rd I s t) (r : Rd s t s' t') (hs : s' < N) : Und N g w Rd I (gof N w L s' t') := by
  refine ⟨leL_tr gof_le h.1, gof_wc h.2.1, fun L' h1 h2 v hv => ?_⟩
  have q := h.2.2 L' h1 h2
  have qv := q v hv
  have e1 := h1.1 _ _ _ _ r (j L' h1 h2)
  constructor
  · rw [gof_1]
    split
    · rename_i k; rw [k.1]; exact e1
    · exact qv.1
  · rw [gof_2]
    split
    · rename_i k
      have := h1.2 s' v hs hv (fun e => k.2.2.1 e.symm)
      omega
    · exact qv.2
theorem best_uniq {A B : Lb} (ha : Best N g w Rd I A) (hb : Best N g w Rd I B) {s : Nat} (hs : s < N) : A.1 s = B.1 s ∧ A.2 s = B.2 s := by
  have p := ha.1.2.2 B ⟨hb.2, hb.1.2.1⟩ hb.1.1 s hs
  have q := hb.1.2.2 A ⟨ha.2, ha.1.2.1⟩ ha.1.1 s hs
  omega
theorem best_mono {J A B : Lb} (ha : Best N g w Rd I A) (hb : Best N g w Rd J B) (h : leL N I J) : leL N A B := hb.1.2.2 A ⟨ha.2, ha.1.2.1⟩ (leL_tr ha.1.1 h)
theorem ini_le {a : Nat} {m m' : Int} (h : m ≤ m') : leL N (ini w a m) (ini w a m') := by
  intro v _
  refine ⟨Int.le_refl _, ?_⟩
  simp only [ini]
  split
  · omega
  · split <;> split <;> omega
theorem ini_und {a : Nat} {m : Int} (hw : ∀ a b, 0 ≤ w a b) (hm : m ≤ 1000000) : Und N g w Rd (ini w a m) (ini w a m) := by
  refine ⟨leL_rfl, fun s v _ _ _ => ?_, fun L' _ h => h⟩
  have := hw s v
  simp only [ini]
  split
  · omega
  · split <;> omega
end NET
