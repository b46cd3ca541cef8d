/-! ===== the runs of a day, and how the reference reads them ===== -/
def qd (q : Nat) : Int := ((q / 24 : Nat) : Int) - 1
def isQ (mc : Mem) (day : Int) (q : Nat) : Prop := ((q % 24 : Nat) : Int) < mc 31 0 ∧ 0 ≤ day + qd q ∧ day + qd q ≤ 27 ∧ bit (mc 30 (mc 32 (q % 24)).toNat) (day + qd q).toNat = 1
def lenQ (mc : Mem) (q : Nat) : Nat := (mc 33 (q % 24)).toNat
def stQ (mc : Mem) (q c : Nat) : Nat := (mc (35 + q % 24) c).toNat
def mvQ (sh mi : Int) (q : Nat) : Int := if ((q % 24 : Nat) : Int) = sh then mi else 0
def lvQ (mc : Mem) (day sh mi : Int) (q c : Nat) : Int := mc (85 + q % 24) c + (1440 * qd q + mvQ sh mi q) + lateC mc (day + qd q) ((q % 24 : Nat) : Int) c
def arQ (mc : Mem) (day sh mi : Int) (q c : Nat) : Int := mc (60 + q % 24) c + (1440 * qd q + mvQ sh mi q) + lateC mc (day + qd q) ((q % 24 : Nat) : Int) ((c : Int) - 1)
def RdQ (mc : Mem) (day sh mi cut : Int) : RdT := fun s t s' t' => ∃ q c c' : Nat, q < 72 ∧ isQ mc day q ∧ c < c' ∧ c' < lenQ mc q ∧ s = stQ mc q c ∧ t = lvQ mc day sh mi q c ∧ s' = stQ mc q c' ∧ t' = arQ mc day sh mi q c' ∧ ¬ (s : Int) = cut ∧ ¬ (s' : Int) = cut
def nC (mc : Mem) : Nat := (mc 1 0).toNat
def wC (mc : Mem) (cut : Int) : Nat → Nat → Int := fw (told mc) cut (nC mc)
def CI (mc : Mem) : Prop := ∃ mm, Inv mc mm
section QF
variable {mc : Mem} {day sh mi cut : Int} {q c : Nat}
theorem CI_n (I : CI mc) : mc 1 0 = nC mc ∧ nC mc ≤ 12 := by
  obtain ⟨mm, I⟩ := I
  have := I.1.2.1
  have := I.1.2.2.1
  unfold nC
  omega
theorem CI_TB (I : CI mc) : TB (told mc) := by
  obtain ⟨mm, I⟩ := I
  exact IS_TB I.1
theorem CI_w (I : CI mc) {a b : Nat} (ha : a < nC mc) (hb : b < nC mc) : 1 ≤ wC mc cut a b ∧ wC mc cut a b ≤ 1000000 := by
  have h := CI_n I
  exact fw_bd (CI_TB I) _ _ _ (by omega) (by omega) (by omega)
theorem CI_wd (I : CI mc) {a : Nat} (ha : a < nC mc) : wC mc cut a a = 1000000 := by
  have h := CI_n I
  exact fw_diag (CI_TB I) _ _ (by omega)
theorem CI_g (I : CI mc) {a : Nat} (ha : a < nC mc) : 0 ≤ mc 2 a ∧ mc 2 a ≤ 30 := by
  have h := CI_n I
  obtain ⟨mm, I⟩ := I
  exact (I.1.2.2.2.2.2.1 a (by omega)).2
theorem CI_t (I : CI mc) : 0 ≤ mc 31 0 ∧ mc 31 0 ≤ 24 := by
  obtain ⟨mm, I⟩ := I
  exact ⟨I.2.2.1.2.1, I.2.2.1.2.2.1⟩
theorem CI_len (I : CI mc) (h : ((q % 24 : Nat) : Int) < mc 31 0) : mc 33 (q % 24) = lenQ mc q ∧ 1 ≤ lenQ mc q ∧ lenQ mc q ≤ 8 := by
  obtain ⟨mm, I⟩ := I
  have := I.2.2.1.2.2.2 (q % 24) h
  unfold lenQ
  omega
theorem CI_call (I : CI mc) (h : ((q % 24 : Nat) : Int) < mc 31 0) (hc : c < lenQ mc q) : mc (35 + q % 24) c = stQ mc q c ∧ stQ mc q c < nC mc ∧ 0 ≤ mc (60 + q % 24) c ∧ mc (60 + q % 24) c ≤ mc (85 + q % 24) c ∧ mc (85 + q % 24) c ≤ 2879 ∧ (c + 1 < lenQ mc q → mc (85 + q % 24) c < mc (60 + q % 24) (c + 1)) := by
  have l := CI_len I h
  have n := CI_n I
  obtain ⟨mm, I⟩ := I
  have := (I.2.2.1.2.2.2 (q % 24) h).2.2.2.2.2.2 c (by omega)
  unfold ITc at this
  unfold stQ
  omega
theorem CI_late (I : CI mc) {d t c : Int} : 0 ≤ lateC mc d t c ∧ lateC mc d t c ≤ 120 := by
  obtain ⟨mm, I⟩ := I
  exact lateC_bd I.2.2.2.1
theorem CI_lmono (I : CI mc) {d t c c' : Int} (h : c ≤ c') : lateC mc d t c ≤ lateC mc d t c' := by
  obtain ⟨mm, I⟩ := I
  exact lateC_mono I.2.2.2.1 h
theorem CI_lneg (I : CI mc) {d t c : Int} (h : c < 0) : lateC mc d t c = 0 := by
  obtain ⟨mm, I⟩ := I
  exact lateC_neg I.2.2.2.1 h
theorem qd_bd (h : q < 72) : -1 ≤ qd q ∧ qd q ≤ 1 := by unfold qd; omega
theorem mvQ_bd (h : -60 ≤ mi ∧ mi ≤ 60) : -60 ≤ mvQ sh mi q ∧ mvQ sh mi q ≤ 60 := by unfold mvQ; split <;> omega
theorem qa_lv (I : CI mc) (h : ((q % 24 : Nat) : Int) < mc 31 0) (hc : c < lenQ mc q) : arQ mc day sh mi q c ≤ lvQ mc day sh mi q c := by
  have := CI_call I h hc
  have l := CI_lmono I (d := day + qd q) (t := ((q % 24 : Nat) : Int)) (c := (c : Int) - 1) (c' := c) (by omega)
  unfold arQ lvQ
  omega
theorem qv_ar (I : CI mc) (h : ((q % 24 : Nat) : Int) < mc 31 0) (hc : c + 1 < lenQ mc q) : lvQ mc day sh mi q c < arQ mc day sh mi q (c + 1) := by
  have := CI_call I h (c := c) (by omega)
  unfold arQ lvQ
  rw [show (((c + 1 : Nat) : Int) - 1) = c by omega]
  omega
theorem qv_lt (I : CI mc) (h : ((q % 24 : Nat) : Int) < mc 31 0) : ∀ {c' c : Nat}, c < c' → c' < lenQ mc q → lvQ mc day sh mi q c < arQ mc day sh mi q c' := by
  intro c'
  induction c' with
  | zero => intro c h1; omega
  | succ k ih =>
    intro c h1 h2
    have a := qv_ar I h (day := day) (sh := sh) (mi := mi) h2
    by_cases hk : c = k
    · rw [hk]; exact a
    · have b := ih (c := c) (by omega) (by omega)
      have d := qa_lv I h (day := day) (sh := sh) (mi := mi) (c := k) (by omega)
      omega
theorem qv_up (I : CI mc) (h : ((q % 24 : Nat) : Int) < mc 31 0) {c' c : Nat} (h1 : c < c') (h2 : c' < lenQ mc q) : lvQ mc day sh mi q c < lvQ mc day sh mi q c' := by
  have a := qv_lt I h (day := day) (sh := sh) (mi := mi) h1 h2
  have b := qa_lv I h (day := day) (sh := sh) (mi := mi) (c := c') h2
  omega
theorem qv_bd (I : CI mc) (h : ((q % 24 : Nat) : Int) < mc 31 0) (hq : q < 72) (hm : -60 ≤ mi ∧ mi ≤ 60) (hc : c < lenQ mc q) : -1500 ≤ lvQ mc day sh mi q c ∧ lvQ mc day sh mi q c ≤ 4499 := by
  have := CI_call I h hc
  have a := qd_bd hq
  have b := mvQ_bd (sh := sh) (q := q) hm
  have l := CI_late I (d := day + qd q) (t := ((q % 24 : Nat) : Int)) (c := c)
  unfold lvQ
  omega
theorem qa_bd (I : CI mc) (h : ((q % 24 : Nat) : Int) < mc 31 0) (hq : q < 72) (hm : -60 ≤ mi ∧ mi ≤ 60) (hc : c < lenQ mc q) : -1500 ≤ arQ mc day sh mi q c ∧ arQ mc day sh mi q c ≤ 4499 := by
  have := CI_call I h hc
  have a := qd_bd hq
  have b := mvQ_bd (sh := sh) (q := q) hm
  have l := CI_late I (d := day + qd q) (t := ((q % 24 : Nat) : Int)) (c := (c : Int) - 1)
  unfold arQ
  omega
theorem RdQ_st (I : CI mc) {s s' : Nat} {t t' : Int} (r : RdQ mc day sh mi cut s t s' t') : s < nC mc ∧ s' < nC mc ∧ t < t' := by
  obtain ⟨q, c, c', h1, h2, h3, h4, h5, h6, h7, h8, -⟩ := r
  have a := CI_call I h2.1 (c := c) (by omega)
  have b := CI_call I h2.1 (c := c') (by omega)
  have e := qv_lt I h2.1 (day := day) (sh := sh) (mi := mi) h3 h4
  rw [h5, h7, h6, h8]
  exact ⟨a.2.1, b.2.1, e⟩
end QF
/-- what the reference's memory must hold for a day's runs -/
def RelM (mc : Mem) (day sh mi cut : Int) (mm : Mem) : Prop := (mm 0 1 = mc 1 0 ∧ mm 0 5 = cut ∧ mm 0 8 = mc 31 0 ∧ mm 0 22 = day ∧ mm 0 14 = mc 109 0) ∧ (∀ a : Nat, a < nC mc → mm 1 a = mc 2 a) ∧ (∀ a b : Nat, a < nC mc → b < nC mc → mm 3 (12 * a + b) = dg (wC mc cut) a b) ∧ (∀ s d : Nat, s < 6 → d < 28 → mm 4 (28 * s + d) = bit (mc 30 s) d) ∧ (∀ t : Nat, (t : Int) < mc 31 0 → mm 5 t = mc 32 t ∧ mm 6 t = mc 33 t ∧ ∀ c : Nat, (c : Int) < mc 33 t → mm 7 (8 * t + c) = mc (35 + t) c ∧ mm 8 (8 * t + c) = mc (60 + t) c + (if (t : Int) = sh then mi else 0) ∧ mm 9 (8 * t + c) = mc (85 + t) c + (if (t : Int) = sh then mi else 0)) ∧ ∀ k : Nat, (k : Int) < mc 109 0 → mm 10 k = mc 110 k ∧ mm 11 k = mc 111 k ∧ mm 12 k = mc 112 k ∧ mm 13 k = mc 113 k
def rM (c i : Nat) : Prop := (c = 0 ∧ (i = 1 ∨ i = 5 ∨ i = 8 ∨ i = 14 ∨ i = 22)) ∨ c = 1 ∨ (3 ≤ c ∧ c ≤ 13)
section RELM
variable {mc mm mm' : Mem} {day sh mi cut : Int}
theorem RelM_fr (r : RelM mc day sh mi cut mm) (h : ∀ c i, rM c i → mm' c i = mm c i) : RelM mc day sh mi cut mm' := by
  obtain ⟨r1, r2, r3, r4, r5, r6⟩ := r
  refine ⟨?_, fun a ha => ?_, fun a b ha hb => ?_, fun s d hs hd => ?_, fun t ht => ?_, fun k hk => ?_⟩
  · rw [h 0 1 (by unfold rM; omega), h 0 5 (by unfold rM; omega), h 0 8 (by unfold rM; omega), h 0 22 (by unfold rM; omega), h 0 14 (by unfold rM; omega)]
    exact r1
  · rw [h 1 _ (by unfold rM; omega)]
    exact r2 a ha
  · rw [h 3 _ (by unfold rM; omega)]
    exact r3 a b ha hb
  · rw [h 4 _ (by unfold rM; omega)]
    exact r4 s d hs hd
  · have q := r5 t ht
    rw [h 5 _ (by unfold rM; omega), h 6 _ (by unfold rM; omega)]
    refine ⟨q.1, q.2.1, fun c hc => ?_⟩
    rw [h 7 _ (by unfold rM; omega), h 8 _ (by unfold rM; omega), h 9 _ (by unfold rM; omega)]
    exact q.2.2 c hc
  · rw [h 10 _ (by unfold rM; omega), h 11 _ (by unfold rM; omega), h 12 _ (by unfold rM; omega), h 13 _ (by unfold rM; omega)]
    exact r6 k hk
theorem RelM_inv (I : Inv mc mm) (h : ∀ c i, pM c i → mm' c i = mm c i) (hd : mm' 0 22 = day) : RelM mc day (-1) 0 (-1) mm' := by
  have I2 : Inv mc mm' := Inv_fr I (fun _ _ _ => rfl) h
  have n := CI_n ⟨_, I2⟩
  obtain ⟨⟨a1, a2, a3, a4, a5, a6, a7, a8⟩, ⟨b1, b2, b3, b4, b5⟩, ⟨c1, c2, c3, c4⟩, ⟨d1, d2, d3, d4, d5⟩, -⟩ := I2
  refine ⟨⟨a1, a5, c1, hd, d1⟩, fun a ha => (a6 a (by omega)).1, fun a b ha hb => a8 a b (by omega) (by omega), b5, fun t ht => ?_, fun k hk => ?_⟩
  · have q := c4 t ht
    refine ⟨q.1, q.2.2.2.1, fun c hc => ?_⟩
    have r := q.2.2.2.2.2.2 c hc
    unfold ITc at r
    rw [if_neg (by omega)]
    omega
  · have q := d4 k hk
    exact ⟨q.1, q.2.1, q.2.2.1, q.2.2.2.1⟩
theorem td24 (q : Nat) : (q : Int).tdiv 24 = ((q / 24 : Nat) : Int) := by
  rw [Int.tdiv_eq_ediv_of_nonneg (by omega)]
  omega
theorem tm24 (q : Nat) : (q : Int).tmod 24 = ((q % 24 : Nat) : Int) := by
  rw [Int.tmod_eq_emod_of_nonneg (by omega)]
  omega
theorem isRun_ok {q : Nat} (I : CI mc) (r : RelM mc day sh mi cut mm) (hq : q < 72) (hd : 0 ≤ day ∧ day ≤ 27) : Ok (M_isRun q mm) (fun z => (z = 1 ∧ isQ mc day q) ∨ (z = 0 ∧ ¬ isQ mc day q)) := by
  obtain ⟨⟨r1, r2, r3, r4, r7⟩, -, -, r5, r6, -⟩ := r
  have bd := qd_bd hq
  have tt := CI_t I
  unfold M_isRun
  rw [td24, tm24, r4, r3]
  have e1 : day + ((q / 24 : Nat) : Int) - 1 = day + qd q := by unfold qd; omega
  have hsv : ((q % 24 : Nat) : Int) < mc 31 0 → mm 5 (q % 24) = mc 32 (q % 24) ∧ 0 ≤ mc 32 (q % 24) ∧ mc 32 (q % 24) < 6 := by
    intro h
    have a := r6 (q % 24) h
    obtain ⟨mx, I⟩ := I
    have b := I.2.2.1.2.2.2 (q % 24) h
    have c := I.2.1.2.2.1
    exact ⟨a.1, b.2.1, by omega⟩
  have i1 : ∀ x : Int, ¬ M_isIn x 0 27 = 0 ↔ (0 ≤ x ∧ x ≤ 27) := fun x => by rw [isIn0]; omega
  refine ok_grd (by unfold InR; omega) (ok_ltv ?_)
  rw [e1]
  refine ok_ltv ?_
  simp only [Int.toNat_natCast]
  refine ok_grd ?_ (ok_some ?_)
  · simp only [i1, Int.toNat_natCast]
    refine ⟨fun _ => by omega, fun _ => by omega, fun h => ?_, fun h => ?_, fun h => ?_, fun h => ?_⟩
    all_goals
      have := hsv h.1
      rw [this.1]
      (try unfold InR)
      omega
  · unfold isQ
    simp only [Int.toNat_natCast, i1]
    by_cases h : ((q % 24 : Nat) : Int) < mc 31 0 ∧ 0 ≤ day + qd q ∧ day + qd q ≤ 27
    · have s := hsv h.1
      have b := r5 (mc 32 (q % 24)).toNat (day + qd q).toNat (by omega) (by omega)
      have e2 : (28 * mc 32 (q % 24) + (day + qd q)).toNat = 28 * (mc 32 (q % 24)).toNat + (day + qd q).toNat := by omega
      rw [s.1, e2, b]
      have z := bit_01 (mc 30 (mc 32 (q % 24)).toNat) (day + qd q).toNat
      rcases z with z | z
      · rw [if_neg (fun y => y.2 z)]
        exact Or.inr ⟨rfl, fun y => by omega⟩
      · rw [if_pos ⟨h, by omega⟩]
        exact Or.inl ⟨rfl, h.1, h.2.1, h.2.2, z⟩
    · rw [if_neg (fun y => h y.1)]
      exact Or.inr ⟨rfl, fun y => h ⟨y.1, y.2.1, y.2.2.1⟩⟩
theorem RelM_D (I : CI mc) (r : RelM mc day sh mi cut mm) : 0 ≤ mm 0 14 ∧ mm 0 14 ≤ 12 ∧ UniG (mm 10) (mm 11) (mm 0 14) ∧ ∀ d t c, lateR mm d t c = lateC mc d t c := by
  obtain ⟨⟨-, -, -, -, r7⟩, -, -, -, -, r8⟩ := r
  obtain ⟨mx, I⟩ := I
  obtain ⟨d1, d2, d3, d4, d5⟩ := I.2.2.2.1
  refine ⟨by omega, by omega, fun j k hj hk h1 h2 => ?_, fun d t c => ?_⟩
  · have a := r8 j (by omega)
    have b := r8 k (by omega)
    exact d5 j k (by omega) (by omega) (by omega) (by omega)
  · unfold lateR lateC
    rw [r7]
    exact lateG_congr (fun k hk => r8 k (by omega))
theorem stopIn_ok {q c : Nat} (I : CI mc) (r : RelM mc day sh mi cut mm) (hq : isQ mc day q) (hc : c < lenQ mc q) : Ok (M_stopIn q c mm) (fun z => z = stQ mc q c) := by
  have l := CI_len I hq.1
  have tt := CI_t I
  have k := CI_call I hq.1 hc
  have e := ((r.2.2.2.2.1 (q % 24) hq.1).2.2 c (by omega)).1
  unfold M_stopIn
  rw [tm24]
  have e2 : (8 * ((q % 24 : Nat) : Int) + (c : Int)).toNat = 8 * (q % 24) + c := by omega
  refine ok_grd (by unfold InR; omega) (ok_some ?_)
  rw [e2, e]
  exact k.1
theorem leavesAt_ok {q c : Nat} (I : CI mc) (r : RelM mc day sh mi cut mm) (hq7 : q < 72) (hd : 0 ≤ day ∧ day ≤ 27) (hm : -60 ≤ mi ∧ mi ≤ 60) (hq : isQ mc day q) (hc : c < lenQ mc q) : Ok (M_leavesAt q c mm) (fun z => z = lvQ mc day sh mi q c) := by
  have l := CI_len I hq.1
  have tt := CI_t I
  have k := CI_call I hq.1 hc
  have e := ((r.2.2.2.2.1 (q % 24) hq.1).2.2 c (by omega)).2.2
  have D := RelM_D I r
  have bd := qd_bd hq7
  have mb := mvQ_bd (sh := sh) (q := q) hm
  have b := qv_bd I hq.1 hq7 hm hc (day := day) (sh := sh)
  have e3 : mm 0 22 = day := r.1.2.2.2.1
  have e2 : (8 * ((q % 24 : Nat) : Int) + (c : Int)).toNat = 8 * (q % 24) + c := by omega
  unfold M_leavesAt
  rw [tm24, td24, e3]
  have e4 : ((q / 24 : Nat) : Int) - 1 = qd q := rfl
  rw [e4]
  have e5 : (if ((q % 24 : Nat) : Int) = sh then mi else 0) = mvQ sh mi q := rfl
  rw [e5] at e
  refine ok_ltv (ok_grd (by unfold InR; omega) (ok_ltv ?_))
  rw [e2, e]
  refine ok_grd (by unfold InR; omega) (ok_bind (lateOf_ok D.1 D.2.1 D.2.2.1) (fun v hv => ?_))
  rw [D.2.2.2] at hv
  have ll := CI_late I (d := day + qd q) (t := ((q % 24 : Nat) : Int)) (c := c)
  have e6 : mc (85 + q % 24) c + mvQ sh mi q + 1440 * qd q + v = lvQ mc day sh mi q c := by
    rw [hv]
    unfold lvQ
    omega
  rw [e6]
  exact ok_grd (by unfold InR; omega) (ok_some rfl)
theorem comesAt_ok {q c : Nat} (I : CI mc) (r : RelM mc day sh mi cut mm) (hq7 : q < 72) (hd : 0 ≤ day ∧ day ≤ 27) (hm : -60 ≤ mi ∧ mi ≤ 60) (hq : isQ mc day q) (hc : c < lenQ mc q) : Ok (M_comesAt q c mm) (fun z => z = arQ mc day sh mi q c) := by
  have l := CI_len I hq.1
  have tt := CI_t I
  have k := CI_call I hq.1 hc
  have e := ((r.2.2.2.2.1 (q % 24) hq.1).2.2 c (by omega)).2.1
  have D := RelM_D I r
  have bd := qd_bd hq7
  have mb := mvQ_bd (sh := sh) (q := q) hm
  have b := qa_bd I hq.1 hq7 hm hc (day := day) (sh := sh)
  have e3 : mm 0 22 = day := r.1.2.2.2.1
  have e2 : (8 * ((q % 24 : Nat) : Int) + (c : Int)).toNat = 8 * (q % 24) + c := by omega
  unfold M_comesAt
  rw [tm24, td24, e3]
  have e4 : ((q / 24 : Nat) : Int) - 1 = qd q := rfl
  rw [e4]
  have e5 : (if ((q % 24 : Nat) : Int) = sh then mi else 0) = mvQ sh mi q := rfl
  rw [e5] at e
  refine ok_ltv (ok_grd (by unfold InR; omega) (ok_ltv ?_))
  rw [e2, e]
  refine ok_grd (by unfold InR; omega) (ok_ltv (ok_ite (fun h => ?_) (fun h => ok_grd (by unfold InR; omega) (ok_bind (lateOf_ok D.1 D.2.1 D.2.2.1) (fun v hv => ?_)))))
  · have z := CI_lneg I (d := day + qd q) (t := ((q % 24 : Nat) : Int)) (c := (c : Int) - 1) (by omega)
    have e6 : mc (60 + q % 24) c + mvQ sh mi q + 1440 * qd q + 0 = arQ mc day sh mi q c := by
      unfold arQ
      omega
    dsimp only
    rw [e6]
    exact ok_grd (by unfold InR; omega) (ok_some rfl)
  · rw [D.2.2.2] at hv
    have e6 : mc (60 + q % 24) c + mvQ sh mi q + 1440 * qd q + v = arQ mc day sh mi q c := by
      rw [hv]
      unfold arQ
      omega
    dsimp only
    rw [e6]
    exact ok_grd (by unfold InR; omega) (ok_some rfl)
end RELM
