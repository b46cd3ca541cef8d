/-! ===== bits that are on ===== -/
theorem and256 {q p r s : Nat} (hr : r < 256) (hs : s < 256) : (256 * q + r) &&& (256 * p + s) = 256 * (q &&& p) + (r &&& s) := by
  have e : (256 : Nat) = 2 ^ 8 := rfl
  have hrs : r &&& s < 2 ^ 8 := Nat.lt_of_le_of_lt Nat.and_le_left hr
  rw [e]
  apply Nat.eq_of_testBit_eq
  intro j
  rw [Nat.testBit_and, Nat.testBit_two_pow_mul_add q hr, Nat.testBit_two_pow_mul_add p hs, Nat.testBit_two_pow_mul_add (q &&& p) hrs]
  split
  · rw [Nat.testBit_and]
  · rw [Nat.testBit_and]
theorem and4 {a0 a1 a2 a3 b0 b1 b2 b3 x y : Nat} (h0 : a0 < 256) (h1 : a1 < 256) (h2 : a2 < 256) (g0 : b0 < 256) (g1 : b1 < 256) (g2 : b2 < 256) (hx : x = 256 * (256 * (256 * a3 + a2) + a1) + a0) (hy : y = 256 * (256 * (256 * b3 + b2) + b1) + b0) : x &&& y = 256 * (256 * (256 * (a3 &&& b3) + (a2 &&& b2)) + (a1 &&& b1)) + (a0 &&& b0) := by
  rw [hx, hy, and256 h0 g0, and256 h1 g1, and256 h2 g2]
theorem s1_t : ∀ a : Fin 256, ∀ c : Fin 2, (a.val / 2 + 128 * c.val) &&& 85 = a.val / 2 &&& 85 := by decide +kernel
theorem s1_le : ∀ a : Fin 256, (a.val / 2 &&& 85) ≤ a.val := by decide +kernel
def p1 (a : Nat) : Nat := a - (a / 2 &&& 85)
def p2 (a : Nat) : Nat := (p1 a &&& 51) + (p1 a / 4 &&& 51)
def p3 (a : Nat) : Nat := (p2 a + p2 a / 16) &&& 15
theorem p1_lt : ∀ a : Fin 256, p1 a.val < 256 := by decide +kernel
theorem s2_t : ∀ a : Fin 256, ∀ c : Fin 4, (p1 a.val / 4 + 64 * c.val) &&& 51 = p1 a.val / 4 &&& 51 := by decide +kernel
theorem p2_lt : ∀ a : Fin 256, p2 a.val ≤ 68 ∧ p2 a.val % 16 ≤ 4 := by decide +kernel
theorem s3_t : ∀ a : Fin 256, ∀ c : Fin 16, (p2 a.val + p2 a.val / 16 + 16 * c.val) &&& 15 = p3 a.val := by decide +kernel
theorem p3_e : ∀ a : Fin 256, p3 a.val = a.val % 2 + a.val / 2 % 2 + a.val / 4 % 2 + a.val / 8 % 2 + a.val / 16 % 2 + a.val / 32 % 2 + a.val / 64 % 2 + a.val / 128 % 2 := by decide +kernel
theorem p3_le : ∀ a : Fin 256, p3 a.val ≤ 8 := by decide +kernel
theorem jiushr_nat {n d : Nat} (hn : n < 2147483648) (hd : d < 32) : jiushr (n : Int) (d : Int) = ((n / 2 ^ d : Nat) : Int) := by
  have a1 : (i32 (n : Int)).toUInt32.toBitVec = BitVec.ofNat 32 n := bv_i32 n
  have a2 : (i32 (d : Int)).toUInt32.toBitVec = BitVec.ofNat 32 d := bv_i32 d
  have a3 : (Int32.toUInt32 31).toBitVec = 31#32 := rfl
  have sh : ∀ d : Fin 32, ((BitVec.ofNat 32 d.val &&& 31#32) % 32#32).toNat = d.val := by decide +kernel
  have e : ((i32 (n : Int)).toUInt32 >>> ((i32 (d : Int)).toUInt32 &&& Int32.toUInt32 31)).toInt32.toBitVec = (BitVec.ofNat 32 n) >>> d := by
    show ((i32 (n : Int)).toUInt32 >>> ((i32 (d : Int)).toUInt32 &&& Int32.toUInt32 31)).toBitVec = _
    rw [UInt32.toBitVec_shiftRight, UInt32.toBitVec_and, a1, a2, a3]
    show (BitVec.ofNat 32 n) >>> ((BitVec.ofNat 32 d &&& 31#32) % 32#32).toNat = _
    rw [sh ⟨d, hd⟩]
  unfold jiushr
  rw [i32_toBV, e]
  have h2 : n / 2 ^ d ≤ n := Nat.div_le_self _ _
  have h3 : ((BitVec.ofNat 32 n) >>> d).toNat = n / 2 ^ d := by
    rw [BitVec.toNat_ushiftRight, BitVec.toNat_ofNat, Nat.mod_eq_of_lt (by omega), Nat.shiftRight_eq_div_pow]
  rw [BitVec.toInt_eq_toNat_of_lt (by omega), h3]
theorem wr32_nat {n : Nat} (hn : n < 2147483648) : wr32 (n : Int) = n := by
  unfold wr32
  rw [i32_toBV, bv_i32, BitVec.toInt_eq_toNat_of_lt (by rw [BitVec.toNat_ofNat]; omega), BitVec.toNat_ofNat]
  omega
theorem sh_1 {x a0 a1 a2 a3 : Nat} (h : x = 256 * (256 * (256 * a3 + a2) + a1) + a0) : x / 2 ^ 1 = 256 * (256 * (256 * (a3 / 2) + (a2 / 2 + 128 * (a3 % 2))) + (a1 / 2 + 128 * (a2 % 2))) + (a0 / 2 + 128 * (a1 % 2)) := by omega
theorem sh_2 {x a0 a1 a2 a3 : Nat} (h : x = 256 * (256 * (256 * a3 + a2) + a1) + a0) : x / 2 ^ 2 = 256 * (256 * (256 * (a3 / 4) + (a2 / 4 + 64 * (a3 % 4))) + (a1 / 4 + 64 * (a2 % 4))) + (a0 / 4 + 64 * (a1 % 4)) := by omega
theorem sh_4 {x a0 a1 a2 a3 : Nat} (h : x = 256 * (256 * (256 * a3 + a2) + a1) + a0) : x + x / 2 ^ 4 = 256 * (256 * (256 * (a3 + a3 / 16 + 16 * 0) + (a2 + a2 / 16 + 16 * (a3 % 16))) + (a1 + a1 / 16 + 16 * (a2 % 16))) + (a0 + a0 / 16 + 16 * (a1 % 16)) := by omega
theorem sh_e {u a0 a1 a2 a3 : Nat} (h : u = 256 * (256 * (256 * a3 + a2) + a1) + a0) (h0 : a0 ≤ 8) (h1 : a1 ≤ 8) (h2 : a2 ≤ 8) (h3 : a3 ≤ 8) : (u + u / 2 ^ 8 + (u + u / 2 ^ 8) / 2 ^ 16) &&& 63 = a0 + a1 + a2 + a3 := by
  have e1 : u / 2 ^ 8 = 256 * (256 * a3 + a2) + a1 := by omega
  rw [e1, h]
  have e2 : (256 * (256 * (256 * a3 + a2) + a1) + a0 + (256 * (256 * a3 + a2) + a1)) / 2 ^ 16 = 256 * a3 + a2 + a3 := by omega
  rw [e2, show (63 : Nat) = 2 ^ 6 - 1 from rfl, Nat.and_two_pow_sub_one_eq_mod]
  omega
theorem lt4 {a0 a1 a2 a3 : Nat} (h0 : a0 < 256) (h1 : a1 < 256) (h2 : a2 < 256) (h3 : a3 < 128) : 256 * (256 * (256 * a3 + a2) + a1) + a0 < 2147483648 := by omega
theorem st_a {x a0 a1 a2 a3 : Nat} (h0 : a0 < 256) (h1 : a1 < 256) (h2 : a2 < 256) (h3 : a3 < 16) (hx : x = 256 * (256 * (256 * a3 + a2) + a1) + a0) : wr32 ((x : Int) - jiand (jiushr x 1) 1431655765) = ((256 * (256 * (256 * p1 a3 + p1 a2) + p1 a1) + p1 a0 : Nat) : Int) := by
  have xl : x < 2147483648 := by rw [hx]; exact lt4 h0 h1 h2 (by omega)
  have u1 := jiushr_nat (n := x) (d := 1) xl (by omega)
  have u2 := and4 (a0 := a0 / 2 + 128 * (a1 % 2)) (a1 := a1 / 2 + 128 * (a2 % 2)) (a2 := a2 / 2 + 128 * (a3 % 2)) (a3 := a3 / 2) (b0 := 85) (b1 := 85) (b2 := 85) (b3 := 85) (x := x / 2 ^ 1) (y := 1431655765) (by omega) (by omega) (by omega) (by decide) (by decide) (by decide) (sh_1 hx) (by decide)
  have t0 := s1_t ⟨a0, h0⟩ ⟨a1 % 2, by omega⟩
  have t1 := s1_t ⟨a1, h1⟩ ⟨a2 % 2, by omega⟩
  have t2 := s1_t ⟨a2, h2⟩ ⟨a3 % 2, by omega⟩
  have l0 := s1_le ⟨a0, h0⟩
  have l1 := s1_le ⟨a1, h1⟩
  have l2 := s1_le ⟨a2, h2⟩
  have l3 := s1_le ⟨a3, by omega⟩
  dsimp only at t0 t1 t2 l0 l1 l2 l3
  rw [t0, t1, t2] at u2
  have xb : x / 2 ^ 1 ≤ x := Nat.div_le_self _ _
  rw [show (1 : Int) = ((1 : Nat) : Int) from rfl, u1, show (1431655765 : Int) = ((1431655765 : Nat) : Int) from rfl, jiand_nat (by omega) (by decide), u2, hx]
  unfold p1
  obtain ⟨r0, e0⟩ : ∃ r, r = a0 / 2 &&& 85 := ⟨_, rfl⟩
  obtain ⟨r1, e1⟩ : ∃ r, r = a1 / 2 &&& 85 := ⟨_, rfl⟩
  obtain ⟨r2, e2⟩ : ∃ r, r = a2 / 2 &&& 85 := ⟨_, rfl⟩
  obtain ⟨r3, e3⟩ : ∃ r, r = a3 / 2 &&& 85 := ⟨_, rfl⟩
  rw [← e0] at l0 ⊢
  rw [← e1] at l1 ⊢
  rw [← e2] at l2 ⊢
  rw [← e3] at l3 ⊢
  clear t0 t1 t2 u1 u2 xb xl e0 e1 e2 e3 hx
  rw [← wr32_nat (n := 256 * (256 * (256 * (a3 - r3) + (a2 - r2)) + (a1 - r1)) + (a0 - r0)) (by omega)]
  congr 1
  omega
theorem st_b {y b0 b1 b2 b3 : Nat} (h0 : b0 < 256) (h1 : b1 < 256) (h2 : b2 < 256) (h3 : b3 < 16) (hy : y = 256 * (256 * (256 * b3 + b2) + b1) + b0) (t0 : (b0 / 4 + 64 * (b1 % 4)) &&& 51 = b0 / 4 &&& 51) (t1 : (b1 / 4 + 64 * (b2 % 4)) &&& 51 = b1 / 4 &&& 51) (t2 : (b2 / 4 + 64 * (b3 % 4)) &&& 51 = b2 / 4 &&& 51) : wr32 (jiand (y : Int) 858993459 + jiand (jiushr y 2) 858993459) = ((256 * (256 * (256 * ((b3 &&& 51) + (b3 / 4 &&& 51)) + ((b2 &&& 51) + (b2 / 4 &&& 51))) + ((b1 &&& 51) + (b1 / 4 &&& 51))) + ((b0 &&& 51) + (b0 / 4 &&& 51)) : Nat) : Int) := by
  have yl : y < 2147483648 := by rw [hy]; exact lt4 h0 h1 h2 (by omega)
  have v1 := jiushr_nat (n := y) (d := 2) yl (by omega)
  have v2 := and4 (b0 := 51) (b1 := 51) (b2 := 51) (b3 := 51) (y := 858993459) h0 h1 h2 (by decide) (by decide) (by decide) hy (by decide)
  have v3 := and4 (a0 := b0 / 4 + 64 * (b1 % 4)) (a1 := b1 / 4 + 64 * (b2 % 4)) (a2 := b2 / 4 + 64 * (b3 % 4)) (a3 := b3 / 4) (b0 := 51) (b1 := 51) (b2 := 51) (b3 := 51) (x := y / 2 ^ 2) (y := 858993459) (by omega) (by omega) (by omega) (by decide) (by decide) (by decide) (sh_2 hy) (by decide)
  rw [t0, t1, t2] at v3
  have yb : y / 2 ^ 2 ≤ y := Nat.div_le_self _ _
  rw [show (2 : Int) = ((2 : Nat) : Int) from rfl, v1, show (858993459 : Int) = ((858993459 : Nat) : Int) from rfl, jiand_nat yl (by decide), jiand_nat (by omega) (by decide), v2, v3, ← Int.natCast_add]
  have q0 : b0 &&& 51 ≤ 51 := Nat.and_le_right
  have q1 : b1 &&& 51 ≤ 51 := Nat.and_le_right
  have q2 : b2 &&& 51 ≤ 51 := Nat.and_le_right
  have q3 : b3 &&& 51 ≤ 51 := Nat.and_le_right
  have r0 : b0 / 4 &&& 51 ≤ 51 := Nat.and_le_right
  have r1 : b1 / 4 &&& 51 ≤ 51 := Nat.and_le_right
  have r2 : b2 / 4 &&& 51 ≤ 51 := Nat.and_le_right
  have r3 : b3 / 4 &&& 51 ≤ 51 := Nat.and_le_right
  have e : 256 * (256 * (256 * (b3 &&& 51) + (b2 &&& 51)) + (b1 &&& 51)) + (b0 &&& 51) + (256 * (256 * (256 * (b3 / 4 &&& 51) + (b2 / 4 &&& 51)) + (b1 / 4 &&& 51)) + (b0 / 4 &&& 51)) = 256 * (256 * (256 * ((b3 &&& 51) + (b3 / 4 &&& 51)) + ((b2 &&& 51) + (b2 / 4 &&& 51))) + ((b1 &&& 51) + (b1 / 4 &&& 51))) + ((b0 &&& 51) + (b0 / 4 &&& 51)) := by
    generalize b0 &&& 51 = z0
    generalize b1 &&& 51 = z1
    generalize b2 &&& 51 = z2
    generalize b3 &&& 51 = z3
    generalize b0 / 4 &&& 51 = z4
    generalize b1 / 4 &&& 51 = z5
    generalize b2 / 4 &&& 51 = z6
    generalize b3 / 4 &&& 51 = z7
    omega
  rw [e]
  exact wr32_nat (lt4 (by omega) (by omega) (by omega) (by omega))
theorem st_c {z c0 c1 c2 c3 : Nat} (h0 : c0 ≤ 68) (h1 : c1 ≤ 68) (h2 : c2 ≤ 68) (h3 : c3 ≤ 68) (n1 : c1 % 16 ≤ 4) (n2 : c2 % 16 ≤ 4) (n3 : c3 % 16 ≤ 4) (hz : z = 256 * (256 * (256 * c3 + c2) + c1) + c0) : jiand (wr32 ((z : Int) + jiushr z 4)) 252645135 = ((256 * (256 * (256 * ((c3 + c3 / 16 + 16 * 0) &&& 15) + ((c2 + c2 / 16 + 16 * (c3 % 16)) &&& 15)) + ((c1 + c1 / 16 + 16 * (c2 % 16)) &&& 15)) + ((c0 + c0 / 16 + 16 * (c1 % 16)) &&& 15) : Nat) : Int) := by
  have zl : z < 2147483648 := by rw [hz]; exact lt4 (by omega) (by omega) (by omega) (by omega)
  have w1 := jiushr_nat (n := z) (d := 4) zl (by omega)
  have sh := sh_4 hz
  have sl : z + z / 2 ^ 4 < 2147483648 := by rw [sh]; exact lt4 (by omega) (by omega) (by omega) (by omega)
  have w2 := and4 (b0 := 15) (b1 := 15) (b2 := 15) (b3 := 15) (y := 252645135) (by omega) (by omega) (by omega) (by decide) (by decide) (by decide) sh (by decide)
  rw [show (4 : Int) = ((4 : Nat) : Int) from rfl, w1, show (252645135 : Int) = ((252645135 : Nat) : Int) from rfl, ← Int.natCast_add, wr32_nat sl, jiand_nat sl (by decide), w2]
theorem st_e {u a0 a1 a2 a3 : Nat} (hu : u = 256 * (256 * (256 * a3 + a2) + a1) + a0) (h0 : a0 ≤ 8) (h1 : a1 ≤ 8) (h2 : a2 ≤ 8) (h3 : a3 ≤ 8) : jiand (wr32 (wr32 ((u : Int) + jiushr u 8) + jiushr (wr32 ((u : Int) + jiushr u 8)) 16)) 63 = ((a0 + a1 + a2 + a3 : Nat) : Int) := by
  have ul : u < 200000000 := by rw [hu]; omega
  have e1 := jiushr_nat (n := u) (d := 8) (by omega) (by omega)
  have b1 : u / 2 ^ 8 ≤ u := Nat.div_le_self _ _
  have e2 := jiushr_nat (n := u + u / 2 ^ 8) (d := 16) (by omega) (by omega)
  have b2 : (u + u / 2 ^ 8) / 2 ^ 16 ≤ u + u / 2 ^ 8 := Nat.div_le_self _ _
  rw [show (8 : Int) = ((8 : Nat) : Int) from rfl, e1, ← Int.natCast_add, wr32_nat (by omega), show (16 : Int) = ((16 : Nat) : Int) from rfl, e2, ← Int.natCast_add, wr32_nat (by omega), show (63 : Int) = ((63 : Nat) : Int) from rfl, jiand_nat (by omega) (by omega), sh_e hu h0 h1 h2 h3]
theorem jbits_4 {a0 a1 a2 a3 : Nat} (h0 : a0 < 256) (h1 : a1 < 256) (h2 : a2 < 256) (h3 : a3 < 16) : jbits ((256 * (256 * (256 * a3 + a2) + a1) + a0 : Nat) : Int) = ((p3 a0 + p3 a1 + p3 a2 + p3 a3 : Nat) : Int) := by
  have g3 : a3 < 256 := by omega
  have k0 := p1_lt ⟨a0, h0⟩
  have k1 := p1_lt ⟨a1, h1⟩
  have k2 := p1_lt ⟨a2, h2⟩
  have k3 : p1 a3 ≤ a3 := Nat.sub_le _ _
  have q0 := p2_lt ⟨a0, h0⟩
  have q1 := p2_lt ⟨a1, h1⟩
  have q2 := p2_lt ⟨a2, h2⟩
  have q3 := p2_lt ⟨a3, g3⟩
  have r0 := p3_le ⟨a0, h0⟩
  have r1 := p3_le ⟨a1, h1⟩
  have r2 := p3_le ⟨a2, h2⟩
  have r3 := p3_le ⟨a3, g3⟩
  unfold jbits
  dsimp only at k0 k1 k2 q0 q1 q2 q3 r0 r1 r2 r3 ⊢
  rw [st_a h0 h1 h2 h3 rfl]
  rw [st_b k0 k1 k2 (by omega) rfl (s2_t ⟨a0, h0⟩ ⟨p1 a1 % 4, Nat.mod_lt _ (by decide)⟩) (s2_t ⟨a1, h1⟩ ⟨p1 a2 % 4, Nat.mod_lt _ (by decide)⟩) (s2_t ⟨a2, h2⟩ ⟨p1 a3 % 4, Nat.mod_lt _ (by decide)⟩)]
  have c := st_c (c0 := p2 a0) (c1 := p2 a1) (c2 := p2 a2) (c3 := p2 a3) q0.1 q1.1 q2.1 q3.1 q1.2 q2.2 q3.2 rfl
  rw [show ((p2 a0 + p2 a0 / 16 + 16 * (p2 a1 % 16)) &&& 15) = p3 a0 from s3_t ⟨a0, h0⟩ ⟨p2 a1 % 16, Nat.mod_lt _ (by decide)⟩, show ((p2 a1 + p2 a1 / 16 + 16 * (p2 a2 % 16)) &&& 15) = p3 a1 from s3_t ⟨a1, h1⟩ ⟨p2 a2 % 16, Nat.mod_lt _ (by decide)⟩, show ((p2 a2 + p2 a2 / 16 + 16 * (p2 a3 % 16)) &&& 15) = p3 a2 from s3_t ⟨a2, h2⟩ ⟨p2 a3 % 16, Nat.mod_lt _ (by decide)⟩, show ((p2 a3 + p2 a3 / 16 + 16 * 0) &&& 15) = p3 a3 from s3_t ⟨a3, g3⟩ ⟨0, by decide⟩] at c
  unfold p2 at c
  rw [c]
  exact st_e rfl r0 r1 r2 r3
theorem bit_nat (n d : Nat) : bit (n : Int) d = ((n / 2 ^ d % 2 : Nat) : Int) := by
  unfold bit
  rw [Int.toNat_natCast, Nat.testBit_eq_decide_div_mod_eq]
  have := Nat.mod_two_eq_zero_or_one (n / 2 ^ d)
  rcases this with h | h <;> rw [h] <;> rfl
theorem jbits_eq {n : Nat} (h : n < 268435456) : jbits (n : Int) = sI (fun d => bit (n : Int) d) 28 := by
  have e : n = 256 * (256 * (256 * (n / 16777216) + n / 65536 % 256) + n / 256 % 256) + n % 256 := by omega
  have j := jbits_4 (a0 := n % 256) (a1 := n / 256 % 256) (a2 := n / 65536 % 256) (a3 := n / 16777216) (by omega) (by omega) (by omega) (by omega)
  rw [← e] at j
  rw [j]
  clear j e
  obtain ⟨B, hB⟩ : ∃ B : Nat → Nat, ∀ d, n / 2 ^ d % 2 = B d := ⟨_, fun _ => rfl⟩
  have q0 := p3_e ⟨n % 256, by omega⟩
  have q1 := p3_e ⟨n / 256 % 256, by omega⟩
  have q2 := p3_e ⟨n / 65536 % 256, by omega⟩
  have q3 := p3_e ⟨n / 16777216, by omega⟩
  dsimp only at q0 q1 q2 q3
  have f0 : n % 256 % 2 = B 0 := by rw [← hB]; clear q0 q1 q2 q3 hB; omega
  have f1 : n % 256 / 2 % 2 = B 1 := by rw [← hB]; clear q0 q1 q2 q3 hB; omega
  have f2 : n % 256 / 4 % 2 = B 2 := by rw [← hB]; clear q0 q1 q2 q3 hB; omega
  have f3 : n % 256 / 8 % 2 = B 3 := by rw [← hB]; clear q0 q1 q2 q3 hB; omega
  have f4 : n % 256 / 16 % 2 = B 4 := by rw [← hB]; clear q0 q1 q2 q3 hB; omega
  have f5 : n % 256 / 32 % 2 = B 5 := by rw [← hB]; clear q0 q1 q2 q3 hB; omega
  have f6 : n % 256 / 64 % 2 = B 6 := by rw [← hB]; clear q0 q1 q2 q3 hB; omega
  have f7 : n % 256 / 128 % 2 = B 7 := by rw [← hB]; clear q0 q1 q2 q3 hB; omega
  rw [f0, f1, f2, f3, f4, f5, f6, f7] at q0
  have f8 : n / 256 % 256 % 2 = B 8 := by rw [← hB]; clear q0 q1 q2 q3 hB; omega
  have f9 : n / 256 % 256 / 2 % 2 = B 9 := by rw [← hB]; clear q0 q1 q2 q3 hB; omega
  have f10 : n / 256 % 256 / 4 % 2 = B 10 := by rw [← hB]; clear q0 q1 q2 q3 hB; omega
  have f11 : n / 256 % 256 / 8 % 2 = B 11 := by rw [← hB]; clear q0 q1 q2 q3 hB; omega
  have f12 : n / 256 % 256 / 16 % 2 = B 12 := by rw [← hB]; clear q0 q1 q2 q3 hB; omega
  have f13 : n / 256 % 256 / 32 % 2 = B 13 := by rw [← hB]; clear q0 q1 q2 q3 hB; omega
  have f14 : n / 256 % 256 / 64 % 2 = B 14 := by rw [← hB]; clear q0 q1 q2 q3 hB; omega
  have f15 : n / 256 % 256 / 128 % 2 = B 15 := by rw [← hB]; clear q0 q1 q2 q3 hB; omega
  rw [f8, f9, f10, f11, f12, f13, f14, f15] at q1
  have f16 : n / 65536 % 256 % 2 = B 16 := by rw [← hB]; clear q0 q1 q2 q3 hB; omega
  have f17 : n / 65536 % 256 / 2 % 2 = B 17 := by rw [← hB]; clear q0 q1 q2 q3 hB; omega
  have f18 : n / 65536 % 256 / 4 % 2 = B 18 := by rw [← hB]; clear q0 q1 q2 q3 hB; omega
  have f19 : n / 65536 % 256 / 8 % 2 = B 19 := by rw [← hB]; clear q0 q1 q2 q3 hB; omega
  have f20 : n / 65536 % 256 / 16 % 2 = B 20 := by rw [← hB]; clear q0 q1 q2 q3 hB; omega
  have f21 : n / 65536 % 256 / 32 % 2 = B 21 := by rw [← hB]; clear q0 q1 q2 q3 hB; omega
  have f22 : n / 65536 % 256 / 64 % 2 = B 22 := by rw [← hB]; clear q0 q1 q2 q3 hB; omega
  have f23 : n / 65536 % 256 / 128 % 2 = B 23 := by rw [← hB]; clear q0 q1 q2 q3 hB; omega
  rw [f16, f17, f18, f19, f20, f21, f22, f23] at q2
  have f24 : n / 16777216 % 2 = B 24 := hB 24
  have f25 : n / 16777216 / 2 % 2 = B 25 := by rw [← hB]; clear q0 q1 q2 q3 hB; omega
  have f26 : n / 16777216 / 4 % 2 = B 26 := by rw [← hB]; clear q0 q1 q2 q3 hB; omega
  have f27 : n / 16777216 / 8 % 2 = B 27 := by rw [← hB]; clear q0 q1 q2 q3 hB; omega
  have f28 : n / 16777216 / 16 % 2 = 0 := by clear q0 q1 q2 q3 hB; omega
  have f29 : n / 16777216 / 32 % 2 = 0 := by clear q0 q1 q2 q3 hB; omega
  have f30 : n / 16777216 / 64 % 2 = 0 := by clear q0 q1 q2 q3 hB; omega
  have f31 : n / 16777216 / 128 % 2 = 0 := by clear q0 q1 q2 q3 hB; omega
  rw [f24, f25, f26, f27, f28, f29, f30, f31] at q3
  rw [q0, q1, q2, q3]
  simp only [sI, bit_nat, hB]
  clear q0 q1 q2 q3 f0 f1 f2 f3 f4 f5 f6 f7 f8 f9 f10 f11 f12 f13 f14 f15 f16 f17 f18 f19 f20 f21 f22 f23 f24 f25 f26 f27 f28 f29 f30 f31
  clear hB
  omega
