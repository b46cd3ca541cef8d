/-! ===== bits ===== -/
theorem bv_i32 (n : Nat) : (i32 (n : Int)).toBitVec = BitVec.ofNat 32 n := by
  show BitVec.ofInt 32 (n : Int) = _
  exact BitVec.ofInt_natCast 32 n
theorem i32_toBV (x : Int32) : x.toInt = x.toBitVec.toInt := rfl
theorem sh_amt : ∀ d : Fin 32, ((BitVec.ofNat 32 d.val &&& 31#32).smod 32#32).toNat = d.val := by decide
theorem jishr_nat {n d : Nat} (hn : n < 2147483648) (hd : d < 32) : jishr (n : Int) (d : Int) = ((n >>> d : Nat) : Int) := by
  have e : (i32 (n : Int) >>> (i32 (d : Int) &&& 31)).toBitVec = (BitVec.ofNat 32 n).sshiftRight d := by
    rw [Int32.toBitVec_shiftRight, Int32.toBitVec_and, bv_i32, bv_i32]
    show (BitVec.ofNat 32 n).sshiftRight ((BitVec.ofNat 32 d &&& 31#32).smod 32#32).toNat = _
    rw [sh_amt ⟨d, hd⟩]
  unfold jishr
  rw [i32_toBV, e]
  have hm : (BitVec.ofNat 32 n).msb = false := by
    rw [BitVec.msb_eq_decide]
    simp
    omega
  rw [BitVec.sshiftRight_eq_of_msb_false hm]
  have h2 : n >>> d ≤ n := by rw [Nat.shiftRight_eq_div_pow]; exact Nat.div_le_self _ _
  have h3 : ((BitVec.ofNat 32 n) >>> d).toNat = n >>> d := by
    rw [BitVec.toNat_ushiftRight, BitVec.toNat_ofNat, Nat.mod_eq_of_lt (by omega)]
  rw [BitVec.toInt_eq_toNat_of_lt (by omega), h3]
theorem jiand_nat {a b : Nat} (ha : a < 2147483648) (hb : b < 2147483648) : jiand (a : Int) (b : Int) = ((a &&& b : Nat) : Int) := by
  unfold jiand
  rw [i32_toBV, Int32.toBitVec_and, bv_i32, bv_i32]
  have h2 : a &&& b ≤ a := Nat.and_le_left
  have h3 : (BitVec.ofNat 32 a &&& BitVec.ofNat 32 b).toNat = a &&& b := by
    rw [BitVec.toNat_and, BitVec.toNat_ofNat, BitVec.toNat_ofNat, Nat.mod_eq_of_lt (by omega), Nat.mod_eq_of_lt (by omega)]
  rw [BitVec.toInt_eq_toNat_of_lt (by omega), h3]
theorem jior_nat {a b : Nat} (ha : a < 2147483648) (hb : b < 2147483648) : jior (a : Int) (b : Int) = ((a ||| b : Nat) : Int) := by
  unfold jior
  rw [i32_toBV, Int32.toBitVec_or, bv_i32, bv_i32]
  have h2 : a ||| b < 2 ^ 31 := Nat.or_lt_two_pow (by omega) (by omega)
  have h3 : (BitVec.ofNat 32 a ||| BitVec.ofNat 32 b).toNat = a ||| b := by
    rw [BitVec.toNat_or, BitVec.toNat_ofNat, BitVec.toNat_ofNat, Nat.mod_eq_of_lt (by omega), Nat.mod_eq_of_lt (by omega)]
  rw [BitVec.toInt_eq_toNat_of_lt (by omega), h3]
theorem jishl_1 : ∀ d : Fin 31, jishl 1 (d.val : Int) = ((2 ^ d.val : Nat) : Int) := by decide
theorem jand_not {n d : Nat} (hn : n < 268435456) (hd : d < 28) : jiand (n : Int) (jixor ((2 ^ d : Nat) : Int) (-1)) = ((n &&& (4294967295 ^^^ 2 ^ d) : Nat) : Int) := by
  have h1 : 2 ^ d < 2 ^ 28 := Nat.pow_lt_pow_right (by omega) hd
  unfold jiand jixor
  rw [i32_of, i32_toBV, Int32.toBitVec_and, Int32.toBitVec_xor, bv_i32, bv_i32]
  have e : (i32 (-1)).toBitVec = BitVec.ofNat 32 4294967295 := by decide
  rw [e]
  have h2 : n &&& (4294967295 ^^^ 2 ^ d) ≤ n := Nat.and_le_left
  have h3 : (BitVec.ofNat 32 n &&& (BitVec.ofNat 32 (2 ^ d) ^^^ BitVec.ofNat 32 4294967295)).toNat = n &&& (4294967295 ^^^ 2 ^ d) := by
    rw [BitVec.toNat_and, BitVec.toNat_xor, BitVec.toNat_ofNat, BitVec.toNat_ofNat, BitVec.toNat_ofNat, Nat.mod_eq_of_lt (by omega), Nat.mod_eq_of_lt (by omega), Nat.mod_eq_of_lt (by omega), Nat.xor_comm]
  rw [BitVec.toInt_eq_toNat_of_lt (by omega), h3]
theorem bit_eq {x : Int} {d : Nat} (h0 : 0 ≤ x) (h1 : x < 2147483648) (hd : d < 32) : jiand (jishr x (d : Int)) 1 = bit x d := by
  obtain ⟨n, rfl⟩ : ∃ n : Nat, x = n := ⟨x.toNat, by omega⟩
  rw [jishr_nat (by omega) hd]
  have h2 : n >>> d ≤ n := by rw [Nat.shiftRight_eq_div_pow]; exact Nat.div_le_self _ _
  have := jiand_nat (a := n >>> d) (b := 1) (by omega) (by omega)
  rw [show ((1 : Nat) : Int) = 1 from rfl] at this
  rw [this]
  unfold bit
  rw [Int.toNat_natCast]
  unfold Nat.testBit
  rw [Nat.and_comm]
  have h3 : 1 &&& n >>> d = n >>> d % 2 := by rw [Nat.and_comm, Nat.and_one_is_mod]
  rw [h3]
  have h4 := Nat.mod_two_eq_zero_or_one (n >>> d)
  rcases h4 with h4 | h4 <;> rw [h4] <;> rfl
theorem bit_01 (x : Int) (d : Nat) : bit x d = 0 ∨ bit x d = 1 := by
  unfold bit
  split
  · exact Or.inr rfl
  · exact Or.inl rfl
theorem tb_mask {d j : Nat} (hj : j < 28) : (4294967295 ^^^ 2 ^ d).testBit j = !(decide (d = j)) := by
  rw [Nat.testBit_xor, Nat.testBit_two_pow]
  have : Nat.testBit 4294967295 j = true := by
    have h : ∀ j : Fin 28, Nat.testBit 4294967295 j.val = true := by decide
    exact h ⟨j, hj⟩
  rw [this]
  simp
/-- a day is put, or taken away -/
theorem put_bits {x z : Int} {d : Nat} (h0 : 0 ≤ x) (h1 : x < 268435456) (hd : d < 28) (hz : z = 0 ∨ z = 1) : let v := (if ¬ z = 0 then jior x (jishl 1 (d : Int)) else jiand x (jixor (jishl 1 (d : Int)) (-1))); 0 ≤ v ∧ v < 268435456 ∧ ∀ j : Nat, j < 28 → bit v j = if j = d then z else bit x j := by
  obtain ⟨n, rfl⟩ : ∃ n : Nat, x = n := ⟨x.toNat, by omega⟩
  have e := jishl_1 ⟨d, by omega⟩
  have h2 : 2 ^ d < 2 ^ 28 := Nat.pow_lt_pow_right (by omega) hd
  dsimp only at e ⊢
  rw [e]
  rcases hz with rfl | rfl
  · rw [if_neg (by decide), jand_not (by omega) hd]
    have h3 : n &&& (4294967295 ^^^ 2 ^ d) ≤ n := Nat.and_le_left
    refine ⟨by omega, by omega, fun j hj => ?_⟩
    unfold bit
    rw [Int.toNat_natCast, Int.toNat_natCast, Nat.testBit_and, tb_mask hj]
    by_cases hh : j = d
    · rw [if_pos hh]
      simp [hh]
    · rw [if_neg hh]
      have : ¬ d = j := fun q => hh q.symm
      simp [this]
  · rw [if_pos (by decide), jior_nat (by omega) (by omega)]
    have h3 : n ||| 2 ^ d < 2 ^ 28 := Nat.or_lt_two_pow (by omega) h2
    refine ⟨by omega, by omega, fun j hj => ?_⟩
    unfold bit
    rw [Int.toNat_natCast, Int.toNat_natCast, Nat.testBit_or, Nat.testBit_two_pow]
    by_cases hh : j = d
    · rw [if_pos hh]
      simp [hh]
    · rw [if_neg hh]
      have : ¬ d = j := fun q => hh q.symm
      simp [this]
