theorem sx_sh {b : Int} (h0 : 0 ≤ b) (h1 : b < 32) : Int32.ofInt b &&& 31 = Int32.ofInt b := by
  obtain ⟨n, rfl⟩ := Int.eq_ofNat_of_zero_le h0
  have h : n < 32 := by omega
  have key : ∀ n : Nat, n < 32 → Int32.ofInt (n : Int) &&& 31 = Int32.ofInt n := by decide
  exact key n h
theorem sx_smod {b : Int} (h0 : 0 ≤ b) (h1 : b < 32) : ((Int32.ofInt b).toBitVec.smod 32).toNat = b.toNat := by
  obtain ⟨n, rfl⟩ := Int.eq_ofNat_of_zero_le h0
  have h : n < 32 := by omega
  have key : ∀ n : Nat, n < 32 → ((Int32.ofInt (n : Int)).toBitVec.smod 32).toNat = n := by decide
  rw [key n h]; simp
theorem sx_shl {a b : Int} (h0 : 0 ≤ b) (h1 : b < 32) : Int32.ofInt (a * 2 ^ b.toNat) = Int32.ofInt a <<< (Int32.ofInt b &&& 31) := by
  rw [sx_sh h0 h1]
  have hb := pk_shl (Int32.ofInt a) (Int32.ofInt b) b.toNat (sx_smod h0 h1)
  apply Int32.toBitVec.inj
  apply BitVec.eq_of_toNat_eq
  rw [hb]
  have e1 : ∀ x : Int, (Int32.ofInt x).toBitVec.toNat = (x % 4294967296).toNat := by
    intro x
    rw [Int32.toBitVec_ofInt, BitVec.toNat_ofInt]
    rfl
  rw [e1, e1]
  generalize b.toNat = k
  have hp : (0 : Int) < 2 ^ k := Int.pow_pos (by decide)
  have h2 : ((a % 4294967296).toNat : Int) = a % 4294967296 := Int.toNat_of_nonneg (Int.emod_nonneg _ (by decide))
  have h3 : ((a * 2 ^ k % 4294967296).toNat : Int) = a * 2 ^ k % 4294967296 := Int.toNat_of_nonneg (Int.emod_nonneg _ (by decide))
  apply Int.ofNat_inj.mp
  rw [h3]
  rw [Int.natCast_emod, Int.natCast_mul, h2]
  simp
  rw [Int.mul_emod a (2 ^ k), Int.mul_emod (a % 4294967296) (2 ^ k), Int.emod_emod]
theorem sx_shr {a b : Int} (h0 : 0 ≤ b) (h1 : b < 32) : Int32.ofInt (a.bmod 4294967296 / 2 ^ b.toNat) = Int32.ofInt a >>> (Int32.ofInt b &&& 31) := by
  rw [sx_sh h0 h1]
  have hb := pk_shr (Int32.ofInt a) (Int32.ofInt b) b.toNat (sx_smod h0 h1)
  rw [← Int32.toInt_inj, hb, Int32.toInt_ofInt, Int32.toInt_ofInt]
  rw [show Int32.size = 4294967296 from rfl, Int.shiftRight_eq_div_pow]
  have g1 := Int.le_bmod (x := a) (m := 4294967296) (by omega)
  have g2 := Int.bmod_lt (x := a) (m := 4294967296) (by omega)
  generalize a.bmod 4294967296 = z at g1 g2
  generalize b.toNat = k
  have hp : (0 : Int) < 2 ^ k := Int.pow_pos (by decide)
  have hz : z / 2 ^ k < 2147483648 := by
    rcases Int.lt_or_le z 0 with h | h
    · have : z / 2 ^ k < 0 := Int.ediv_neg_of_neg_of_pos h hp; omega
    · have := Int.ediv_le_self (a := z) (2 ^ k) h; omega
  have hy : -2147483648 ≤ z / 2 ^ k := by
    rcases Int.lt_or_le z 0 with h | h
    · rw [Int.le_ediv_iff_mul_le hp]
      have : (1 : Int) ≤ 2 ^ k := by omega
      have h9 : (0 : Int) ≤ 2147483648 * (2 ^ k - 1) := Int.mul_nonneg (by decide) (by omega)
      have h8 : (2147483648 : Int) * (2 ^ k - 1) = 2147483648 * 2 ^ k - 2147483648 := by rw [Int.mul_sub, Int.mul_one]
      omega
    · have := Int.ediv_nonneg h (Int.le_of_lt hp); omega
  have := sx_toI (a := z / 2 ^ k) ⟨by omega, by omega⟩
  rw [Int32.toInt_ofInt] at this
  simpa using this
theorem sx_ushr {a b : Int} (h0 : 0 ≤ b) (h1 : b < 32) (h2 : 0 ≤ a) (h3 : a ≤ 2147483647) : ((Int32.ofInt a).toUInt32 >>> ((Int32.ofInt b).toUInt32 &&& Int32.toUInt32 31)).toInt32 = Int32.ofInt (a / 2 ^ b.toNat) := by
  obtain ⟨x, rfl⟩ := Int.eq_ofNat_of_zero_le h2
  obtain ⟨n, rfl⟩ := Int.eq_ofNat_of_zero_le h0
  have hn : n < 32 := by omega
  have key : ∀ n : Nat, n < 32 → (((Int32.ofInt (n : Int)).toUInt32 &&& Int32.toUInt32 31).toBitVec % 32).toNat = n := by decide
  have := pk_ushrN (n := x) (by omega) (Int32.ofInt n) n (key n hn)
  rw [show Int32.ofInt (x : Int) = nI x from Int32.ofInt_eq_ofNat]
  rw [this]
  show nI (x / 2 ^ n) = Int32.ofInt ((x : Int) / 2 ^ (n : Int).toNat)
  rw [show ((x : Int) / 2 ^ (n : Int).toNat) = ((x / 2 ^ n : Nat) : Int) by simp]
  exact Int32.ofInt_eq_ofNat.symm
theorem sx_i2c (a : Int) : ((Int32.ofInt a).toUInt32 % 65536).toInt32 = Int32.ofInt (a % 65536) := by
  rw [pk_char]
  rw [Int32.toBitVec_ofInt, BitVec.toNat_ofInt]
  have h2 : (((a % ((2 ^ 32 : Nat) : Int)).toNat : Nat) : Int) = a % 4294967296 := Int.toNat_of_nonneg (Int.emod_nonneg _ (by decide))
  rw [nI, ← Int32.ofInt_eq_ofNat]
  congr 1
  rw [Int.natCast_emod, h2]
  omega
theorem sx_lsmod {b : Int} (h0 : 0 ≤ b) (h1 : b < 64) : (((Int32.ofInt b).toInt64 &&& 63).toBitVec.smod 64).toNat = b.toNat := by
  obtain ⟨n, rfl⟩ := Int.eq_ofNat_of_zero_le h0
  have h : n < 64 := by omega
  have key : ∀ n : Nat, n < 64 → (((Int32.ofInt (n : Int)).toInt64 &&& 63).toBitVec.smod 64).toNat = n := by decide
  rw [key n h]; simp
theorem sx_lsh {b : Int} (h0 : 0 ≤ b) (h1 : b < 64) (a : Int) : Int64.ofInt a <<< ((Int32.ofInt b).toInt64 &&& 63) = Int64.ofInt (a * 2 ^ b.toNat) := by
  have hb : (Int64.ofInt a <<< ((Int32.ofInt b).toInt64 &&& 63)).toBitVec.toNat = (Int64.ofInt a).toBitVec.toNat * 2 ^ b.toNat % 2 ^ 64 := by
    show ((Int64.ofInt a).toBitVec <<< (((Int32.ofInt b).toInt64 &&& 63).toBitVec.smod 64).toNat).toNat = _
    rw [sx_lsmod h0 h1, BitVec.toNat_shiftLeft, Nat.shiftLeft_eq]
  apply Int64.toBitVec.inj
  apply BitVec.eq_of_toNat_eq
  rw [hb]
  have e1 : ∀ x : Int, (Int64.ofInt x).toBitVec.toNat = (x % 18446744073709551616).toNat := by
    intro x
    rw [Int64.toBitVec_ofInt, BitVec.toNat_ofInt]
    rfl
  rw [e1, e1]
  generalize b.toNat = k
  have h2 : ((a % 18446744073709551616).toNat : Int) = a % 18446744073709551616 := Int.toNat_of_nonneg (Int.emod_nonneg _ (by decide))
  have h3 : ((a * 2 ^ k % 18446744073709551616).toNat : Int) = a * 2 ^ k % 18446744073709551616 := Int.toNat_of_nonneg (Int.emod_nonneg _ (by decide))
  apply Int.ofNat_inj.mp
  rw [h3]
  rw [Int.natCast_emod, Int.natCast_mul, h2]
  simp
  rw [Int.mul_emod, Int.mul_emod a, Int.emod_emod]
