/-! THE SMALL MACHINE AGAINST THE KIT'S: numbers -/
theorem sx_lo32 : Int32.minValue.toInt = -2147483648 := by decide
theorem sx_hi32 : Int32.maxValue.toInt = 2147483647 := by decide
theorem sx_lo64 : Int64.minValue.toInt = -9223372036854775808 := by decide
theorem sx_hi64 : Int64.maxValue.toInt = 9223372036854775807 := by decide
theorem sx_toI {a : Int} (h : kx_in a) : (Int32.ofInt a).toInt = a := Int32.toInt_ofInt_of_le (by omega) (by omega)
theorem sx_toL {a : Int} (h : kx_inL a) : (Int64.ofInt a).toInt = a := Int64.toInt_ofInt_of_le (by omega) (by omega)
theorem sx_lt {a b : Int} (ha : kx_in a) (hb : kx_in b) : Int32.ofInt a < Int32.ofInt b ↔ a < b := by
  rw [Int32.lt_iff_toInt_lt, sx_toI ha, sx_toI hb]
theorem sx_le {a b : Int} (ha : kx_in a) (hb : kx_in b) : Int32.ofInt a ≤ Int32.ofInt b ↔ a ≤ b := by
  rw [Int32.le_iff_toInt_le, sx_toI ha, sx_toI hb]
theorem sx_eq {a b : Int} (ha : kx_in a) (hb : kx_in b) : Int32.ofInt a = Int32.ofInt b ↔ a = b := by
  rw [← Int32.toInt_inj, sx_toI ha, sx_toI hb]
theorem sx_zero : Int32.ofInt 0 = 0 := by decide
theorem sx_cl {a : Int} (h0 : 0 ≤ a) (h1 : a < 2147483648) : (Int32.ofInt a).toNatClampNeg = a.toNat := Int32.toNatClampNeg_ofInt_of_le (by omega) (by omega)
theorem sx_vp {a : Int} {n : Nat} (h0 : 0 ≤ a) (h1 : a < n) (hn : n < 2147483648) : vp_in (Int32.ofInt a) n := by
  unfold vp_in
  have hc := sx_cl h0 (show a < 2147483648 by omega)
  intro h
  rcases h with h | h
  · rw [← sx_zero, sx_lt ⟨by omega, by omega⟩ ⟨by omega, by omega⟩] at h; omega
  · rw [hc] at h; omega
theorem sx_div {a b : Int} (ha : kx_in a) (hb : kx_in b) : Int32.ofInt (a.tdiv b) = Int32.ofInt a / Int32.ofInt b := by
  refine Int32.ofInt_tdiv ?_ ?_ ?_ ?_ <;> simp only [sx_lo32, sx_hi32] <;> omega
theorem sx_rem {a b : Int} (ha : kx_in a) (hb : kx_in b) : Int32.ofInt (a.tmod b) = Int32.ofInt a - Int32.ofInt a / Int32.ofInt b * Int32.ofInt b := by
  rw [irem_eq_mod]
  refine Int32.ofInt_tmod ?_ ?_ ?_ ?_ <;> simp only [sx_lo32, sx_hi32] <;> omega
theorem sx_ne0 {b : Int} (hb : kx_in b) (h : b ≠ 0) : ¬ Int32.ofInt b = 0 := by
  rw [← sx_zero, sx_eq hb ⟨by omega, by omega⟩]; exact h
theorem sx_and (a b : Int) : Int32.ofInt (kx_and a b) = Int32.ofInt a &&& Int32.ofInt b := by rw [kx_and, Int32.ofInt_toInt]
theorem sx_or (a b : Int) : Int32.ofInt (kx_or a b) = Int32.ofInt a ||| Int32.ofInt b := by rw [kx_or, Int32.ofInt_toInt]
theorem sx_xor (a b : Int) : Int32.ofInt (kx_xor a b) = Int32.ofInt a ^^^ Int32.ofInt b := by rw [kx_xor, Int32.ofInt_toInt]
theorem sx_lor (a b : Int) : Int64.ofInt (kx_lor a b) = Int64.ofInt a ||| Int64.ofInt b := by rw [kx_lor, Int64.ofInt_toInt]
theorem sx_i2l {a : Int} (h : kx_in a) : (Int32.ofInt a).toInt64 = Int64.ofInt a := Int32.toInt64_ofInt (by rw [sx_lo32]; omega) (by rw [sx_hi32]; omega)
theorem sx_bm (a : Int) : Int32.ofInt (a.bmod 4294967296) = Int32.ofInt a := by
  rw [← Int32.toInt_inj, Int32.toInt_ofInt, Int32.toInt_ofInt]
  show (a.bmod 4294967296).bmod 4294967296 = a.bmod 4294967296
  rw [Int.bmod_bmod]
theorem sx_i2b (a : Int) : (Int32.ofInt a).toInt8.toInt32 = Int32.ofInt (a.bmod 256) := by
  rw [← Int32.toInt_inj, Int8.toInt_toInt32, Int32.toInt_toInt8, Int32.toInt_ofInt]
  rw [show Int32.size = 4294967296 from rfl, show (2 ^ 8 : Nat) = 256 from rfl]
  rw [Int.bmod_bmod_of_dvd (by decide), Int32.toInt_ofInt_of_le]
  · have := Int.le_bmod (x := a) (m := 256) (by omega); omega
  · have := Int.bmod_lt (x := a) (m := 256) (by omega); omega
theorem sx_i2s (a : Int) : (Int32.ofInt a).toInt16.toInt32 = Int32.ofInt (a.bmod 65536) := by
  rw [← Int32.toInt_inj, Int16.toInt_toInt32, Int32.toInt_toInt16, Int32.toInt_ofInt]
  rw [show Int32.size = 4294967296 from rfl, show (2 ^ 16 : Nat) = 65536 from rfl]
  rw [Int.bmod_bmod_of_dvd (by decide), Int32.toInt_ofInt_of_le]
  · have := Int.le_bmod (x := a) (m := 65536) (by omega); omega
  · have := Int.bmod_lt (x := a) (m := 65536) (by omega); omega
