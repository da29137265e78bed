theorem zb_land_low {x : Int} (h : -9223372036854775808 ≤ x ∧ x < 9223372036854775808) : eb_land x 4294967295 = x % 4294967296 := by
  unfold eb_land
  rw [← Int64.toInt_toBitVec, Int64.toBitVec_and]
  have e1 : (Int64.ofInt x).toBitVec = BitVec.ofInt 64 x := rfl
  have e2 : (Int64.ofInt 4294967295).toBitVec = BitVec.ofNat 64 4294967295 := rfl
  rw [e1, e2]
  have e3 : (BitVec.ofInt 64 x &&& BitVec.ofNat 64 4294967295).toNat = (x % 18446744073709551616).toNat % 4294967296 := by
    rw [BitVec.toNat_and, BitVec.toNat_ofInt, BitVec.toNat_ofNat]
    show (x % 18446744073709551616).toNat &&& (2 ^ 32 - 1) = _
    rw [Nat.and_two_pow_sub_one_eq_mod]
  rw [BitVec.toInt_eq_toNat_of_lt (by rw [e3]; omega), e3]
  omega
theorem zb_lor_hi {k r : Nat} (hk : k < 2147483648) (hr : r < 4294967296) : eb_lor ((k * 4294967296 : Nat) : Int) (r : Int) = ((k * 4294967296 + r : Nat) : Int) := by
  unfold eb_lor
  rw [← Int64.toInt_toBitVec, Int64.toBitVec_or]
  have e1 : (Int64.ofInt ((k * 4294967296 : Nat) : Int)).toBitVec = BitVec.ofNat 64 (k * 4294967296) := by
    show BitVec.ofInt 64 _ = _
    rw [BitVec.ofInt_natCast]
  have e2 : (Int64.ofInt (r : Int)).toBitVec = BitVec.ofNat 64 r := by
    show BitVec.ofInt 64 _ = _
    rw [BitVec.ofInt_natCast]
  rw [e1, e2]
  have e3 : (BitVec.ofNat 64 (k * 4294967296) ||| BitVec.ofNat 64 r).toNat = k * 4294967296 + r := by
    rw [BitVec.toNat_or, BitVec.toNat_ofNat, BitVec.toNat_ofNat, Nat.mod_eq_of_lt (by omega), Nat.mod_eq_of_lt (by omega)]
    have := Nat.two_pow_add_eq_or_of_lt (i := 32) (b := r) (by omega) k
    rw [Nat.mul_comm] at this
    rw [Nat.mul_comm k, ← Nat.two_pow_add_eq_or_of_lt (i := 32) (b := r) (by omega) k]
  rw [BitVec.toInt_eq_toNat_of_lt (by rw [e3]; omega), e3]
theorem zb_lshr_hi {x : Int} (h : -9223372036854775808 ≤ x ∧ x < 9223372036854775808) : eb_lshr x 32 = x / 4294967296 := by
  unfold eb_lshr
  have e0 : ((Int32.ofInt 32).toInt64 &&& 63) = (32 : Int64) := by decide
  rw [e0, ← Int64.toInt_toBitVec, Int64.toBitVec_shiftRight]
  have e2 : ((32 : Int64).toBitVec.smod 64) = 32#64 := by decide
  rw [e2]
  have e1 : (Int64.ofInt x).toBitVec = BitVec.ofInt 64 x := rfl
  rw [e1]
  show ((BitVec.ofInt 64 x).sshiftRight (32#64).toNat).toInt = _
  rw [BitVec.toInt_sshiftRight, BitVec.toInt_ofInt_eq_self (by decide) (by simpa using h.1) (by simpa using h.2), Int.shiftRight_eq_div_pow]
  rfl
