/-! NUMBERS: Int in its range beside Int32 and Int64 -/
theorem eg_bm (n : Int) : n.bmod 4294967296 = eg_wi n := by
  unfold Int.bmod eg_wi
  simp only
  split <;> omega
theorem eg_bml (n : Int) : n.bmod 18446744073709551616 = eg_wl n := by
  unfold Int.bmod eg_wl
  simp only
  split <;> omega
theorem eg_wi_rg (n : Int) : -2147483648 ≤ eg_wi n ∧ eg_wi n < 2147483648 := by unfold eg_wi; omega
theorem eg_wl_rg (n : Int) : -9223372036854775808 ≤ eg_wl n ∧ eg_wl n < 9223372036854775808 := by unfold eg_wl; omega
theorem eg_wi_id {n : Int} (h : -2147483648 ≤ n) (h2 : n < 2147483648) : eg_wi n = n := by unfold eg_wi; omega
theorem eg_wl_id {n : Int} (h : -9223372036854775808 ≤ n) (h2 : n < 9223372036854775808) : eg_wl n = n := by unfold eg_wl; omega
theorem eg_t32 (n : Int) : (Int32.ofInt n).toInt = eg_wi n := by rw [Int32.toInt_ofInt]; exact eg_bm n
theorem eg_t64 (n : Int) : (Int64.ofInt n).toInt = eg_wl n := by rw [Int64.toInt_ofInt]; exact eg_bml n
theorem eg_t32c {n : Int} (h : -2147483648 ≤ n ∧ n < 2147483648) : (Int32.ofInt n).toInt = n := by rw [eg_t32, eg_wi_id h.1 h.2]
theorem eg_t64c {n : Int} (h : -9223372036854775808 ≤ n ∧ n < 9223372036854775808) : (Int64.ofInt n).toInt = n := by rw [eg_t64, eg_wl_id h.1 h.2]
theorem eg_o32 (n : Int) : Int32.ofInt (eg_wi n) = Int32.ofInt n := Int32.toInt_inj.mp (by rw [eg_t32, eg_t32, eg_wi_id (eg_wi_rg n).1 (eg_wi_rg n).2])
theorem eg_o64 (n : Int) : Int64.ofInt (eg_wl n) = Int64.ofInt n := Int64.toInt_inj.mp (by rw [eg_t64, eg_t64, eg_wl_id (eg_wl_rg n).1 (eg_wl_rg n).2])
theorem eg_add32 (x y : Int) : Int32.ofInt (eg_wi (x + y)) = Int32.ofInt x + Int32.ofInt y := Int32.toInt_inj.mp (by
  rw [Int32.toInt_add, eg_t32, eg_t32, eg_t32, show (2 ^ 32 : Nat) = 4294967296 from rfl, eg_bm]; unfold eg_wi; omega)
theorem eg_sub32 (x y : Int) : Int32.ofInt (eg_wi (x - y)) = Int32.ofInt x - Int32.ofInt y := Int32.toInt_inj.mp (by
  rw [Int32.toInt_sub, eg_t32, eg_t32, eg_t32, show (2 ^ 32 : Nat) = 4294967296 from rfl, eg_bm]; unfold eg_wi; omega)
theorem eg_mulm (x y : Int) : (x.bmod 4294967296 * y.bmod 4294967296).bmod 4294967296 = (x * y).bmod 4294967296 := by rw [Int.bmod_mul_bmod, Int.mul_bmod_bmod]
theorem eg_mulml (x y : Int) : (x.bmod 18446744073709551616 * y.bmod 18446744073709551616).bmod 18446744073709551616 = (x * y).bmod 18446744073709551616 := by rw [Int.bmod_mul_bmod, Int.mul_bmod_bmod]
theorem eg_mul32 (x y : Int) : Int32.ofInt (eg_wi (x * y)) = Int32.ofInt x * Int32.ofInt y := Int32.toInt_inj.mp (by
  rw [eg_o32, Int32.toInt_mul, Int32.toInt_ofInt, Int32.toInt_ofInt, Int32.toInt_ofInt]
  exact (eg_mulm x y).symm)
theorem eg_neg32 (x : Int) : Int32.ofInt (eg_wi (-x)) = -Int32.ofInt x := by rw [eg_o32, Int32.neg_ofInt]
theorem eg_div32 {x y : Int} (hx : -2147483648 ≤ x ∧ x < 2147483648) (hy : -2147483648 ≤ y ∧ y < 2147483648) : Int32.ofInt (eg_wi (x.tdiv y)) = Int32.ofInt x / Int32.ofInt y := Int32.toInt_inj.mp (by
  rw [eg_o32, Int32.toInt_div, eg_t32c hx, eg_t32c hy, eg_t32, show (2 ^ 32 : Nat) = 4294967296 from rfl, eg_bm])
theorem eg_add64 (x y : Int) : Int64.ofInt (eg_wl (x + y)) = Int64.ofInt x + Int64.ofInt y := Int64.toInt_inj.mp (by
  rw [Int64.toInt_add, eg_t64, eg_t64, eg_t64, show (2 ^ 64 : Nat) = 18446744073709551616 from rfl, eg_bml]; unfold eg_wl; omega)
theorem eg_sub64 (x y : Int) : Int64.ofInt (eg_wl (x - y)) = Int64.ofInt x - Int64.ofInt y := Int64.toInt_inj.mp (by
  rw [Int64.toInt_sub, eg_t64, eg_t64, eg_t64, show (2 ^ 64 : Nat) = 18446744073709551616 from rfl, eg_bml]; unfold eg_wl; omega)
theorem eg_mul64 (x y : Int) : Int64.ofInt (eg_wl (x * y)) = Int64.ofInt x * Int64.ofInt y := Int64.toInt_inj.mp (by
  rw [eg_o64, Int64.toInt_mul, Int64.toInt_ofInt, Int64.toInt_ofInt, Int64.toInt_ofInt]
  exact (eg_mulml x y).symm)
theorem eg_neg64 (x : Int) : Int64.ofInt (eg_wl (-x)) = -Int64.ofInt x := by rw [eg_o64, Int64.neg_ofInt]
theorem eg_div64 {x y : Int} (hx : -9223372036854775808 ≤ x ∧ x < 9223372036854775808) (hy : -9223372036854775808 ≤ y ∧ y < 9223372036854775808) : Int64.ofInt (eg_wl (x.tdiv y)) = Int64.ofInt x / Int64.ofInt y := Int64.toInt_inj.mp (by
  rw [eg_o64, Int64.toInt_div, eg_t64c hx, eg_t64c hy, eg_t64, show (2 ^ 64 : Nat) = 18446744073709551616 from rfl, eg_bml])
theorem eg_rem32 {x y : Int} (hx : -2147483648 ≤ x ∧ x < 2147483648) (hy : -2147483648 ≤ y ∧ y < 2147483648) : Int32.ofInt (eg_wi (x - eg_wi (x.tdiv y) * y)) = Int32.ofInt x - Int32.ofInt x / Int32.ofInt y * Int32.ofInt y := by
  rw [eg_sub32, ← eg_div32 hx hy, ← eg_mul32, eg_o32]
theorem eg_rem64 {x y : Int} (hx : -9223372036854775808 ≤ x ∧ x < 9223372036854775808) (hy : -9223372036854775808 ≤ y ∧ y < 9223372036854775808) : Int64.ofInt (eg_wl (x - eg_wl (x.tdiv y) * y)) = Int64.ofInt x - Int64.ofInt x / Int64.ofInt y * Int64.ofInt y := by
  rw [eg_sub64, ← eg_div64 hx hy, ← eg_mul64, eg_o64]
theorem eg_eq32 {x y : Int} (hx : -2147483648 ≤ x ∧ x < 2147483648) (hy : -2147483648 ≤ y ∧ y < 2147483648) : Int32.ofInt x = Int32.ofInt y ↔ x = y := by rw [← Int32.toInt_inj, eg_t32c hx, eg_t32c hy]
theorem eg_lt32 {x y : Int} (hx : -2147483648 ≤ x ∧ x < 2147483648) (hy : -2147483648 ≤ y ∧ y < 2147483648) : Int32.ofInt x < Int32.ofInt y ↔ x < y := by rw [Int32.lt_iff_toInt_lt, eg_t32c hx, eg_t32c hy]
theorem eg_le32 {x y : Int} (hx : -2147483648 ≤ x ∧ x < 2147483648) (hy : -2147483648 ≤ y ∧ y < 2147483648) : Int32.ofInt x ≤ Int32.ofInt y ↔ x ≤ y := by rw [Int32.le_iff_toInt_le, eg_t32c hx, eg_t32c hy]
theorem eg_cmp64 {x y : Int} (hx : -9223372036854775808 ≤ x ∧ x < 9223372036854775808) (hy : -9223372036854775808 ≤ y ∧ y < 9223372036854775808) : Int32.ofInt (if y < x then 1 else if x = y then 0 else -1) = lg_cmp (Int64.ofInt x) (Int64.ofInt y) := by
  unfold lg_cmp
  have e1 : (Int64.ofInt x > Int64.ofInt y) ↔ y < x := by rw [gt_iff_lt, Int64.lt_iff_toInt_lt, eg_t64c hx, eg_t64c hy]
  have e2 : (Int64.ofInt x = Int64.ofInt y) ↔ x = y := by rw [← Int64.toInt_inj, eg_t64c hx, eg_t64c hy]
  by_cases h1 : y < x
  · rw [if_pos h1, if_pos (e1.mpr h1)]; rfl
  · rw [if_neg h1, if_neg (fun z => h1 (e1.mp z))]
    by_cases h2 : x = y
    · rw [if_pos h2, if_pos (e2.mpr h2)]; rfl
    · rw [if_neg h2, if_neg (fun z => h2 (e2.mp z))]; rfl
theorem eg_i2l {x : Int} (hx : -2147483648 ≤ x ∧ x < 2147483648) : (Int32.ofInt x).toInt64 = Int64.ofInt x := Int64.toInt_inj.mp (by rw [Int32.toInt_toInt64, eg_t32c hx, eg_t64c (by omega)])
theorem eg_l2i (x : Int) : (Int64.ofInt x).toInt32 = Int32.ofInt (eg_wi x) := by rw [eg_o32, Int64.toInt32_ofInt]
theorem eg_i2b (x : Int) : (Int32.ofInt x).toInt8.toInt32 = Int32.ofInt (eg_wb x) := Int32.toInt_inj.mp (by
  rw [Int8.toInt_toInt32, Int32.toInt_toInt8, eg_t32, eg_t32c (by unfold eg_wb; omega), show (2 ^ 8 : Nat) = 256 from rfl]
  unfold Int.bmod eg_wb eg_wi
  simp only
  split <;> omega)
theorem eg_i2s (x : Int) : (Int32.ofInt x).toInt16.toInt32 = Int32.ofInt (eg_ws x) := Int32.toInt_inj.mp (by
  rw [Int16.toInt_toInt32, Int32.toInt_toInt16, eg_t32, eg_t32c (by unfold eg_ws; omega), show (2 ^ 16 : Nat) = 65536 from rfl]
  unfold Int.bmod eg_ws eg_wi
  simp only
  split <;> omega)
theorem eg_i2c (x : Int) : ((Int32.ofInt x).toUInt32 % 65536).toInt32 = Int32.ofInt (x % 65536) := by
  rw [pk_char]
  have h : (Int32.ofInt x).toBitVec.toNat % 65536 = (x % 65536).toNat := by
    rw [Int32.toBitVec_ofInt, BitVec.toNat_ofInt]
    have : (x % ((2 ^ 32 : Nat) : Int)).toNat % 65536 = (x % 65536).toNat := by
      rw [show ((2 ^ 32 : Nat) : Int) = 4294967296 from rfl]
      omega
    exact this
  rw [h]
  unfold nI
  rw [← Int32.ofInt_eq_ofNat]
  congr 1
  omega
theorem eg_cl32 {x : Int} (hx : -2147483648 ≤ x ∧ x < 2147483648) : (Int32.ofInt x).toNatClampNeg = x.toNat := Int32.toNatClampNeg_ofInt_of_le hx.1 hx.2
theorem eg_in32 {x : Int} {n : Nat} (h0 : 0 ≤ x) (h1 : x < (n : Int)) (hn : n < 2147483648) : vp_in (Int32.ofInt x) n := vp_in_iff.mpr (by rw [eg_t32c ⟨by omega, by omega⟩]; exact ⟨h0, h1⟩)
theorem eg_narB (x : Int) : vp_nar .byte (Int32.ofInt x) = Int32.ofInt (eg_wb x) := by rw [vp_nar_byte, eg_i2b]
theorem eg_narS (x : Int) : vp_nar .short (Int32.ofInt x) = Int32.ofInt (eg_ws x) := by rw [vp_nar_short, eg_i2s]
theorem eg_narZ {x : Int} (h : x = 0 ∨ x = 1) : narrow .boolean (.int (Int32.ofInt x)) = .int (Int32.ofInt x) := by rcases h with rfl | rfl <;> rfl
theorem eg_fitZ {x : Int} (h : x = 0 ∨ x = 1) : fits .boolean (.int (Int32.ofInt x)) = true := by rcases h with rfl | rfl <;> rfl
theorem eg_narZ' {x : Int} (h : x = 0 ∨ x = 1) : vp_nar .boolean (Int32.ofInt x) = Int32.ofInt x := by rcases h with rfl | rfl <;> rfl
theorem eg_narBr {x : Int} (h : -128 ≤ x ∧ x < 128) : narrow .byte (.int (Int32.ofInt x)) = .int (Int32.ofInt x) := by
  show Value.int (Int32.ofInt x).toInt8.toInt32 = _
  rw [eg_i2b, show eg_wb x = x by unfold eg_wb; omega]
theorem eg_narCr {x : Int} (h : 0 ≤ x ∧ x < 65536) : narrow .char (.int (Int32.ofInt x)) = .int (Int32.ofInt x) := by
  have e : Int32.ofInt x = nI x.toNat := by
    unfold nI
    rw [← Int32.ofInt_eq_ofNat]
    congr 1
    omega
  rw [e]
  exact (pk_charN (by omega)).1
theorem eg_fitB {x : Int} (h : -128 ≤ x ∧ x < 128) : fits .byte (.int (Int32.ofInt x)) = true := by
  show (decide (-128 ≤ Int32.ofInt x) && decide (Int32.ofInt x ≤ 127)) = true
  rw [Bool.and_eq_true, decide_eq_true_eq, decide_eq_true_eq, Int32.le_iff_toInt_le, Int32.le_iff_toInt_le, eg_t32c (by omega)]
  exact ⟨h.1, by show x ≤ 127; omega⟩
