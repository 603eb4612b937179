/-! ints and longs as integers: a number stands for its class modulo 2^32, 2^64; w32, w64 give the number in the range -/
def w32 (z : Int) : Int := (z + 2147483648) % 4294967296 - 2147483648
def w64 (z : Int) : Int := (z + 9223372036854775808) % 18446744073709551616 - 9223372036854775808
theorem w32_id {z : Int} (h : -2147483648 ≤ z) (h' : z < 2147483648) : w32 z = z := by
  simp only [w32]; omega
theorem w64_id {z : Int} (h : -9223372036854775808 ≤ z) (h' : z < 9223372036854775808) : w64 z = z := by
  simp only [w64]; omega
theorem w32_lo (z : Int) : -2147483648 ≤ w32 z := by simp only [w32]; omega
theorem w32_hi (z : Int) : w32 z < 2147483648 := by simp only [w32]; omega
theorem w64_lo (z : Int) : -9223372036854775808 ≤ w64 z := by simp only [w64]; omega
theorem w64_hi (z : Int) : w64 z < 9223372036854775808 := by simp only [w64]; omega
theorem w32_w32 (z : Int) : w32 (w32 z) = w32 z := w32_id (w32_lo z) (w32_hi z)
theorem w64_w64 (z : Int) : w64 (w64 z) = w64 z := w64_id (w64_lo z) (w64_hi z)
theorem w64_w32 (z : Int) : w64 (w32 z) = w32 z := w64_id (by have := w32_lo z; omega) (by have := w32_hi z; omega)
theorem w32_w64 (z : Int) : w32 (w64 z) = w32 z := by simp only [w32, w64]; omega
theorem w32_toInt (z : Int) : (Int32.ofInt z).toInt = w32 z := by
  rw [Int32.toInt_ofInt]
  simp only [Int.bmod, w32, Int32.size]
  split <;> omega
theorem w64_toInt (z : Int) : (Int64.ofInt z).toInt = w64 z := by
  rw [Int64.toInt_ofInt]
  simp only [Int.bmod, w64, Int64.size]
  split <;> omega
theorem w32_ofInt (z : Int) : Int32.ofInt (w32 z) = Int32.ofInt z := Int32.toInt_inj.mp (by rw [w32_toInt, w32_toInt, w32_w32])
theorem w64_ofInt (z : Int) : Int64.ofInt (w64 z) = Int64.ofInt z := Int64.toInt_inj.mp (by rw [w64_toInt, w64_toInt, w64_w64])
theorem w32_eq {x y : Int} : Int32.ofInt x = Int32.ofInt y ↔ w32 x = w32 y := by
  rw [← Int32.toInt_inj, w32_toInt, w32_toInt]
theorem w64_eq {x y : Int} : Int64.ofInt x = Int64.ofInt y ↔ w64 x = w64 y := by
  rw [← Int64.toInt_inj, w64_toInt, w64_toInt]
theorem w32_lt {x y : Int} : Int32.ofInt x < Int32.ofInt y ↔ w32 x < w32 y := by
  rw [Int32.lt_iff_toInt_lt, w32_toInt, w32_toInt]
theorem w32_le {x y : Int} : Int32.ofInt x ≤ Int32.ofInt y ↔ w32 x ≤ w32 y := by
  rw [Int32.le_iff_toInt_le, w32_toInt, w32_toInt]
theorem w64_lt {x y : Int} : Int64.ofInt x < Int64.ofInt y ↔ w64 x < w64 y := by
  rw [Int64.lt_iff_toInt_lt, w64_toInt, w64_toInt]
theorem w32_0 {x : Int} : Int32.ofInt x = 0 ↔ w32 x = 0 := by
  rw [show (0 : Int32) = Int32.ofInt 0 from rfl, w32_eq, show w32 0 = 0 from rfl]
theorem w64_0 {x : Int} : Int64.ofInt x = 0 ↔ w64 x = 0 := by
  rw [show (0 : Int64) = Int64.ofInt 0 from rfl, w64_eq, show w64 0 = 0 from rfl]
theorem w32_l0 {x : Int} : Int32.ofInt x < 0 ↔ w32 x < 0 := by
  rw [show (0 : Int32) = Int32.ofInt 0 from rfl, w32_lt, show w32 0 = 0 from rfl]
theorem w32_0l {x : Int} : 0 < Int32.ofInt x ↔ 0 < w32 x := by
  rw [show (0 : Int32) = Int32.ofInt 0 from rfl, w32_lt, show w32 0 = 0 from rfl]
theorem w32_le0 {x : Int} : Int32.ofInt x ≤ 0 ↔ w32 x ≤ 0 := by
  rw [show (0 : Int32) = Int32.ofInt 0 from rfl, w32_le, show w32 0 = 0 from rfl]
theorem w32_0le {x : Int} : 0 ≤ Int32.ofInt x ↔ 0 ≤ w32 x := by
  rw [show (0 : Int32) = Int32.ofInt 0 from rfl, w32_le, show w32 0 = 0 from rfl]
theorem w32_in {i : Int} {n : Nat} : vp_in (Int32.ofInt i) n ↔ 0 ≤ w32 i ∧ w32 i < n := by
  rw [vp_in_iff, w32_toInt]
theorem w32_cl (i : Int) : (Int32.ofInt i).toNatClampNeg = (w32 i).toNat := by
  show (Int32.ofInt i).toInt.toNat = _
  rw [w32_toInt]
/-! what the instructions reckon -/
def i_div (x y : Int) : Int := (Int32.ofInt x / Int32.ofInt y).toInt
def i_rem (x y : Int) : Int := (Int32.ofInt x - Int32.ofInt x / Int32.ofInt y * Int32.ofInt y).toInt
def i_and (x y : Int) : Int := (Int32.ofInt x &&& Int32.ofInt y).toInt
def i_or (x y : Int) : Int := (Int32.ofInt x ||| Int32.ofInt y).toInt
def i_xor (x y : Int) : Int := (Int32.ofInt x ^^^ Int32.ofInt y).toInt
def i_shl (x y : Int) : Int := (Int32.ofInt x <<< (Int32.ofInt y &&& 31)).toInt
def i_shr (x y : Int) : Int := (Int32.ofInt x >>> (Int32.ofInt y &&& 31)).toInt
def i_ushr (x y : Int) : Int := ((Int32.ofInt x).toUInt32 >>> ((Int32.ofInt y).toUInt32 &&& Int32.toUInt32 31)).toInt32.toInt
def i_2c (x : Int) : Int := ((Int32.ofInt x).toUInt32 % 65536).toInt32.toInt
def i_2b (x : Int) : Int := (Int32.ofInt x).toInt8.toInt32.toInt
def i_nar (ty : FieldType) (x : Int) : Int := (vp_nar ty (Int32.ofInt x)).toInt
def l_div (x y : Int) : Int := (Int64.ofInt x / Int64.ofInt y).toInt
def l_rem (x y : Int) : Int := (Int64.ofInt x - Int64.ofInt x / Int64.ofInt y * Int64.ofInt y).toInt
def l_and (x y : Int) : Int := (Int64.ofInt x &&& Int64.ofInt y).toInt
def l_or (x y : Int) : Int := (Int64.ofInt x ||| Int64.ofInt y).toInt
def l_xor (x y : Int) : Int := (Int64.ofInt x ^^^ Int64.ofInt y).toInt
def l_shl (x y : Int) : Int := (Int64.ofInt x <<< ((Int32.ofInt y).toInt64 &&& 63)).toInt
def l_shr (x y : Int) : Int := (Int64.ofInt x >>> ((Int32.ofInt y).toInt64 &&& 63)).toInt
def l_ushr (x y : Int) : Int := ((Int64.ofInt x).toUInt64 >>> ((Int32.ofInt y).toInt64.toUInt64 &&& Int64.toUInt64 63)).toInt64.toInt
def l_cmp (x y : Int) : Int := if w64 y < w64 x then 1 else if w64 x = w64 y then 0 else -1
theorem l_cmp_eq (x y : Int) : lg_cmp (Int64.ofInt x) (Int64.ofInt y) = Int32.ofInt (l_cmp x y) := by
  simp only [lg_cmp, l_cmp, gt_iff_lt, w64_lt, w64_eq]
  split
  · rfl
  · split <;> rfl
theorem i_2l_eq (x : Int) : (Int32.ofInt x).toInt64 = Int64.ofInt (w32 x) := Int64.toInt_inj.mp (by rw [Int32.toInt_toInt64, w32_toInt, w64_toInt, w64_w32])
