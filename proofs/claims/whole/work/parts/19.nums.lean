-- NUMBERS: what the machine's whole numbers are within their bounds
theorem ofI_nat (n : Nat) : Int32.ofInt (n : Int) = Int32.ofNat n := rfl
theorem zdiv_nn {x y : Int} (h0 : 0 ≤ x) (h1 : x < 2147483648) (h2 : 0 < y) (h3 : y < 2147483648) : zdiv x y = x / y := by
  unfold zdiv
  have hy : (Int32.ofInt y).toInt = y := Int32.toInt_ofInt_of_le (by omega) (by omega)
  have hx : (Int32.ofInt x).toInt = x := Int32.toInt_ofInt_of_le (by omega) (by omega)
  rw [Int32.toInt_div_of_ne_right, hx, hy, Int.tdiv_eq_ediv_of_nonneg h0]
  intro e
  rw [e] at hy
  have : ((-1 : Int32)).toInt = -1 := rfl
  omega
theorem zrem_nn {x y : Int} (h0 : 0 ≤ x) (h1 : x < 2147483648) (h2 : 0 < y) (h3 : y < 2147483648) : zrem x y = x % y := by
  unfold zrem
  have hy : (Int32.ofInt y).toInt = y := Int32.toInt_ofInt_of_le (by omega) (by omega)
  have hx : (Int32.ofInt x).toInt = x := Int32.toInt_ofInt_of_le (by omega) (by omega)
  rw [rem_toInt, hx, hy, Int.tmod_eq_emod_of_nonneg h0]
theorem zldiv_nn {x y : Int} (h0 : 0 ≤ x) (h1 : x < 9223372036854775808) (h2 : 0 < y) (h3 : y < 9223372036854775808) : zldiv x y = x / y := by
  unfold zldiv
  have hy : (Int64.ofInt y).toInt = y := Int64.toInt_ofInt_of_le (by omega) (by omega)
  have hx : (Int64.ofInt x).toInt = x := Int64.toInt_ofInt_of_le (by omega) (by omega)
  rw [Int64.toInt_div_of_ne_right, hx, hy, Int.tdiv_eq_ediv_of_nonneg h0]
  intro e
  rw [e] at hy
  have : ((-1 : Int64)).toInt = -1 := rfl
  omega
theorem zlrem_nn {x y : Int} (h0 : 0 ≤ x) (h1 : x < 9223372036854775808) (h2 : 0 < y) (h3 : y < 9223372036854775808) : zlrem x y = x % y := by
  have e1 := zldiv_nn h0 h1 h2 h3
  unfold zldiv at e1
  have e2 : Int64.ofInt x / Int64.ofInt y = Int64.ofInt (x / y) := by
    rw [← e1, Int64.ofInt_toInt]
  unfold zlrem
  rw [e2, ← Int64.ofInt_mul, ← Int64.ofInt_sub]
  have e3 : x - x / y * y = x % y := by
    have := Int.mul_ediv_add_emod x y
    rw [Int.mul_comm] at this
    omega
  rw [e3]
  have := Int.emod_nonneg x (by omega : y ≠ 0)
  have := Int.emod_lt_of_pos x h2
  exact Int64.toInt_ofInt_of_le (by omega) (by omega)
theorem zland_m {y : Int} (h0 : 0 ≤ y) (h1 : y < 9223372036854775808) : zland y 2147483647 = y % 2147483648 := by
  unfold zland
  have e : Int64.ofInt y &&& Int64.ofInt 2147483647 = Int64.ofInt (y % 2147483648) := by
    apply Int64.toBitVec.inj
    rw [Int64.toBitVec_and, Int64.toBitVec_ofInt, Int64.toBitVec_ofInt, Int64.toBitVec_ofInt]
    apply BitVec.eq_of_toNat_eq
    rw [BitVec.toNat_and, BitVec.toNat_ofInt, BitVec.toNat_ofInt, BitVec.toNat_ofInt]
    have a1 : (y % ((2 ^ 64 : Nat) : Int)).toNat = y.toNat := by
      rw [Int.emod_eq_of_lt h0 (by omega)]
    have a2 : ((2147483647 : Int) % ((2 ^ 64 : Nat) : Int)).toNat = 2 ^ 31 - 1 := by decide
    rw [a1, a2, Nat.and_two_pow_sub_one_eq_mod]
    have a3 : 0 ≤ y % 2147483648 := Int.emod_nonneg y (by omega)
    have a4 : y % 2147483648 < 2147483648 := Int.emod_lt_of_pos y (by omega)
    rw [Int.emod_eq_of_lt a3 (by omega)]
    omega
  rw [e]
  have a3 : 0 ≤ y % 2147483648 := Int.emod_nonneg y (by omega)
  have a4 : y % 2147483648 < 2147483648 := Int.emod_lt_of_pos y (by omega)
  exact Int64.toInt_ofInt_of_le (by omega) (by omega)
theorem zlcmp_r {x y : Int} (h0 : -9223372036854775808 ≤ x) (h1 : x ≤ 9223372036854775807) (h2 : -9223372036854775808 ≤ y) (h3 : y ≤ 9223372036854775807) : zlcmp x y = if y < x then 1 else if x = y then 0 else -1 := by
  unfold zlcmp lg_cmp
  have hx : (Int64.ofInt x).toInt = x := Int64.toInt_ofInt_of_le (by omega) (by omega)
  have hy : (Int64.ofInt y).toInt = y := Int64.toInt_ofInt_of_le (by omega) (by omega)
  have e1 : (Int64.ofInt x > Int64.ofInt y) ↔ y < x := by
    show Int64.ofInt y < Int64.ofInt x ↔ _
    rw [Int64.lt_iff_toInt_lt, hx, hy]
  have e2 : (Int64.ofInt x = Int64.ofInt y) ↔ x = y := by
    rw [← Int64.toInt_inj, hx, hy]
  by_cases a : y < x
  · rw [if_pos (e1.mpr a), if_pos a]
    rfl
  · rw [if_neg (fun q => a (e1.mp q)), if_neg a]
    by_cases b : x = y
    · rw [if_pos (e2.mpr b), if_pos b]
      rfl
    · rw [if_neg (fun q => b (e2.mp q)), if_neg b]
      rfl
