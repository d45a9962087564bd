/-! CHANCE: the numbers drawn -/
theorem lcg_r (v : Int64) (b : Int32) (h0 : 0 ≤ v.toInt) (h1 : v.toInt < 32768) (hb : 1 ≤ b.toInt ∧ b.toInt ≤ 601) : v.toInt32 - v.toInt32 / b * b = (v - v / b.toInt64 * b.toInt64).toInt32 := by
  have e : v.toInt32.toInt = v.toInt := by rw [Int64.toInt_toInt32]; exact Int.bmod_eq_of_le (by omega) (by omega)
  have eb : b.toInt64.toInt = b.toInt := Int32.toInt_toInt64 b
  have d0 : 0 ≤ v.toInt.tdiv b.toInt := Int.tdiv_nonneg h0 (by omega)
  have d1 : v.toInt.tdiv b.toInt ≤ v.toInt := Int.tdiv_le_self _ h0
  have q : (v / b.toInt64).toInt32 = v.toInt32 / b := by
    apply Int32.toInt_inj.mp
    rw [Int64.toInt_toInt32, Int64.toInt_div, Int32.toInt_div, e, eb, Int.bmod_eq_of_le (n := v.toInt.tdiv b.toInt) (by omega) (by omega), Int.bmod_eq_of_le (n := v.toInt.tdiv b.toInt) (by omega) (by omega)]
  rw [Int64.toInt32_sub, Int64.toInt32_mul, q, Int32.toInt32_toInt64]
theorem lcg_v (x : Int64) : 0 ≤ ((x &&& 2147483647) / 65536).toInt ∧ ((x &&& 2147483647) / 65536).toInt < 32768 := by
  have e2 : (x &&& 2147483647).toInt = ((x.toBitVec.toNat % 2147483648 : Nat) : Int) := by
    have a : (x &&& 2147483647).toBitVec.toNat = x.toBitVec.toNat % 2147483648 := by
      rw [Int64.toBitVec_and, BitVec.toNat_and]
      exact Nat.and_two_pow_sub_one_eq_mod _ 31
    show (x &&& 2147483647).toBitVec.toInt = _
    rw [BitVec.toInt_eq_toNat_bmod, a]
    have : x.toBitVec.toNat % 2147483648 < 2147483648 := Nat.mod_lt _ (by decide)
    exact Int.bmod_eq_of_le (by omega) (by omega)
  have hm : x.toBitVec.toNat % 2147483648 < 2147483648 := Nat.mod_lt _ (by decide)
  generalize x.toBitVec.toNat % 2147483648 = n at *
  have i : (65536 : Int64).toInt = 65536 := by decide
  rw [Int64.toInt_div, e2, i, Int.tdiv_eq_ediv_of_nonneg (by omega), Int.bmod_eq_of_le (by omega) (by omega)]
  omega
