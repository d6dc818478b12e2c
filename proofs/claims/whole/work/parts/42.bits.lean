/-! bits of a long -/
theorem Z_of (x : BitVec 64) : ∃ q : Int, x.toInt = x.toNat + 18446744073709551616 * q := by
  rw [BitVec.toInt_eq_toNat_cond]
  split
  · exact ⟨0, by omega⟩
  · exact ⟨-1, by omega⟩
theorem B1 (y : Int) : (BitVec.ofInt 64 y).toNat = (y % 18446744073709551616).toNat := by rw [BitVec.toNat_ofInt]; rfl
theorem bit1 (y : Int) : ia64 y 1 = 0 ↔ y % 2 = 0 := by
  have e : ia64 y 1 = (BitVec.ofInt 64 y &&& 1#64).toInt := rfl
  have t : (BitVec.ofInt 64 y &&& 1#64).toNat = (y % 2).toNat := by
    rw [BitVec.toNat_and, B1]
    show _ &&& 1 = _
    rw [Nat.and_one_is_mod]
    omega
  rw [e, BitVec.toInt_eq_toNat_of_lt (by rw [t]; omega), t]
  omega
theorem bitm {Z q : Int} {N k : Nat} (hk : k < 40) (e : Z = N + 18446744073709551616 * q) : (Z / 2 ^ k) % 2 = ((N / 2 ^ k % 2 : Nat) : Int) := by
  obtain ⟨j, hj⟩ : ∃ j, 64 = k + (1 + j) := ⟨63 - k, by omega⟩
  have h1 : (18446744073709551616 : Int) = 2 ^ k * (2 * 2 ^ j) := by
    have h2 : (18446744073709551616 : Int) = 2 ^ 64 := by decide
    rw [h2, hj, Int.pow_add, Int.pow_add]
    rfl
  have h3 : (2 : Int) ^ k ≠ 0 := Int.ne_of_gt (Int.pow_pos (by decide))
  rw [e, h1, Int.mul_assoc, Int.add_mul_ediv_left _ _ h3, Int.mul_assoc, Int.add_mul_emod_self_left]
  rw [Int.natCast_emod, Int.natCast_ediv, Int.natCast_pow]
  rfl

