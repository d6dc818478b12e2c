/-! numbers: the small machine's Int beside the machine's Int32 and Int64 -/
def in32 (x : Int) : Prop := -2147483648 ≤ x ∧ x < 2147483648
def in64 (x : Int) : Prop := -9223372036854775808 ≤ x ∧ x < 9223372036854775808
abbrev I3 (x : Int) : Int32 := Int32.ofInt x
abbrev I6 (x : Int) : Int64 := Int64.ofInt x
theorem w32_in (x : Int) : in32 (w32 x) := by
  unfold w32 in32
  have h1 := Int.le_bmod (x := x) (m := 4294967296) (by omega)
  have h2 := Int.bmod_lt (x := x) (m := 4294967296) (by omega)
  omega
theorem w64_in (x : Int) : in64 (w64 x) := by
  unfold w64 in64
  have h1 := Int.le_bmod (x := x) (m := 18446744073709551616) (by omega)
  have h2 := Int.bmod_lt (x := x) (m := 18446744073709551616) (by omega)
  omega
theorem w32_id {x : Int} (h : in32 x) : w32 x = x := by
  unfold w32 in32 at *
  exact Int.bmod_eq_of_le (by omega) (by omega)
theorem w64_id {x : Int} (h : in64 x) : w64 x = x := by
  unfold w64 in64 at *
  exact Int.bmod_eq_of_le (by omega) (by omega)
theorem I3_to {x : Int} (h : in32 x) : (I3 x).toInt = x := by
  show (Int32.ofInt x).toInt = x
  rw [Int32.toInt_ofInt]
  exact w32_id h
theorem I6_to {x : Int} (h : in64 x) : (I6 x).toInt = x := by
  show (Int64.ofInt x).toInt = x
  rw [Int64.toInt_ofInt]
  exact w64_id h
theorem I3_w (x : Int) : I3 (w32 x) = I3 x := by
  apply Int32.toInt_inj.mp
  show (Int32.ofInt _).toInt = (Int32.ofInt _).toInt
  rw [Int32.toInt_ofInt, Int32.toInt_ofInt]
  exact Int.bmod_bmod
theorem I6_w (x : Int) : I6 (w64 x) = I6 x := by
  apply Int64.toInt_inj.mp
  show (Int64.ofInt _).toInt = (Int64.ofInt _).toInt
  rw [Int64.toInt_ofInt, Int64.toInt_ofInt]
  exact Int.bmod_bmod
theorem I3_of (z : Int32) : I3 z.toInt = z := Int32.ofInt_toInt z
theorem I6_of (z : Int64) : I6 z.toInt = z := Int64.ofInt_toInt z
theorem in32_to (z : Int32) : in32 z.toInt := ⟨Int32.le_toInt z, Int32.toInt_lt z⟩
theorem in64_to (z : Int64) : in64 z.toInt := ⟨Int64.le_toInt z, Int64.toInt_lt z⟩
theorem I3_add (x y : Int) : I3 x + I3 y = I3 (w32 (x + y)) := by rw [I3_w]; exact (Int32.ofInt_add x y).symm
theorem I3_sub (x y : Int) : I3 x - I3 y = I3 (w32 (x - y)) := by rw [I3_w]; exact (Int32.ofInt_sub x y).symm
theorem I3_mul (x y : Int) : I3 x * I3 y = I3 (w32 (x * y)) := by rw [I3_w]; exact (Int32.ofInt_mul x y).symm
theorem I3_neg (x : Int) : - I3 x = I3 (w32 (-x)) := by rw [I3_w]; exact (Int32.ofInt_neg x).symm
theorem I6_add (x y : Int) : I6 x + I6 y = I6 (w64 (x + y)) := by rw [I6_w]; exact (Int64.ofInt_add x y).symm
theorem I6_sub (x y : Int) : I6 x - I6 y = I6 (w64 (x - y)) := by rw [I6_w]; exact (Int64.ofInt_sub x y).symm
theorem I6_mul (x y : Int) : I6 x * I6 y = I6 (w64 (x * y)) := by rw [I6_w]; exact (Int64.ofInt_mul x y).symm
theorem I3_div {x y : Int} (hx : in32 x) (hy : in32 y) : I3 x / I3 y = I3 (w32 (Int.tdiv x y)) := by
  apply Int32.toInt_inj.mp
  rw [Int32.toInt_div, I3_to hx, I3_to hy, I3_to (w32_in _)]
  rfl
theorem I6_div {x y : Int} (hx : in64 x) (hy : in64 y) : I6 x / I6 y = I6 (w64 (Int.tdiv x y)) := by
  apply Int64.toInt_inj.mp
  rw [Int64.toInt_div, I6_to hx, I6_to hy, I6_to (w64_in _)]
  rfl
theorem tmod_in32 {x y : Int} (hx : in32 x) (hy : y ≠ 0) : in32 (Int.tmod x y) := by
  unfold in32 at *
  have h1 : (Int.tmod x y).natAbs ≤ x.natAbs := by rw [Int.natAbs_tmod]; exact Nat.mod_le _ _
  have h2 : 0 ≤ x → 0 ≤ Int.tmod x y := fun h => Int.tmod_nonneg y h
  have h3 : x ≤ 0 → Int.tmod x y ≤ 0 := fun h => by
    have := Int.tmod_nonneg y (show 0 ≤ -x by omega)
    rw [Int.neg_tmod] at this
    omega
  omega
theorem tmod_in64 {x y : Int} (hx : in64 x) (hy : y ≠ 0) : in64 (Int.tmod x y) := by
  unfold in64 at *
  have h1 : (Int.tmod x y).natAbs ≤ x.natAbs := by rw [Int.natAbs_tmod]; exact Nat.mod_le _ _
  have h2 : 0 ≤ x → 0 ≤ Int.tmod x y := fun h => Int.tmod_nonneg y h
  have h3 : x ≤ 0 → Int.tmod x y ≤ 0 := fun h => by
    have := Int.tmod_nonneg y (show 0 ≤ -x by omega)
    rw [Int.neg_tmod] at this
    omega
  omega
theorem I3_rem {x y : Int} (hx : in32 x) (hy : in32 y) (h0 : y ≠ 0) : I3 x - I3 x / I3 y * I3 y = I3 (Int.tmod x y) := by
  rw [I3_div hx hy, I3_mul, I3_sub]
  apply Int32.toInt_inj.mp
  show (Int32.ofInt _).toInt = (Int32.ofInt _).toInt
  rw [Int32.toInt_ofInt, Int32.toInt_ofInt]
  unfold w32
  have e : Int.tmod x y = x - Int.tdiv x y * y := by have := Int.tmod_add_mul_tdiv x y; rw [Int.mul_comm] at this; omega
  rw [e]
  rw [Int.bmod_bmod, Int.sub_bmod_bmod, Int.sub_bmod, Int.bmod_mul_bmod, ← Int.sub_bmod]
theorem I6_rem {x y : Int} (hx : in64 x) (hy : in64 y) (h0 : y ≠ 0) : I6 x - I6 x / I6 y * I6 y = I6 (Int.tmod x y) := by
  rw [I6_div hx hy, I6_mul, I6_sub]
  apply Int64.toInt_inj.mp
  show (Int64.ofInt _).toInt = (Int64.ofInt _).toInt
  rw [Int64.toInt_ofInt, Int64.toInt_ofInt]
  unfold w64
  have e : Int.tmod x y = x - Int.tdiv x y * y := by have := Int.tmod_add_mul_tdiv x y; rw [Int.mul_comm] at this; omega
  rw [e]
  rw [Int.bmod_bmod, Int.sub_bmod_bmod, Int.sub_bmod, Int.bmod_mul_bmod, ← Int.sub_bmod]
theorem I3_eq {x y : Int} (hx : in32 x) (hy : in32 y) : I3 x = I3 y ↔ x = y := by rw [← Int32.toInt_inj, I3_to hx, I3_to hy]
theorem I3_lt {x y : Int} (hx : in32 x) (hy : in32 y) : I3 x < I3 y ↔ x < y := by rw [Int32.lt_iff_toInt_lt, I3_to hx, I3_to hy]
theorem I3_le {x y : Int} (hx : in32 x) (hy : in32 y) : I3 x ≤ I3 y ↔ x ≤ y := by rw [Int32.le_iff_toInt_le, I3_to hx, I3_to hy]
theorem I6_eq {x y : Int} (hx : in64 x) (hy : in64 y) : I6 x = I6 y ↔ x = y := by rw [← Int64.toInt_inj, I6_to hx, I6_to hy]
theorem I6_lt {x y : Int} (hx : in64 x) (hy : in64 y) : I6 x < I6 y ↔ x < y := by rw [Int64.lt_iff_toInt_lt, I6_to hx, I6_to hy]
theorem in32_0 : in32 0 := ⟨by decide, by decide⟩
theorem I3_0 : I3 0 = 0 := rfl
theorem I3_cl {x : Int} (hx : in32 x) : (I3 x).toNatClampNeg = x.toNat := by
  show (I3 x).toInt.toNat = _
  rw [I3_to hx]
theorem I3_vp {x : Int} (hx : in32 x) {n : Nat} : vp_in (I3 x) n ↔ 0 ≤ x ∧ x < n := by rw [vp_in_iff, I3_to hx]
theorem I3_and (x y : Int) : I3 x &&& I3 y = I3 (ia32 x y) := (I3_of _).symm
theorem I3_or (x y : Int) : I3 x ||| I3 y = I3 (io32 x y) := (I3_of _).symm
theorem I3_xor (x y : Int) : I3 x ^^^ I3 y = I3 (ix32 x y) := (I3_of _).symm
theorem I6_and (x y : Int) : I6 x &&& I6 y = I6 (ia64 x y) := (I6_of _).symm
theorem I6_or (x y : Int) : I6 x ||| I6 y = I6 (io64 x y) := (I6_of _).symm
theorem I3_i2l {x : Int} (hx : in32 x) : (I3 x).toInt64 = I6 x := by
  apply Int64.toInt_inj.mp
  rw [Int32.toInt_toInt64, I3_to hx, I6_to ⟨by have := hx.1; omega, by have := hx.2; omega⟩]
theorem I6_l2i {x : Int} (hx : in64 x) : (I6 x).toInt32 = I3 (w32 x) := by
  apply Int32.toInt_inj.mp
  rw [Int64.toInt_toInt32, I6_to hx, I3_to (w32_in _)]
  rfl
theorem I3_i2b {x : Int} (hx : in32 x) : (I3 x).toInt8.toInt32 = I3 (Int.bmod x 256) := by
  apply Int32.toInt_inj.mp
  have hr : in32 (Int.bmod x 256) := by
    have h1 := Int.le_bmod (x := x) (m := 256) (by omega)
    have h2 := Int.bmod_lt (x := x) (m := 256) (by omega)
    unfold in32; omega
  rw [Int8.toInt_toInt32, Int32.toInt_toInt8, I3_to hx, I3_to hr]
theorem I3_i2c {x : Int} (hx : in32 x) : ((I3 x).toUInt32 % 65536).toInt32 = I3 (x % 65536) := by
  rw [pk_char]
  apply Int32.toInt_inj.mp
  rw [nI_toInt (by omega), I3_to (by unfold in32; omega)]
  have h1 : (I3 x).toBitVec.toNat = (x % 4294967296).toNat := by
    show (BitVec.ofInt 32 x).toNat = _
    rw [BitVec.toNat_ofInt]
    rfl
  rw [h1]
  omega
theorem I3_bv (x : Int) : (I3 x).toBitVec.toNat = (x % 4294967296).toNat := by
  show (BitVec.ofInt 32 x).toNat = _
  rw [BitVec.toNat_ofInt]
  rfl
theorem I6_bv (x : Int) : (I6 x).toBitVec.toNat = (x % 18446744073709551616).toNat := by
  show (BitVec.ofInt 64 x).toNat = _
  rw [BitVec.toNat_ofInt]
  rfl
theorem I3_sh (y : Int) : I3 y &&& 31 = nI (y % 32).toNat := by
  rw [pk_and (I3 y) (m := 31) 5 (by decide), I3_bv]
  congr 1
  omega
theorem sh_lt (y : Int) : (y % 32).toNat < 32 := by omega
theorem sh_lt6 (y : Int) : (y % 64).toNat < 64 := by omega
theorem sm32 : ∀ n, n < 32 → ((nI n).toBitVec.smod 32).toNat = n := by decide
theorem sm64 : ∀ n, n < 64 → ((BitVec.ofNat 64 n).smod 64).toNat = n := by decide
theorem I3_shl (x y : Int) : I3 x <<< (I3 y &&& 31) = I3 (shl32 x y) := by
  unfold shl32
  rw [I3_w, I3_sh]
  apply Int32.toBitVec_inj.mp
  apply BitVec.eq_of_toNat_eq
  rw [pk_shl _ _ (y % 32).toNat (sm32 _ (sh_lt y)), I3_bv, I3_bv]
  generalize (y % 32).toNat = k
  have h1 : 0 ≤ x % 4294967296 := Int.emod_nonneg _ (by decide)
  have h2 : (((x % 4294967296).toNat * 2 ^ k % 2 ^ 32 : Nat) : Int) = x * 2 ^ k % 4294967296 := by
    rw [Int.natCast_emod, Int.natCast_mul, Int.toNat_of_nonneg h1]
    show (x % 4294967296 * ((2 ^ k : Nat) : Int)) % 4294967296 = _
    rw [Int.natCast_pow, Int.mul_emod, Int.emod_emod_of_dvd _ (Int.dvd_refl _), ← Int.mul_emod]
    rfl
  omega
theorem shr_in {x : Int} (k : Nat) (hx : in32 x) : in32 (x / 2 ^ k) := by
  unfold in32 at *
  have hp : (0 : Int) < 2 ^ k := Int.pow_pos (by decide)
  constructor
  · have : (-2147483648 : Int) * 2 ^ k ≤ x := by
      have h1 : (1 : Int) ≤ 2 ^ k := by omega
      have : (-2147483648 : Int) * 2 ^ k ≤ (-2147483648) * 1 := Int.mul_le_mul_of_nonpos_left (by decide) h1
      omega
    exact (Int.le_ediv_iff_mul_le hp).mpr this
  · apply Int.ediv_lt_of_lt_mul hp
    have h1 : (1 : Int) ≤ 2 ^ k := by omega
    have : (2147483648 : Int) * 1 ≤ 2147483648 * 2 ^ k := Int.mul_le_mul_of_nonneg_left h1 (by decide)
    omega
theorem shr_in6 {x : Int} (k : Nat) (hx : in64 x) : in64 (x / 2 ^ k) := by
  unfold in64 at *
  have hp : (0 : Int) < 2 ^ k := Int.pow_pos (by decide)
  constructor
  · have : (-9223372036854775808 : Int) * 2 ^ k ≤ x := by
      have h1 : (1 : Int) ≤ 2 ^ k := by omega
      have : (-9223372036854775808 : Int) * 2 ^ k ≤ (-9223372036854775808) * 1 := Int.mul_le_mul_of_nonpos_left (by decide) h1
      omega
    exact (Int.le_ediv_iff_mul_le hp).mpr this
  · apply Int.ediv_lt_of_lt_mul hp
    have h1 : (1 : Int) ≤ 2 ^ k := by omega
    have : (9223372036854775808 : Int) * 1 ≤ 9223372036854775808 * 2 ^ k := Int.mul_le_mul_of_nonneg_left h1 (by decide)
    omega
theorem I3_shr {x : Int} (hx : in32 x) (y : Int) : I3 x >>> (I3 y &&& 31) = I3 (shr32 x y) := by
  unfold shr32
  rw [I3_sh]
  apply Int32.toInt_inj.mp
  rw [pk_shr _ _ (y % 32).toNat (sm32 _ (sh_lt y)), I3_to hx, I3_to (shr_in _ hx), Int.shiftRight_eq_div_pow]
  rfl
theorem I3_ush (x y : Int) : ((I3 x).toUInt32 >>> ((I3 y).toUInt32 &&& Int32.toUInt32 31)).toInt32 = I3 (ush32 x y) := by
  unfold ush32
  rw [I3_w]
  apply Int32.toBitVec_inj.mp
  apply BitVec.eq_of_toNat_eq
  have hk : (((I3 y).toUInt32 &&& Int32.toUInt32 31).toBitVec % 32).toNat = (y % 32).toNat := by
    have h1 : ((I3 y).toUInt32 &&& Int32.toUInt32 31).toBitVec.toNat = (y % 32).toNat := by
      show ((I3 y).toBitVec &&& 31#32).toNat = _
      rw [BitVec.toNat_and, I3_bv]
      show _ &&& (2 ^ 5 - 1) = _
      rw [Nat.and_two_pow_sub_one_eq_mod]
      omega
    rw [BitVec.toNat_umod, h1]
    show (y % 32).toNat % 32 = _
    omega
  rw [pk_ushr _ _ _ hk, I3_bv, I3_bv]
  generalize (y % 32).toNat = k
  have h1 : 0 ≤ x % 4294967296 := Int.emod_nonneg _ (by decide)
  have h2 : x % 4294967296 < 4294967296 := Int.emod_lt_of_pos _ (by decide)
  generalize x % 4294967296 = z at h1 h2 ⊢
  obtain ⟨n, rfl⟩ := Int.eq_ofNat_of_zero_le h1
  have h3 : ((n : Int) / 2 ^ k) = ((n / 2 ^ k : Nat) : Int) := by rw [Int.natCast_ediv, Int.natCast_pow]; rfl
  rw [h3]
  have h4 : n / 2 ^ k ≤ n := Nat.div_le_self _ _
  have h5 : ((n : Int)).toNat = n := rfl
  rw [h5]
  generalize n / 2 ^ k = w at h4 ⊢
  omega
theorem I6_sh {y : Int} (hy : in32 y) : ((I3 y).toInt64 &&& 63).toBitVec = BitVec.ofNat 64 (y % 64).toNat := by
  rw [I3_i2l hy]
  apply BitVec.eq_of_toNat_eq
  rw [BitVec.toNat_ofNat]
  show ((I6 y).toBitVec &&& 63#64).toNat = _
  rw [BitVec.toNat_and, I6_bv]
  show _ &&& (2 ^ 6 - 1) = _
  rw [Nat.and_two_pow_sub_one_eq_mod]
  omega
theorem I6_shl {x y : Int} (hy : in32 y) : I6 x <<< ((I3 y).toInt64 &&& 63) = I6 (shl64 x y) := by
  unfold shl64
  rw [I6_w]
  apply Int64.toBitVec_inj.mp
  apply BitVec.eq_of_toNat_eq
  rw [Int64.toBitVec_shiftLeft, I6_sh hy, BitVec.shiftLeft_eq', sm64 _ (sh_lt6 y), BitVec.toNat_shiftLeft, I6_bv, I6_bv, Nat.shiftLeft_eq]
  generalize (y % 64).toNat = k
  have h1 : 0 ≤ x % 18446744073709551616 := Int.emod_nonneg _ (by decide)
  have h2 : (((x % 18446744073709551616).toNat * 2 ^ k % 2 ^ 64 : Nat) : Int) = x * 2 ^ k % 18446744073709551616 := by
    rw [Int.natCast_emod, Int.natCast_mul, Int.toNat_of_nonneg h1]
    show (x % 18446744073709551616 * ((2 ^ k : Nat) : Int)) % 18446744073709551616 = _
    rw [Int.natCast_pow, Int.mul_emod, Int.emod_emod_of_dvd _ (Int.dvd_refl _), ← Int.mul_emod]
    rfl
  omega
theorem I6_shr {x y : Int} (hx : in64 x) (hy : in32 y) : I6 x >>> ((I3 y).toInt64 &&& 63) = I6 (shr64 x y) := by
  unfold shr64
  apply Int64.toInt_inj.mp
  rw [I6_to (shr_in6 _ hx)]
  show (I6 x >>> ((I3 y).toInt64 &&& 63)).toBitVec.toInt = _
  rw [Int64.toBitVec_shiftRight, I6_sh hy, BitVec.sshiftRight', sm64 _ (sh_lt6 y), BitVec.toInt_sshiftRight]
  have : (I6 x).toBitVec.toInt = x := I6_to hx
  rw [this, Int.shiftRight_eq_div_pow]
  rfl
