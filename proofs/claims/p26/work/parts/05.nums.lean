def q_i32 (x : Int) : Prop := -2147483648 ≤ x ∧ x ≤ 2147483647
def q_i64 (x : Int) : Prop := -9223372036854775808 ≤ x ∧ x ≤ 9223372036854775807
theorem q_w32_in (x : Int) : q_i32 (q_w32 x) := by unfold q_i32 q_w32; omega
theorem q_w64_in (x : Int) : q_i64 (q_w64 x) := by unfold q_i64 q_w64; omega
theorem q_w32_id {x : Int} (h1 : -2147483648 ≤ x) (h2 : x ≤ 2147483647) : q_w32 x = x := by unfold q_w32; omega
theorem q_w64_id {x : Int} (h1 : -9223372036854775808 ≤ x) (h2 : x ≤ 9223372036854775807) : q_w64 x = x := by unfold q_w64; omega
theorem q_bm32 (x : Int) : x.bmod (2 ^ 32) = q_w32 x := by unfold Int.bmod q_w32; simp only [Nat.reducePow, Int.cast_ofNat_Int]; split <;> omega
theorem q_bm64 (x : Int) : x.bmod (2 ^ 64) = q_w64 x := by unfold Int.bmod q_w64; simp only [Nat.reducePow, Int.cast_ofNat_Int]; split <;> omega
theorem q_t32 (x : Int) : (Int32.ofInt x).toInt = q_w32 x := by rw [Int32.toInt_ofInt]; exact q_bm32 x
theorem q_t64 (x : Int) : (Int64.ofInt x).toInt = q_w64 x := by rw [Int64.toInt_ofInt]; exact q_bm64 x
theorem q_t32i {x : Int} (h : q_i32 x) : (Int32.ofInt x).toInt = x := by rw [q_t32]; exact q_w32_id h.1 h.2
theorem q_t64i {x : Int} (h : q_i64 x) : (Int64.ofInt x).toInt = x := by rw [q_t64]; exact q_w64_id h.1 h.2
theorem q_o32 (v : Int32) : Int32.ofInt v.toInt = v := Int32.ofInt_toInt v
theorem q_ow (x : Int) : Int32.ofInt (q_w32 x) = Int32.ofInt x := by
  apply Int32.toInt_inj.mp
  rw [q_t32, q_t32]
  exact q_w32_id (q_w32_in x).1 (q_w32_in x).2
theorem q_owl (x : Int) : Int64.ofInt (q_w64 x) = Int64.ofInt x := by
  apply Int64.toInt_inj.mp
  rw [q_t64, q_t64]
  exact q_w64_id (q_w64_in x).1 (q_w64_in x).2
theorem q_add (x y : Int) : Int32.ofInt (q_w32 (x + y)) = Int32.ofInt x + Int32.ofInt y := by rw [q_ow, Int32.ofInt_add]
theorem q_sub (x y : Int) : Int32.ofInt (q_w32 (x - y)) = Int32.ofInt x - Int32.ofInt y := by rw [q_ow, Int32.ofInt_sub]
theorem q_mul (x y : Int) : Int32.ofInt (q_w32 (x * y)) = Int32.ofInt x * Int32.ofInt y := by rw [q_ow, Int32.ofInt_mul]
theorem q_neg (x : Int) : Int32.ofInt (q_w32 (-x)) = -Int32.ofInt x := by rw [q_ow, Int32.ofInt_neg]
theorem q_addl (x y : Int) : Int64.ofInt (q_w64 (x + y)) = Int64.ofInt x + Int64.ofInt y := by rw [q_owl, Int64.ofInt_add]
theorem q_subl (x y : Int) : Int64.ofInt (q_w64 (x - y)) = Int64.ofInt x - Int64.ofInt y := by rw [q_owl, Int64.ofInt_sub]
theorem q_mull (x y : Int) : Int64.ofInt (q_w64 (x * y)) = Int64.ofInt x * Int64.ofInt y := by rw [q_owl, Int64.ofInt_mul]
theorem q_div {x y : Int} (hx : q_i32 x) (hy : q_i32 y) : Int32.ofInt (q_w32 (x.tdiv y)) = Int32.ofInt x / Int32.ofInt y := by
  apply Int32.toInt_inj.mp
  rw [q_t32, Int32.toInt_div, q_t32i hx, q_t32i hy, q_bm32]
  exact q_w32_id (q_w32_in _).1 (q_w32_in _).2
theorem q_rem {x y : Int} (hx : q_i32 x) (hy : q_i32 y) : Int32.ofInt (x.tmod y) = Int32.ofInt x - Int32.ofInt x / Int32.ofInt y * Int32.ofInt y := by
  rw [← q_div hx hy, q_ow, ← Int32.ofInt_mul, ← Int32.ofInt_sub, Int.tmod_def, Int.mul_comm]
theorem q_divl {x y : Int} (hx : q_i64 x) (hy : q_i64 y) : Int64.ofInt (q_w64 (x.tdiv y)) = Int64.ofInt x / Int64.ofInt y := by
  apply Int64.toInt_inj.mp
  rw [q_t64, Int64.toInt_div, q_t64i hx, q_t64i hy, q_bm64]
  exact q_w64_id (q_w64_in _).1 (q_w64_in _).2
theorem q_reml {x y : Int} (hx : q_i64 x) (hy : q_i64 y) : Int64.ofInt (x.tmod y) = Int64.ofInt x - Int64.ofInt x / Int64.ofInt y * Int64.ofInt y := by
  rw [← q_divl hx hy, q_owl, ← Int64.ofInt_mul, ← Int64.ofInt_sub, Int.tmod_def, Int.mul_comm]
theorem q_tmod_in {x y : Int} (hx : q_i32 x) : q_i32 (x.tmod y) := by
  have h1 := Int.natAbs_tmod x y
  have h2 : x.natAbs % y.natAbs ≤ x.natAbs := Nat.mod_le _ _
  unfold q_i32 at *
  by_cases h : 0 ≤ x
  · have := Int.tmod_nonneg y h
    omega
  · have : x.tmod y = -((-x).tmod y) := by rw [Int.neg_tmod]; simp
    have := Int.tmod_nonneg y (show 0 ≤ -x by omega)
    omega
theorem q_tmod_inl {x y : Int} (hx : q_i64 x) : q_i64 (x.tmod y) := by
  have h1 := Int.natAbs_tmod x y
  have h2 : x.natAbs % y.natAbs ≤ x.natAbs := Nat.mod_le _ _
  unfold q_i64 at *
  by_cases h : 0 ≤ x
  · have := Int.tmod_nonneg y h
    omega
  · have : x.tmod y = -((-x).tmod y) := by rw [Int.neg_tmod]; simp
    have := Int.tmod_nonneg y (show 0 ≤ -x by omega)
    omega
theorem q_lt {x y : Int} (hx : q_i32 x) (hy : q_i32 y) : Int32.ofInt x < Int32.ofInt y ↔ x < y := by rw [Int32.lt_iff_toInt_lt, q_t32i hx, q_t32i hy]
theorem q_le {x y : Int} (hx : q_i32 x) (hy : q_i32 y) : Int32.ofInt x ≤ Int32.ofInt y ↔ x ≤ y := by rw [Int32.le_iff_toInt_le, q_t32i hx, q_t32i hy]
theorem q_eq {x y : Int} (hx : q_i32 x) (hy : q_i32 y) : Int32.ofInt x = Int32.ofInt y ↔ x = y := by rw [← Int32.toInt_inj, q_t32i hx, q_t32i hy]
theorem q_ltl {x y : Int} (hx : q_i64 x) (hy : q_i64 y) : Int64.ofInt x < Int64.ofInt y ↔ x < y := by rw [Int64.lt_iff_toInt_lt, q_t64i hx, q_t64i hy]
theorem q_eql {x y : Int} (hx : q_i64 x) (hy : q_i64 y) : Int64.ofInt x = Int64.ofInt y ↔ x = y := by rw [← Int64.toInt_inj, q_t64i hx, q_t64i hy]
theorem q_bv32 (x : Int) : (Int32.ofInt x).toBitVec = BitVec.ofInt 32 x := rfl
theorem q_bv64 (x : Int) : (Int64.ofInt x).toBitVec = BitVec.ofInt 64 x := rfl
theorem q_and (x y : Int) : Int32.ofInt (q_and32 x y) = Int32.ofInt x &&& Int32.ofInt y := by
  apply Int32.toBitVec_inj.mp
  rw [q_bv32, Int32.toBitVec_and, q_bv32, q_bv32, q_and32, BitVec.ofInt_toInt]
theorem q_or (x y : Int) : Int32.ofInt (q_or32 x y) = Int32.ofInt x ||| Int32.ofInt y := by
  apply Int32.toBitVec_inj.mp
  rw [q_bv32, Int32.toBitVec_or, q_bv32, q_bv32, q_or32, BitVec.ofInt_toInt]
theorem q_andl (x y : Int) : Int64.ofInt (q_and64 x y) = Int64.ofInt x &&& Int64.ofInt y := by
  apply Int64.toBitVec_inj.mp
  rw [q_bv64, Int64.toBitVec_and, q_bv64, q_bv64, q_and64, BitVec.ofInt_toInt]
theorem q_orl (x y : Int) : Int64.ofInt (q_or64 x y) = Int64.ofInt x ||| Int64.ofInt y := by
  apply Int64.toBitVec_inj.mp
  rw [q_bv64, Int64.toBitVec_or, q_bv64, q_bv64, q_or64, BitVec.ofInt_toInt]
theorem q_bvin32 (b : BitVec 32) : q_i32 b.toInt := by
  have h1 := BitVec.toInt_lt (x := b)
  have h2 := BitVec.le_toInt (x := b)
  unfold q_i32
  simp at h1 h2
  omega
theorem q_bvin64 (b : BitVec 64) : q_i64 b.toInt := by
  have h1 := BitVec.toInt_lt (x := b)
  have h2 := BitVec.le_toInt (x := b)
  unfold q_i64
  simp at h1 h2
  omega
theorem q_i2l {x : Int} (hx : q_i32 x) : (Int32.ofInt x).toInt64 = Int64.ofInt x := by
  apply Int64.toInt_inj.mp
  rw [Int32.toInt_toInt64, q_t32i hx, q_t64i]
  unfold q_i32 at hx; unfold q_i64; omega
theorem q_l2i {x : Int} (hx : q_i64 x) : (Int64.ofInt x).toInt32 = Int32.ofInt (q_w32 x) := by
  apply Int32.toInt_inj.mp
  rw [Int64.toInt_toInt32, q_t64i hx, q_bm32, q_t32]
  exact (q_w32_id (q_w32_in x).1 (q_w32_in x).2).symm
theorem q_s32 : ∀ k : Nat, k < 32 → ((nI k).toBitVec.smod 32).toNat = k := by decide +kernel
theorem q_sm (y : Int) : ((Int32.ofInt y &&& 31).toBitVec.smod 32).toNat = (y % 32).toNat := by
  rw [pk_and (Int32.ofInt y) (m := 31) 5 (by decide), q_bv32, BitVec.toNat_ofInt]
  rw [q_s32 _ (by omega)]
  omega
theorem q_shl (x y : Int) : Int32.ofInt (q_w32 (x * 2 ^ (y % 32).toNat)) = Int32.ofInt x <<< (Int32.ofInt y &&& 31) := by
  apply Int32.toBitVec_inj.mp
  apply BitVec.eq_of_toNat_eq
  rw [pk_shl _ _ _ (q_sm y), q_ow, q_bv32, q_bv32, BitVec.toNat_ofInt, BitVec.toNat_ofInt]
  have e : ∀ p : Nat, (x * (p : Int) % 4294967296).toNat = (x % 4294967296).toNat * p % 4294967296 := by
    intro p
    have h1 : x * (p : Int) % 4294967296 = (x % 4294967296) * p % 4294967296 := by rw [Int.mul_emod x p, Int.mul_emod (x % 4294967296) p, Int.emod_emod]
    have h2 : 0 ≤ x % 4294967296 := by omega
    obtain ⟨n, hn⟩ := Int.eq_ofNat_of_zero_le h2
    rw [h1, hn]
    have : ((n : Int) * (p : Int) % 4294967296) = ((n * p % 4294967296 : Nat) : Int) := by simp
    rw [this, Int.toNat_natCast, Int.toNat_natCast]
  have := e (2 ^ (y % 32).toNat)
  simpa using this
theorem q_shr {x : Int} (hx : q_i32 x) (y : Int) : Int32.ofInt (x / 2 ^ (y % 32).toNat) = Int32.ofInt x >>> (Int32.ofInt y &&& 31) := by
  apply Int32.toInt_inj.mp
  rw [pk_shr _ _ _ (q_sm y), q_t32i hx, Int.shiftRight_eq_div_pow]
  have hb : q_i32 (x / 2 ^ (y % 32).toNat) := by
    unfold q_i32 at *
    have hp : (0 : Int) < 2 ^ (y % 32).toNat := Int.pow_pos (by decide)
    constructor
    · apply (Int.le_ediv_iff_mul_le hp).mpr
      generalize (2 : Int) ^ (y % 32).toNat = p at hp
      omega
    · have h1 : x / 2 ^ (y % 32).toNat ≤ 2147483647 / 2 ^ (y % 32).toNat := Int.ediv_le_ediv hp hx.2
      have h2 : (2147483647 : Int) / 2 ^ (y % 32).toNat ≤ 2147483647 := Int.ediv_le_self _ (by decide)
      omega
  rw [q_t32i hb]
  norm_cast
theorem q_s64 : ∀ k : Nat, k < 64 → ((Int64.ofNat k).toBitVec.smod 64).toNat = k := by decide +kernel
theorem q_a63 (y : Int) : Int64.ofInt y &&& 63 = Int64.ofNat (y % 64).toNat := by
  apply Int64.toBitVec_inj.mp
  apply BitVec.eq_of_toNat_eq
  rw [Int64.toBitVec_and, q_bv64, BitVec.toNat_and, BitVec.toNat_ofInt]
  have h : (63 : Int64).toBitVec.toNat = 2 ^ 6 - 1 := by decide
  rw [h, Nat.and_two_pow_sub_one_eq_mod]
  show _ = (BitVec.ofNat 64 (y % 64).toNat).toNat
  rw [BitVec.toNat_ofNat]
  omega
theorem q_sml {y : Int} (hy : q_i32 y) : (((Int32.ofInt y).toInt64 &&& 63).toBitVec.smod 64).toNat = (y % 64).toNat := by
  rw [q_i2l hy, q_a63]
  exact q_s64 _ (by omega)
theorem q_shll (x : Int) {y : Int} (hy : q_i32 y) : Int64.ofInt x <<< ((Int32.ofInt y).toInt64 &&& 63) = Int64.ofInt (q_w64 (x * 2 ^ (y % 64).toNat)) := by
  apply Int64.toBitVec_inj.mp
  apply BitVec.eq_of_toNat_eq
  rw [Int64.toBitVec_shiftLeft, BitVec.shiftLeft_eq', q_sml hy, BitVec.toNat_shiftLeft, Nat.shiftLeft_eq, q_owl, q_bv64, q_bv64, BitVec.toNat_ofInt, BitVec.toNat_ofInt]
  have e : ∀ p : Nat, (x * (p : Int) % 18446744073709551616).toNat = (x % 18446744073709551616).toNat * p % 18446744073709551616 := by
    intro p
    have h1 : x * (p : Int) % 18446744073709551616 = (x % 18446744073709551616) * p % 18446744073709551616 := by rw [Int.mul_emod x p, Int.mul_emod (x % 18446744073709551616) p, Int.emod_emod]
    have h2 : 0 ≤ x % 18446744073709551616 := by omega
    obtain ⟨n, hn⟩ := Int.eq_ofNat_of_zero_le h2
    rw [h1, hn]
    have : ((n : Int) * (p : Int) % 18446744073709551616) = ((n * p % 18446744073709551616 : Nat) : Int) := by simp
    rw [this, Int.toNat_natCast, Int.toNat_natCast]
  have := e (2 ^ (y % 64).toNat)
  simpa using this.symm
theorem q_ediv_in64 {x : Int} (hx : q_i64 x) (k : Nat) : q_i64 (x / 2 ^ k) := by
  unfold q_i64 at *
  have hp : (0 : Int) < 2 ^ k := Int.pow_pos (by decide)
  constructor
  · apply (Int.le_ediv_iff_mul_le hp).mpr
    generalize (2 : Int) ^ k = p at hp
    omega
  · have h1 : x / 2 ^ k ≤ 9223372036854775807 / 2 ^ k := Int.ediv_le_ediv hp hx.2
    have h2 : (9223372036854775807 : Int) / 2 ^ k ≤ 9223372036854775807 := Int.ediv_le_self _ (by decide)
    omega
theorem q_ediv_in32 {x : Int} (hx : q_i32 x) (k : Nat) : q_i32 (x / 2 ^ k) := by
  unfold q_i32 at *
  have hp : (0 : Int) < 2 ^ k := Int.pow_pos (by decide)
  constructor
  · apply (Int.le_ediv_iff_mul_le hp).mpr
    generalize (2 : Int) ^ k = p at hp
    omega
  · have h1 : x / 2 ^ k ≤ 2147483647 / 2 ^ k := Int.ediv_le_ediv hp hx.2
    have h2 : (2147483647 : Int) / 2 ^ k ≤ 2147483647 := Int.ediv_le_self _ (by decide)
    omega
theorem q_shrl {x y : Int} (hx : q_i64 x) (hy : q_i32 y) : Int64.ofInt x >>> ((Int32.ofInt y).toInt64 &&& 63) = Int64.ofInt (x / 2 ^ (y % 64).toNat) := by
  apply Int64.toInt_inj.mp
  have h : ∀ a b : Int64, (a >>> b).toInt = a.toInt >>> (b.toBitVec.smod 64).toNat := by
    intro a b
    show (a >>> b).toBitVec.toInt = _
    rw [Int64.toBitVec_shiftRight, BitVec.sshiftRight_eq', BitVec.toInt_sshiftRight]
    rfl
  rw [h, q_sml hy, q_t64i hx, q_t64i (q_ediv_in64 hx _), Int.shiftRight_eq_div_pow]
  norm_cast
theorem q_ushrl {x y : Int} (hy : q_i32 y) : ((Int64.ofInt x).toUInt64 >>> ((Int32.ofInt y).toInt64.toUInt64 &&& Int64.toUInt64 63)).toInt64 = Int64.ofInt (q_w64 (x % 18446744073709551616 / 2 ^ (y % 64).toNat)) := by
  apply Int64.toBitVec_inj.mp
  apply BitVec.eq_of_toNat_eq
  have e1 : ((Int32.ofInt y).toInt64.toUInt64 &&& Int64.toUInt64 63) = ((Int32.ofInt y).toInt64 &&& 63).toUInt64 := rfl
  rw [e1, q_i2l hy, q_a63]
  have hs : ∀ k : Nat, k < 64 → ((Int64.ofNat k).toUInt64.toBitVec % 64).toNat = k := by decide +kernel
  show ((Int64.ofInt x).toUInt64 >>> (Int64.ofNat (y % 64).toNat).toUInt64).toBitVec.toNat = _
  rw [UInt64.toBitVec_shiftRight, BitVec.ushiftRight_eq', hs _ (by omega), BitVec.toNat_ushiftRight, q_owl, q_bv64, BitVec.toNat_ofInt]
  show (BitVec.ofInt 64 x).toNat >>> (y % 64).toNat = _
  rw [BitVec.toNat_ofInt, Nat.shiftRight_eq_div_pow]
  have h2 : 0 ≤ x % 18446744073709551616 := by omega
  obtain ⟨n, hn⟩ := Int.eq_ofNat_of_zero_le h2
  have hlt : n < 18446744073709551616 := by omega
  have h3 : n / 2 ^ (y % 64).toNat ≤ n := Nat.div_le_self _ _
  have h4 : ((n : Int) / 2 ^ (y % 64).toNat) = ((n / 2 ^ (y % 64).toNat : Nat) : Int) := by simp
  simp only [Nat.reducePow, Int.cast_ofNat_Int]
  rw [hn, h4, Int.toNat_natCast]
  generalize n / 2 ^ (y % 64).toNat = z at h3 ⊢
  omega
theorem q_i2c {x : Int} : ((Int32.ofInt x).toUInt32 % 65536).toInt32 = Int32.ofInt (x % 65536) := by
  rw [pk_char]
  apply Int32.toBitVec_inj.mp
  apply BitVec.eq_of_toNat_eq
  rw [q_bv32, BitVec.toNat_ofInt, q_bv32]
  show (BitVec.ofNat 32 _).toNat = _
  rw [BitVec.toNat_ofNat, BitVec.toNat_ofInt]
  omega
