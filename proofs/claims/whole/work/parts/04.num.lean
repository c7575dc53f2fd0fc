theorem z_i32 {x : Int} (h : i32 x) : (Int32.ofInt x).toInt = x := Int32.toInt_ofInt_of_le h.1 (Int.lt_of_le_of_lt h.2 (by decide))
theorem z_i64 {x : Int} (h : i64 x) : (Int64.ofInt x).toInt = x := Int64.toInt_ofInt_of_le h.1 (Int.lt_of_le_of_lt h.2 (by decide))
theorem z_lt {a b : Int} (ha : i32 a) (hb : i32 b) : Int32.ofInt a < Int32.ofInt b ↔ a < b := by
  rw [Int32.lt_iff_toInt_lt, z_i32 ha, z_i32 hb]
theorem z_le {a b : Int} (ha : i32 a) (hb : i32 b) : Int32.ofInt a ≤ Int32.ofInt b ↔ a ≤ b := by
  rw [Int32.le_iff_toInt_le, z_i32 ha, z_i32 hb]
theorem z_eq {a b : Int} (ha : i32 a) (hb : i32 b) : Int32.ofInt a = Int32.ofInt b ↔ a = b := by
  rw [← Int32.toInt_inj, z_i32 ha, z_i32 hb]
theorem z_leq {a b : Int} (ha : i64 a) (hb : i64 b) : Int64.ofInt a = Int64.ofInt b ↔ a = b := by
  rw [← Int64.toInt_inj, z_i64 ha, z_i64 hb]
theorem z_0 : (0 : Int32) = Int32.ofInt 0 := by decide
theorem z_clamp {i : Int} {N : Nat} (h0 : 0 ≤ i) (h1 : i < (N : Int)) (hN : N ≤ 100000) : (Int32.ofInt i).toNatClampNeg = i.toNat :=
  Int32.toNatClampNeg_ofInt_of_le (by omega) (by omega)
theorem z_in {i : Int} {N : Nat} (h0 : 0 ≤ i) (h1 : i < (N : Int)) (hN : N ≤ 100000) : vp_in (Int32.ofInt i) N := by
  rw [vp_in_iff, z_i32 ⟨by omega, by omega⟩]
  exact ⟨h0, h1⟩
theorem z_div {a b : Int} (ha : i32 a) (hb : i32 b) : Int32.ofInt (a.tdiv b) = Int32.ofInt a / Int32.ofInt b := Int32.ofInt_tdiv ha.1 ha.2 hb.1 hb.2
theorem z_rem {a b : Int} (ha : i32 a) (hb : i32 b) : Int32.ofInt (a.tmod b) = Int32.ofInt a - Int32.ofInt a / Int32.ofInt b * Int32.ofInt b := by
  rw [← z_div ha hb, ← Int32.ofInt_mul, ← Int32.ofInt_sub, Int.tmod_def, Int.mul_comm]
theorem z_ldiv {a b : Int} (ha : i64 a) (hb : i64 b) : Int64.ofInt (a.tdiv b) = Int64.ofInt a / Int64.ofInt b := Int64.ofInt_tdiv ha.1 ha.2 hb.1 hb.2
theorem z_lrem {a b : Int} (ha : i64 a) (hb : i64 b) : Int64.ofInt (a.tmod b) = Int64.ofInt a - Int64.ofInt a / Int64.ofInt b * Int64.ofInt b := by
  rw [← z_ldiv ha hb, ← Int64.ofInt_mul, ← Int64.ofInt_sub, Int.tmod_def, Int.mul_comm]
theorem z_and (a b : Int) : Int32.ofInt (iand a b) = Int32.ofInt a &&& Int32.ofInt b := Int32.ofInt_toInt _
theorem z_or (a b : Int) : Int32.ofInt (ior a b) = Int32.ofInt a ||| Int32.ofInt b := Int32.ofInt_toInt _
theorem z_xor (a b : Int) : Int32.ofInt (ixor a b) = Int32.ofInt a ^^^ Int32.ofInt b := Int32.ofInt_toInt _
theorem z_lor (a b : Int) : Int64.ofInt (lor a b) = Int64.ofInt a ||| Int64.ofInt b := Int64.ofInt_toInt _
theorem z_amt : ∀ k : Nat, k < 32 → ((Int32.ofInt (k : Int) &&& 31).toBitVec.smod 32).toNat = k := by decide +kernel
theorem z_tn (a : Int) : (Int32.ofInt a).toBitVec.toNat = (a % 4294967296).toNat := by
  rw [Int32.toBitVec_ofInt, BitVec.toNat_ofInt]; rfl
theorem z_shl {a b : Int} (h0 : 0 ≤ b) (h1 : b ≤ 31) : Int32.ofInt (a * 2 ^ b.toNat) = Int32.ofInt a <<< (Int32.ofInt b &&& 31) := by
  obtain ⟨k, rfl⟩ := Int.eq_ofNat_of_zero_le h0
  have hk : k < 32 := by omega
  apply Int32.toBitVec_inj.mp
  apply BitVec.eq_of_toNat_eq
  rw [pk_shl _ _ k (z_amt k hk), z_tn, z_tn, Int.toNat_natCast]
  have e1 : ((a % 4294967296).toNat : Int) = a % 4294967296 := Int.toNat_of_nonneg (Int.emod_nonneg _ (by decide))
  have e2 : ((a * 2 ^ k % 4294967296).toNat : Int) = a * 2 ^ k % 4294967296 := Int.toNat_of_nonneg (Int.emod_nonneg _ (by decide))
  apply Int.ofNat_inj.mp
  rw [e2, Int.natCast_emod, Int.natCast_mul, e1]
  rw [show ((2 ^ 32 : Nat) : Int) = 4294967296 from rfl, Int.natCast_pow, show ((2 : Nat) : Int) = 2 from rfl, Int.mul_emod (a % 4294967296), Int.emod_emod_of_dvd _ (Int.dvd_refl _), ← Int.mul_emod]
theorem z_shr {a b : Int} (ha : i32 a) (h0 : 0 ≤ b) (h1 : b ≤ 31) : Int32.ofInt (a / 2 ^ b.toNat) = Int32.ofInt a >>> (Int32.ofInt b &&& 31) := by
  obtain ⟨k, rfl⟩ := Int.eq_ofNat_of_zero_le h0
  have hk : k < 32 := by omega
  have hp : (0 : Int) < 2 ^ k := Int.pow_pos (by decide)
  apply Int32.toInt_inj.mp
  rw [pk_shr _ _ k (z_amt k hk), z_i32 ha, Int.shiftRight_eq_div_pow, Int.toNat_natCast]
  have hr : i32 (a / 2 ^ k) := by
    obtain ⟨h2, h3⟩ := ha
    have hge : (1 : Int) ≤ 2 ^ k := hp
    constructor
    · exact (Int.le_ediv_iff_mul_le hp).mpr (by
        have : (-2147483648 : Int) * 2 ^ k ≤ -2147483648 * 1 := Int.mul_le_mul_of_nonpos_left (by decide) hge
        omega)
    · exact Int.le_of_lt_add_one ((Int.ediv_lt_iff_lt_mul hp).mpr (by
        have : (2147483648 : Int) * 1 ≤ 2147483648 * 2 ^ k := Int.mul_le_mul_of_nonneg_left hge (by decide)
        omega))
  rw [z_i32 hr]
  push_cast
  rfl
theorem z_i2l {a : Int} (ha : i32 a) : (Int32.ofInt a).toInt64 = Int64.ofInt a := by
  apply Int64.toInt_inj.mp
  rw [Int32.toInt_toInt64, z_i32 ha, z_i64 ⟨by omega, by omega⟩]
theorem z_l2i (a : Int) : (Int64.ofInt a).toInt32 = Int32.ofInt a := by
  apply Int32.toBitVec_inj.mp
  rw [Int64.toBitVec_toInt32, Int64.toBitVec_ofInt, Int32.toBitVec_ofInt]
  apply BitVec.eq_of_toNat_eq
  simp [BitVec.toNat_ofInt, BitVec.toNat_signExtend, BitVec.toNat_setWidth]
  omega
theorem z_cmp {a b : Int} (ha : i64 a) (hb : i64 b) : lg_cmp (Int64.ofInt a) (Int64.ofInt b) = Int32.ofInt (lcmpv a b) := by
  unfold lg_cmp lcmpv
  simp only [Int64.lt_iff_toInt_lt, ← Int64.toInt_inj, z_i64 ha, z_i64 hb]
  repeat' split
  all_goals first | rfl | omega
theorem z_lamt : ∀ k : Nat, k < 64 → (((Int32.ofInt (k : Int)).toInt64 &&& 63).toBitVec.smod 64).toNat = k := by decide +kernel
theorem z_ltn (a : Int) : (Int64.ofInt a).toBitVec.toNat = (a % 18446744073709551616).toNat := by
  rw [Int64.toBitVec_ofInt, BitVec.toNat_ofInt]; rfl
theorem z_lshl {a b : Int} (h0 : 0 ≤ b) (h1 : b ≤ 63) : Int64.ofInt a <<< ((Int32.ofInt b).toInt64 &&& 63) = Int64.ofInt (a * 2 ^ b.toNat) := by
  obtain ⟨k, rfl⟩ := Int.eq_ofNat_of_zero_le h0
  have hk : k < 64 := by omega
  apply Int64.toBitVec_inj.mp
  apply BitVec.eq_of_toNat_eq
  have e0 : (Int64.ofInt a <<< ((Int32.ofInt (k : Int)).toInt64 &&& 63)).toBitVec.toNat = (Int64.ofInt a).toBitVec.toNat * 2 ^ k % 2 ^ 64 := by
    show ((Int64.ofInt a).toBitVec <<< (((Int32.ofInt (k : Int)).toInt64 &&& 63).toBitVec.smod 64).toNat).toNat = _
    rw [z_lamt k hk, BitVec.toNat_shiftLeft, Nat.shiftLeft_eq]
  rw [e0, z_ltn, z_ltn, Int.toNat_natCast]
  have e1 : ((a % 18446744073709551616).toNat : Int) = a % 18446744073709551616 := Int.toNat_of_nonneg (Int.emod_nonneg _ (by decide))
  have e2 : ((a * 2 ^ k % 18446744073709551616).toNat : Int) = a * 2 ^ k % 18446744073709551616 := Int.toNat_of_nonneg (Int.emod_nonneg _ (by decide))
  apply Int.ofNat_inj.mp
  rw [e2, Int.natCast_emod, Int.natCast_mul, e1]
  rw [show ((2 ^ 64 : Nat) : Int) = 18446744073709551616 from rfl, Int.natCast_pow, show ((2 : Nat) : Int) = 2 from rfl, Int.mul_emod (a % 18446744073709551616), Int.emod_emod_of_dvd _ (Int.dvd_refl _), ← Int.mul_emod]
theorem z_lshr {a b : Int} (ha : i64 a) (h0 : 0 ≤ b) (h1 : b ≤ 63) : Int64.ofInt a >>> ((Int32.ofInt b).toInt64 &&& 63) = Int64.ofInt (a / 2 ^ b.toNat) := by
  obtain ⟨k, rfl⟩ := Int.eq_ofNat_of_zero_le h0
  have hk : k < 64 := by omega
  have hp : (0 : Int) < 2 ^ k := Int.pow_pos (by decide)
  apply Int64.toInt_inj.mp
  have e0 : (Int64.ofInt a >>> ((Int32.ofInt (k : Int)).toInt64 &&& 63)).toInt = (Int64.ofInt a).toInt >>> k := by
    show ((Int64.ofInt a).toBitVec.sshiftRight (((Int32.ofInt (k : Int)).toInt64 &&& 63).toBitVec.smod 64).toNat).toInt = _
    rw [z_lamt k hk, BitVec.toInt_sshiftRight]
    rfl
  rw [e0, z_i64 ha, Int.shiftRight_eq_div_pow, Int.toNat_natCast]
  have hr : i64 (a / 2 ^ k) := by
    obtain ⟨h2, h3⟩ := ha
    have hge : (1 : Int) ≤ 2 ^ k := hp
    constructor
    · exact (Int.le_ediv_iff_mul_le hp).mpr (by
        have : (-9223372036854775808 : Int) * 2 ^ k ≤ -9223372036854775808 * 1 := Int.mul_le_mul_of_nonpos_left (by decide) hge
        omega)
    · exact Int.le_of_lt_add_one ((Int.ediv_lt_iff_lt_mul hp).mpr (by
        have : (9223372036854775808 : Int) * 1 ≤ 9223372036854775808 * 2 ^ k := Int.mul_le_mul_of_nonneg_left hge (by decide)
        omega))
  rw [z_i64 hr]
  push_cast
  rfl
theorem z_i2c {a : Int} (h0 : 0 ≤ a) (h1 : a < 65536) : ((Int32.ofInt a).toUInt32 % 65536).toInt32 = Int32.ofInt a := by
  rw [pk_char, z_tn]
  show Int32.ofNat _ = _
  rw [← Int32.ofInt_eq_ofNat]
  congr 1
  omega
