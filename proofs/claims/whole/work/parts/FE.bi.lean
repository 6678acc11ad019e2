/-! a bit of an input on both sides -/
theorem bit_i {m j : Nat} (hj : j < 32) (hm : m < 2 ^ 32) : ((((nI m) : Int32)).toUInt32 >>> ((((nI j) : Int32)).toUInt32 &&& Int32.toUInt32 31)).toInt32 &&& 1 = nI (m / 2 ^ j % 2) := by
  have hs : ((((nI j) : Int32)).toUInt32 &&& Int32.toUInt32 31) = UInt32.ofNat j := (show ∀ j, j < 32 → ((((nI j) : Int32)).toUInt32 &&& Int32.toUInt32 31) = UInt32.ofNat j by decide +kernel) j hj
  rw [hs]
  apply Int32.toBitVec_inj.mp
  rw [Int32.toBitVec_and]
  apply BitVec.eq_of_toNat_eq
  rw [BitVec.toNat_and]
  show (((nI m).toUInt32 >>> UInt32.ofNat j).toBitVec.toNat &&& 1) = (m / 2 ^ j % 2) % 2 ^ 32
  rw [UInt32.toBitVec_shiftRight]
  have e : ((UInt32.ofNat j).toBitVec % 32#32).toNat = j := by
    show (j % 4294967296) % 32 = j
    omega
  rw [BitVec.ushiftRight_eq', BitVec.toNat_ushiftRight]
  have e2 : ((nI m).toUInt32.toBitVec).toNat = m := by
    show m % 2 ^ 32 = m
    omega
  rw [e2]
  rw [show (UInt32.ofNat j).toBitVec % 32 = (UInt32.ofNat j).toBitVec % 32#32 from rfl, e, Nat.shiftRight_eq_div_pow, Nat.and_one_is_mod]
  omega
theorem bit_l {m j : Nat} (hj : j < 32) (hm : m < 2 ^ 32) : (((lN m) >>> ((nI j : Int32).toInt64 &&& 63)) &&& 1).toInt32 = nI (m / 2 ^ j % 2) := by
  have hs : ((nI j : Int32).toInt64 &&& 63) = Int64.ofNat j := (show ∀ j, j < 32 → ((nI j : Int32).toInt64 &&& 63) = Int64.ofNat j by decide +kernel) j hj
  rw [hs]
  have hm2 : (lN m).toBitVec.toNat = m := by
    show m % 18446744073709551616 = m
    omega
  have hmsb : (lN m).toBitVec.msb = false := by
    rw [BitVec.msb_eq_false_iff_two_mul_lt, hm2]
    omega
  have e1 : ((lN m) >>> Int64.ofNat j).toBitVec.toNat = m / 2 ^ j := by
    rw [Int64.toBitVec_shiftRight]
    have e : ((Int64.ofNat j).toBitVec.smod 64#64).toNat = j := (show ∀ j, j < 32 → ((Int64.ofNat j).toBitVec.smod 64#64).toNat = j by decide +kernel) j hj
    show ((lN m).toBitVec.sshiftRight ((Int64.ofNat j).toBitVec.smod 64#64).toNat).toNat = _
    rw [e, BitVec.sshiftRight_eq_of_msb_false hmsb, BitVec.toNat_ushiftRight, hm2, Nat.shiftRight_eq_div_pow]
  have e2 : ((lN m) >>> Int64.ofNat j) &&& 1 = lN (m / 2 ^ j % 2) := by
    apply Int64.toBitVec_inj.mp
    rw [Int64.toBitVec_and]
    apply BitVec.eq_of_toNat_eq
    rw [BitVec.toNat_and, e1]
    show m / 2 ^ j &&& 1 = (m / 2 ^ j % 2) % 18446744073709551616
    rw [Nat.and_one_is_mod]
    omega
  rw [e2]
  have h2 : m / 2 ^ j % 2 = 0 ∨ m / 2 ^ j % 2 = 1 := by omega
  rcases h2 with q | q <;> rw [q] <;> rfl
