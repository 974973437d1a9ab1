/-! ===== bytes of a long ===== -/
theorem sh_n : ∀ k : Nat, k < 64 → ((iI k).toInt64 &&& 63).toBitVec.toNat % 64 = k ∧ ((iI k).toInt64.toUInt64 &&& Int64.toUInt64 63).toBitVec.toNat % 64 = k := by decide +kernel
/-- byte k, counted from the lowest -/
def byteL (x k : Int) : Int := x / 256 ^ k.toNat % 256
theorem land255 (x : Int) : landI x 255 = x % 256 := by
  have h : (jL x &&& jL 255).toBitVec = (jL x).toBitVec &&& 255#64 := rfl
  unfold landI
  have e : (jL x).toBitVec &&& 255#64 = BitVec.ofNat 64 ((jL x).toBitVec.toNat % 256) := by
    apply BitVec.eq_of_toNat_eq
    rw [BitVec.toNat_and, BitVec.toNat_ofNat, BitVec.toNat_ofNat, show 255 % 2 ^ 64 = 2 ^ 8 - 1 by rfl, Nat.and_two_pow_sub_one_eq_mod]
    omega
  have e2 : (jL x).toBitVec.toNat = (x % 2 ^ 64).toNat := by
    show (BitVec.ofInt 64 x).toNat = _
    rw [BitVec.toNat_ofInt]
    rfl
  have e3 : (jL x &&& jL 255) = Int64.ofBitVec (BitVec.ofNat 64 ((jL x).toBitVec.toNat % 256)) := Int64.toBitVec_inj.mp (h.trans e)
  rw [e3, e2]
  show (BitVec.ofNat 64 ((x % 2 ^ 64).toNat % 256)).toInt = _
  rw [BitVec.toInt_eq_toNat_of_lt]
  · rw [BitVec.toNat_ofNat]
    omega
  · rw [BitVec.toNat_ofNat]
    omega
