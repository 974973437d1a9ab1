/-! ===== bytes of a long ===== -/
theorem sh_n : ∀ k : Nat, k < 64 → ((iI k).toInt64 &&& 63).toBitVec.toNat % 64 = k ∧ ((iI k).toInt64.toUInt64 &&& Int64.toUInt64 63).toBitVec.toNat % 64 = k := by decide +kernel
/-- byte k, counted from the lowest -/
def byteL (x k : Int) : Int := x / 256 ^ k.toNat % 256
theorem land255 (x : Int) : landI x 255 = x % 256 := by
  have h : (jL x &&& jL 255).toBitVec = (jL x).toBitVec &&& 255#64 := rfl
  unfold landI
  have e : (jL x).toBitVec &&& 255#64 = BitVec.ofNat 64 ((jL x).toBitVec.toNat % 256) := by
    apply BitVec.eq_of_toNat_eq
    rw [BitVec.toNat_and, BitVec.toNat_ofNat, BitVec.toNat_ofNat, show 255 % 2 ^ 64 = 2 ^ 8 - 1 by rfl, Nat.and_two_pow_sub_one_eq_mod]
    omega
  have e2 : (jL x).toBitVec.toNat = (x % 2 ^ 64).toNat := by
    show (BitVec.ofInt 64 x).toNat = _
    rw [BitVec.toNat_ofInt]
    rfl
  have e3 : (jL x &&& jL 255) = Int64.ofBitVec (BitVec.ofNat 64 ((jL x).toBitVec.toNat % 256)) := Int64.toBitVec_inj.mp (h.trans e)
  rw [e3, e2]
  show (BitVec.ofNat 64 ((x % 2 ^ 64).toNat % 256)).toInt = _
  rw [BitVec.toInt_eq_toNat_of_lt]
  · rw [BitVec.toNat_ofNat]
    omega
  · rw [BitVec.toNat_ofNat]
    omega
theorem shs_n : ∀ k : Nat, k < 64 → (((iI k).toInt64 &&& 63).toBitVec.smod 64).toNat = k := by decide +kernel
theorem lshr_eq {x : Int} (hx : wR64 x) {n : Nat} (hn : n < 64) : lshrI x n = x / 2 ^ n := by
  have h := shs_n n hn
  unfold lshrI
  show ((jL x).toBitVec.sshiftRight' (((iI n).toInt64 &&& 63).toBitVec.smod 64)).toInt = _
  rw [BitVec.sshiftRight_eq', h, BitVec.toInt_sshiftRight, Int.shiftRight_eq_div_pow]
  show (jL x).toInt / _ = _
  rw [jL_toInt hx]
  norm_cast
theorem lushr_eq {x : Int} {n : Nat} (hn : n < 64) (h0 : 0 < n) : lushrI x n = x % 2 ^ 64 / 2 ^ n := by
  obtain ⟨h1, -, h3⟩ := bits_n n hn
  unfold lushrI
  rw [h1]
  show ((jL x).toBitVec >>> ((UInt64.ofNat n).toBitVec % 64)).toInt = _
  rw [BitVec.ushiftRight_eq']
  have e : ((UInt64.ofNat n).toBitVec % 64).toNat = n := by
    rw [BitVec.toNat_umod]
    exact h3
  rw [e, BitVec.toInt_ushiftRight]
  rw [if_neg (by omega)]
  show (((BitVec.ofInt 64 x).toNat : Int)) >>> n = _
  rw [BitVec.toNat_ofInt, Int.shiftRight_eq_div_pow]
  congr 1
  omega
