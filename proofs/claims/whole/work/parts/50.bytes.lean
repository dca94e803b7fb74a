def uN (x : Int64) : Nat := x.toUInt64.toNat
theorem uN_lt (x : Int64) : uN x < 18446744073709551616 := x.toUInt64.toNat_lt
theorem uN_inj {x y : Int64} (h : uN x = uN y) : x = y := congrArg UInt64.toInt64 (UInt64.toNat_inj.mp h)
theorem uN_shr (x : Int64) (s : UInt64) : uN (x.toUInt64 >>> s).toInt64 = uN x / 2 ^ (s.toNat % 64) := by
  show (x.toUInt64 >>> s).toNat = _
  rw [UInt64.toNat_shiftRight, Nat.shiftRight_eq_div_pow]
  rfl
theorem uN_sk (x : Int64) {k : Nat} (hk : k < 64) : uN (x.toUInt64 >>> ((nI k).toInt64.toUInt64 &&& Int64.toUInt64 63)).toInt64 = uN x / 2 ^ k := by
  have h : ((nI k).toInt64.toUInt64 &&& Int64.toUInt64 63).toNat % 64 = k := by
    rw [nI_l (by omega), UInt64.toNat_and]
    have e : (lN k).toUInt64.toNat = k % 2 ^ 64 := rfl
    have e2 : (Int64.toUInt64 63).toNat = 2 ^ 6 - 1 := by decide
    rw [e, e2, Nat.and_two_pow_sub_one_eq_mod]
    omega
  rw [uN_shr, h]
/-! The bytes of a long, as the class and as the model take them. -/
theorem lN_uN (z : Int64) : lN (uN z) = z := by
  apply uN_inj
  exact Nat.mod_eq_of_lt (uN_lt z)
/-- the k-th byte -/
def pzB (x : Int64) (k : Nat) : Nat := uN x / 2 ^ (8 * k) % 256
theorem pzB_lt (x : Int64) (k : Nat) : pzB x k < 256 := Nat.mod_lt _ (by decide)
theorem pz_low (n : Nat) : nI n &&& (255 : Int32) = nI (n % 256) := by
  rw [pk_and (nI n) (m := 255) 8 (by decide)]
  congr 1
  have h : (nI n).toBitVec.toNat = n % 2 ^ 32 := rfl
  rw [h]
  omega
theorem pz_c (x : Int64) {k : Nat} (hk : k < 8) : ((x.toUInt64 >>> ((nI (8 * k)).toInt64.toUInt64 &&& Int64.toUInt64 63)).toInt64).toInt32 &&& (255 : Int32) = nI (pzB x k) := by
  have h := uN_sk x (k := 8 * k) (by omega)
  rw [← lN_uN ((x.toUInt64 >>> ((nI (8 * k)).toInt64.toUInt64 &&& Int64.toUInt64 63)).toInt64), h, lN_i, pz_low]
  rfl
theorem pz_sh : ∀ k, k < 8 → ((((8 : Int32) * nI k).toInt64 &&& 63).toBitVec.smod 64).toNat = 8 * k := by decide +kernel
theorem pz_m (x : Int64) {k : Nat} (hk : k < 8) : ((x >>> (((8 : Int32) * nI k).toInt64 &&& 63)) &&& (255 : Int64)).toInt32 = nI (pzB x k) := by
  have h : (x >>> (((8 : Int32) * nI k).toInt64 &&& 63)) &&& (255 : Int64) = lN (pzB x k) := by
    apply Int64.toBitVec_inj.mp
    have hs := pz_sh k hk
    rw [Int64.toBitVec_and, Int64.toBitVec_shiftRight]
    apply BitVec.eq_of_getLsbD_eq
    intro i hi
    have h255 : (255 : Int64).toBitVec = BitVec.ofNat 64 (2 ^ 8 - 1) := by decide
    have hB : (lN (pzB x k)).toBitVec = BitVec.ofNat 64 (pzB x k) := rfl
    have hx : ∀ j, x.toBitVec.getLsbD j = (uN x).testBit j := fun j => rfl
    rw [h255, hB, BitVec.getLsbD_and, BitVec.getLsbD_ofNat, BitVec.getLsbD_ofNat, Nat.testBit_two_pow_sub_one, pzB, show (256 : Nat) = 2 ^ 8 from rfl, Nat.testBit_mod_two_pow, Nat.testBit_div_two_pow, BitVec.sshiftRight', hs, BitVec.getLsbD_sshiftRight]
    by_cases h8 : i < 8
    · have h1 : i + 8 * k < 64 := by omega
      have h2 : ¬ 64 ≤ i := by omega
      simp [hi, h8, h1, h2, hx, Nat.add_comm (8 * k) i]
      rfl
    · simp [h8]
  rw [h, lN_i]
