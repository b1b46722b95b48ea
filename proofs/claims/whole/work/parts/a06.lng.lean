set_option maxRecDepth 20000
set_option maxHeartbeats 4000000
set_option linter.all false
/-! long numbers -/
theorem lN_bv (a : Nat) : (lN a).toBitVec = BitVec.ofNat 64 a := rfl
theorem lN_and (a b : Nat) : lN a &&& lN b = lN (a &&& b) := by
  apply Int64.toBitVec_inj.mp
  rw [Int64.toBitVec_and, lN_bv, lN_bv, lN_bv]
  apply BitVec.eq_of_toNat_eq
  simp [Nat.and_mod_two_pow]
theorem lN_or (a b : Nat) : lN a ||| lN b = lN (a ||| b) := by
  apply Int64.toBitVec_inj.mp
  rw [Int64.toBitVec_or, lN_bv, lN_bv, lN_bv]
  apply BitVec.eq_of_toNat_eq
  simp [Nat.or_mod_two_pow]
theorem lN_lit (n : Nat) : (OfNat.ofNat n : Int64) = lN n := rfl
theorem l63 : ∀ s, s < 64 → (((nI s).toInt64 &&& 63).toBitVec.smod 64).toNat = s := by decide +kernel
theorem jlshlN {a s : Nat} (hs : s < 64) : jlshl (lN a) (nI s) = lN (a <<< s) := by
  apply Int64.toBitVec_inj.mp
  show ((lN a).toBitVec <<< (((nI s).toInt64 &&& 63).toBitVec.smod 64).toNat) = _
  rw [l63 s hs, lN_bv, lN_bv]
  apply BitVec.eq_of_toNat_eq
  simp [Nat.shiftLeft_eq, Nat.mod_mul_mod]
theorem jlshrN {a s : Nat} (hs : s < 64) (h : a < 2 ^ 63) : jlshr (lN a) (nI s) = lN (a >>> s) := by
  apply Int64.toInt_inj.mp
  have h2 : a >>> s ≤ a := Nat.shiftRight_le a s
  have e : (jlshr (lN a) (nI s)).toInt = (lN a).toInt >>> s := by
    show ((lN a).toBitVec.sshiftRight (((nI s).toInt64 &&& 63).toBitVec.smod 64).toNat).toInt = _
    rw [l63 s hs, BitVec.toInt_sshiftRight]; rfl
  rw [e, pk_lT h, pk_lT (by omega)]
  rfl
theorem i64_nI {n : Nat} (h : n < 2 ^ 31) : (nI n).toInt64 = lN n := nI_l h
