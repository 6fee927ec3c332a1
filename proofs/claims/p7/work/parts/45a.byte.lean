/-! bytes of a word, as both sides take them -/
section BYT
/-- the low byte -/
def lb (y : Int32) : Nat := (y &&& 255).toBitVec.toNat
theorem lb_mod (y : Int32) : lb y = y.toBitVec.toNat % 256 := by
  unfold lb
  rw [Int32.toBitVec_and, BitVec.toNat_and]
  exact Nat.and_two_pow_sub_one_eq_mod _ 8
theorem lb_256 (y : Int32) : lb y < 256 := by
  rw [lb_mod]
  exact Nat.mod_lt _ (by decide)
theorem lb_nI (y : Int32) : y &&& 255 = nI (lb y) := by
  apply Int32.toBitVec_inj.mp
  apply BitVec.eq_of_toNat_eq
  show lb y = (nI (lb y)).toBitVec.toNat
  have h := lb_256 y
  generalize lb y = k at h
  revert k
  decide +kernel
theorem sb_256 : ∀ k, k < 256 → (nI k).toInt8.toInt32 = sb k ∧ (nI k).toInt8.toInt32.toInt8.toInt32 = sb k := by decide +kernel
theorem i8_and (y : Int32) : y.toInt8 = (y &&& 255).toInt8 := by
  apply Int8.toBitVec_inj.mp
  rw [Int32.toBitVec_toInt8, Int32.toBitVec_toInt8, Int32.toBitVec_and, BitVec.signExtend_eq_setWidth_of_le _ (by decide), BitVec.signExtend_eq_setWidth_of_le _ (by decide), BitVec.setWidth_and]
  have e : BitVec.setWidth 8 (255 : Int32).toBitVec = BitVec.allOnes 8 := by decide
  rw [e, BitVec.and_allOnes]
theorem sb_lb (y : Int32) : y.toInt8.toInt32 = sb (lb y) ∧ y.toInt8.toInt32.toInt8.toInt32 = sb (lb y) := by
  rw [i8_and, lb_nI]
  exact sb_256 _ (lb_256 y)
end BYT
