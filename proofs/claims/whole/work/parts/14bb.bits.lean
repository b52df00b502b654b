/-! ===== bits of ints ===== -/
theorem zi_and (a b : Nat) : Int32.ofNat a &&& Int32.ofNat b = Int32.ofNat (a &&& b) := Int32.toBitVec_inj.mp (by
  rw [Int32.toBitVec_and]
  show BitVec.ofNat 32 a &&& BitVec.ofNat 32 b = BitVec.ofNat 32 (a &&& b)
  rw [BitVec.ofNat_and])
theorem zi_or (a b : Nat) : Int32.ofNat a ||| Int32.ofNat b = Int32.ofNat (a ||| b) := Int32.toBitVec_inj.mp (by
  rw [Int32.toBitVec_or]
  show BitVec.ofNat 32 a ||| BitVec.ofNat 32 b = BitVec.ofNat 32 (a ||| b)
  rw [BitVec.ofNat_or])
theorem zi_31 {s : Nat} (h : s < 32) : Int32.ofNat s &&& Int32.ofNat 31 = Int32.ofNat s := by
  rw [zi_and, show (31 : Nat) = 2 ^ 5 - 1 from rfl, Nat.and_two_pow_sub_one_eq_mod, Nat.mod_eq_of_lt h]
theorem zi_smod : ∀ s, s < 32 → (BitVec.ofNat 32 s).smod 32 = BitVec.ofNat 32 s := by decide +kernel
theorem zi_shl {a s : Nat} (h : s < 32) : Int32.ofNat a <<< Int32.ofNat s = Int32.ofNat (a <<< s) := Int32.toBitVec_inj.mp (by
  show BitVec.ofNat 32 a <<< ((BitVec.ofNat 32 s).smod 32) = BitVec.ofNat 32 (a <<< s)
  rw [zi_smod s h, BitVec.shiftLeft_ofNat_eq, Nat.mod_eq_of_lt (by omega)]
  apply BitVec.eq_of_toNat_eq
  rw [BitVec.toNat_shiftLeft, BitVec.toNat_ofNat, BitVec.toNat_ofNat, Nat.shiftLeft_eq, Nat.shiftLeft_eq, Nat.mul_mod, Nat.mod_mod, ← Nat.mul_mod])
theorem zi_shr0 (v : Int32) {s : Nat} (h : s < 32) : (v >>> Int32.ofNat s).toBitVec = v.toBitVec.sshiftRight s := by
  show v.toBitVec.sshiftRight' ((BitVec.ofNat 32 s).smod 32) = v.toBitVec.sshiftRight s
  rw [zi_smod s h]
  show v.toBitVec.sshiftRight (BitVec.ofNat 32 s).toNat = _
  rw [BitVec.toNat_ofNat, Nat.mod_eq_of_lt (by omega)]
theorem zi_shr {a s : Nat} (ha : a < 2 ^ 31) (h : s < 32) : Int32.ofNat a >>> Int32.ofNat s = Int32.ofNat (a >>> s) := Int32.toBitVec_inj.mp (by
  rw [zi_shr0 _ h]
  have hm : (BitVec.ofNat 32 a).msb = false := by
    rw [BitVec.msb_eq_false_iff_two_mul_lt, BitVec.toNat_ofNat, Nat.mod_eq_of_lt (by omega)]
    omega
  show (BitVec.ofNat 32 a).sshiftRight s = BitVec.ofNat 32 (a >>> s)
  rw [BitVec.sshiftRight_eq_of_msb_false hm]
  apply BitVec.eq_of_toNat_eq
  have e : a >>> s ≤ a := by rw [Nat.shiftRight_eq_div_pow]; exact Nat.div_le_self _ _
  rw [BitVec.toNat_ushiftRight, BitVec.toNat_ofNat, BitVec.toNat_ofNat, Nat.mod_eq_of_lt (by omega), Nat.mod_eq_of_lt (by omega)])
theorem zi_bit (v : Int32) {s : Nat} (h : s < 32) : ((v >>> Int32.ofNat s) &&& Int32.ofNat 1 = Int32.ofNat 1) = (v.toBitVec.getLsbD s = true) := by
  refine propext ?_
  rw [← Int32.toBitVec_inj, Int32.toBitVec_and, zi_shr0 v h]
  show v.toBitVec.sshiftRight s &&& 1#32 = 1#32 ↔ _
  have e : (v.toBitVec.sshiftRight s).getLsbD 0 = v.toBitVec.getLsbD s := by
    rw [BitVec.getLsbD_sshiftRight]
    simp [h]
  rw [BitVec.and_one_eq_setWidth_ofBool_getLsbD, e]
  cases v.toBitVec.getLsbD s <;> decide
theorem zi_bitN {a s : Nat} (ha : a < 2 ^ 31) (h : s < 32) : ((Int32.ofNat a >>> Int32.ofNat s) &&& Int32.ofNat 1 = Int32.ofNat 1) = (a.testBit s = true) := by
  rw [zi_bit _ h]
  show ((BitVec.ofNat 32 a).getLsbD s = true) = _
  rw [BitVec.getLsbD_ofNat]
  simp [h]
/-- an int's lowest bits -/
theorem zi_low (v : Int32) {m : Nat} (h : m ≤ 32) : v &&& Int32.ofNat (2 ^ m - 1) = Int32.ofNat (v.toBitVec.toNat % 2 ^ m) := Int32.toBitVec_inj.mp (by
  rw [Int32.toBitVec_and]
  show v.toBitVec &&& BitVec.ofNat 32 (2 ^ m - 1) = BitVec.ofNat 32 (v.toBitVec.toNat % 2 ^ m)
  apply BitVec.eq_of_toNat_eq
  have hp : 2 ^ m ≤ 2 ^ 32 := Nat.pow_le_pow_right (by decide) h
  have hm : v.toBitVec.toNat % 2 ^ m < 2 ^ m := Nat.mod_lt _ (Nat.two_pow_pos m)
  rw [BitVec.toNat_and, BitVec.toNat_ofNat, BitVec.toNat_ofNat, Nat.mod_eq_of_lt (by omega), Nat.mod_eq_of_lt (by omega), Nat.and_two_pow_sub_one_eq_mod])
