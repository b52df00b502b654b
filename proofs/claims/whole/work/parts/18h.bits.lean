/-! ===== packed elements ===== -/
def zsb (m : Nat) (x : Int32) (s : Nat) (v : Int32) : Int32 := (x &&& ((Int32.ofNat (2 ^ m - 1) <<< Int32.ofNat s) ^^^ (-1))) ||| ((v &&& Int32.ofNat (2 ^ m - 1)) <<< Int32.ofNat s)
theorem zi_shlB (v : Int32) {s : Nat} (h : s < 32) : (v <<< Int32.ofNat s).toBitVec = v.toBitVec <<< s := by
  show v.toBitVec <<< ((BitVec.ofNat 32 s).smod 32) = _
  rw [zi_smod s h, BitVec.shiftLeft_ofNat_eq, Nat.mod_eq_of_lt (by omega)]
theorem zsb_bit {m s j : Nat} (x v : Int32) (h : s + m ≤ 32) (hm : 0 < m) (hj : j < 32) : (zsb m x s v).toBitVec.getLsbD j = if s ≤ j ∧ j < s + m then v.toBitVec.getLsbD (j - s) else x.toBitVec.getLsbD j := by
  unfold zsb
  rw [Int32.toBitVec_or, Int32.toBitVec_and, Int32.toBitVec_xor, zi_shlB _ (by omega), zi_shlB _ (by omega), Int32.toBitVec_and, Int32.toBitVec_ofNat', show (-1 : Int32).toBitVec = BitVec.allOnes 32 by decide]
  rw [BitVec.getLsbD_or, BitVec.getLsbD_and, BitVec.getLsbD_xor, BitVec.getLsbD_shiftLeft, BitVec.getLsbD_shiftLeft, BitVec.getLsbD_and, BitVec.getLsbD_ofNat, BitVec.getLsbD_allOnes, Nat.testBit_two_pow_sub_one]
  by_cases c : s ≤ j ∧ j < s + m
  · have c1 : ¬ j < s := by omega
    have c2 : j - s < m := by omega
    have c3 : j - s < 32 := by omega
    rw [if_pos c]
    simp [hj, c1, c2, c3]
  · rw [if_neg c]
    by_cases c1 : j < s
    · simp [hj, c1]
    · have c2 : ¬ j - s < m := by omega
      simp [hj, c1, c2]
theorem zx_shr (a : Int32) {s i : Nat} (h : s + i < 32) : (a >>> Int32.ofNat s).toBitVec.getLsbD i = a.toBitVec.getLsbD (s + i) := by
  rw [zi_shr0 a (by omega), BitVec.getLsbD_sshiftRight]
  have c1 : ¬ 32 ≤ i := by omega
  simp [c1, h]
theorem zx8 (a : Int32) {i : Nat} (h : i < 8) : a.toInt8.toBitVec.getLsbD i = a.toBitVec.getLsbD i := by
  rw [Int32.toBitVec_toInt8, BitVec.getLsbD_signExtend]
  have c1 : i < 32 := by omega
  simp [h, c1]
theorem zx16 (a : Int32) {i : Nat} (h : i < 16) : a.toInt16.toBitVec.getLsbD i = a.toBitVec.getLsbD i := by
  rw [Int32.toBitVec_toInt16, BitVec.getLsbD_signExtend]
  have c1 : i < 32 := by omega
  simp [h, c1]
theorem ze8 {a c : Int32} (h : ∀ i, i < 8 → a.toBitVec.getLsbD i = c.toBitVec.getLsbD i) : a.toInt8 = c.toInt8 := Int8.toBitVec_inj.mp (BitVec.eq_of_getLsbD_eq fun i hi => by rw [zx8 a hi, zx8 c hi]; exact h i hi)
theorem ze16 {a c : Int32} (h : ∀ i, i < 16 → a.toBitVec.getLsbD i = c.toBitVec.getLsbD i) : a.toInt16 = c.toInt16 := Int16.toBitVec_inj.mp (BitVec.eq_of_getLsbD_eq fun i hi => by rw [zx16 a hi, zx16 c hi]; exact h i hi)
theorem zeu {a c : Int32} (h : ∀ i, i < 16 → a.toBitVec.getLsbD i = c.toBitVec.getLsbD i) : a.toUInt32 % 65536 = c.toUInt32 % 65536 := by
  apply UInt32.toNat_inj.mp
  rw [UInt32.toNat_mod, UInt32.toNat_mod]
  show a.toBitVec.toNat % 2 ^ 16 = c.toBitVec.toNat % 2 ^ 16
  apply Nat.eq_of_testBit_eq
  intro i
  rw [Nat.testBit_mod_two_pow, Nat.testBit_mod_two_pow, BitVec.testBit_toNat, BitVec.testBit_toNat]
  by_cases c1 : i < 16
  · rw [h i c1]
  · simp [c1]
/-- bits of another element stay -/
theorem zsb_other {m s s' i : Nat} (x v : Int32) (h : s + m ≤ 32) (h' : s' + m ≤ 32) (hm : 0 < m) (hd : s + m ≤ s' ∨ s' + m ≤ s) (hi : i < m) : (zsb m x s v >>> Int32.ofNat s').toBitVec.getLsbD i = (x >>> Int32.ofNat s').toBitVec.getLsbD i := by
  rw [zx_shr _ (by omega), zx_shr _ (by omega), zsb_bit x v h hm (by omega), if_neg (by omega)]
theorem zsb_self {m s i : Nat} (x v : Int32) (h : s + m ≤ 32) (hm : 0 < m) (hi : i < m) : (zsb m x s v >>> Int32.ofNat s).toBitVec.getLsbD i = v.toBitVec.getLsbD i := by
  rw [zx_shr _ (by omega), zsb_bit x v h hm (by omega), if_pos (by omega), Nat.add_sub_cancel_left]
theorem zl_shr32 (v : Int64) : (v >>> (32 : Int64)).toBitVec = v.toBitVec.sshiftRight 32 := by
  show v.toBitVec.sshiftRight' ((32#64).smod 64) = _
  rw [show (32#64).smod 64 = 32#64 by decide]
  rfl
theorem zl_shl32 (v : Int64) : (v <<< (32 : Int64)).toBitVec = v.toBitVec <<< 32 := by
  show v.toBitVec <<< ((32#64).smod 64) = _
  rw [show (32#64).smod 64 = 32#64 by decide]
  rfl
theorem zj11 (v : Int64) : ((Int32.toInt64 (Int64.toInt32 (v >>> (Int32.toInt64 (32 : Int32) &&& 63)))) <<< (Int32.toInt64 (32 : Int32) &&& 63)) ||| ((Int32.toInt64 (Int64.toInt32 v)) &&& (4294967295 : Int64)) = v := by
  rw [show (Int32.toInt64 (32 : Int32) &&& 63 : Int64) = 32 by decide]
  apply Int64.toBitVec_inj.mp
  rw [Int64.toBitVec_or, zl_shl32, Int32.toBitVec_toInt64, Int64.toBitVec_toInt32, zl_shr32, Int64.toBitVec_and, Int32.toBitVec_toInt64, Int64.toBitVec_toInt32, show (4294967295 : Int64).toBitVec = BitVec.ofNat 64 (2 ^ 32 - 1) by decide]
  apply BitVec.eq_of_getLsbD_eq
  intro i hi
  rw [BitVec.getLsbD_or, BitVec.getLsbD_shiftLeft, BitVec.getLsbD_and, BitVec.getLsbD_ofNat, Nat.testBit_two_pow_sub_one, BitVec.getLsbD_signExtend, BitVec.getLsbD_signExtend, BitVec.getLsbD_signExtend, BitVec.getLsbD_signExtend, BitVec.getLsbD_sshiftRight]
  by_cases c : i < 32
  · simp [c, hi]
  · have c1 : i - 32 < 32 := by omega
    have c2 : i - 32 < 64 := by omega
    have c3 : 32 + (i - 32) = i := by omega
    have c4 : ¬ 64 ≤ i - 32 := by omega
    simp [c, hi, c1, c2, c3, c4]
theorem zj4 (v : Int64) : (Int32.toInt8 (v.toInt32 &&& 1)).toInt32.toInt64 = v &&& 1 := by
  have e1 : (v.toInt32 &&& 1).toBitVec = (BitVec.ofBool (v.toBitVec.getLsbD 0)).setWidth 32 := by
    rw [Int32.toBitVec_and, Int64.toBitVec_toInt32]
    show v.toBitVec.signExtend 32 &&& 1#32 = _
    rw [BitVec.and_one_eq_setWidth_ofBool_getLsbD, BitVec.getLsbD_signExtend]
    simp
  have e2 : (v &&& 1).toBitVec = (BitVec.ofBool (v.toBitVec.getLsbD 0)).setWidth 64 := by
    rw [Int64.toBitVec_and]
    show v.toBitVec &&& 1#64 = _
    rw [BitVec.and_one_eq_setWidth_ofBool_getLsbD]
  apply Int64.toBitVec_inj.mp
  rw [Int32.toBitVec_toInt64]
  show ((v.toInt32 &&& 1).toInt8.toBitVec.signExtend 32).signExtend 64 = _
  rw [Int32.toBitVec_toInt8, e1, e2]
  cases v.toBitVec.getLsbD 0 <;> decide
