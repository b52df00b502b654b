/-! ===== numbers: ints as longs ===== -/
theorem zw_sm : ∀ k, k < 64 → ((Int32.ofNat k).toInt64 &&& 63).toBitVec.smod 64 = BitVec.ofNat 64 k := by decide +kernel
theorem zw_um : ∀ k, k < 64 → ((Int32.ofNat k).toInt64.toUInt64 &&& Int64.toUInt64 63).toBitVec % 64 = BitVec.ofNat 64 k := by decide +kernel
theorem zw_sm32 : ∀ k, k < 32 → (Int32.ofNat k).toBitVec.smod 32 = BitVec.ofNat 32 k := by decide +kernel
theorem zw_um32 : ∀ k, k < 32 → (Int32.ofNat k).toUInt32.toBitVec % 32 = BitVec.ofNat 32 k := by decide +kernel
theorem zw_31 (y : Int32) : ∃ k, k < 32 ∧ y &&& 31 = Int32.ofNat k := ⟨y.toBitVec.toNat % 2 ^ 5, Nat.mod_lt _ (by decide), zi_low y (m := 5) (by decide)⟩
theorem zw_63 (y : Int32) : ∃ k, k < 64 ∧ y &&& 63 = Int32.ofNat k := ⟨y.toBitVec.toNat % 2 ^ 6, Nat.mod_lt _ (by decide), zi_low y (m := 6) (by decide)⟩
theorem zw_shl64 (x : Int64) {k : Nat} (h : k < 64) : (x <<< ((Int32.ofNat k).toInt64 &&& 63)).toBitVec = x.toBitVec <<< k := by
  show x.toBitVec <<< (((Int32.ofNat k).toInt64 &&& 63).toBitVec.smod 64) = _
  rw [zw_sm k h, BitVec.shiftLeft_ofNat_eq, Nat.mod_eq_of_lt (by omega)]
theorem zw_shr64 (x : Int64) {k : Nat} (h : k < 64) : (x >>> ((Int32.ofNat k).toInt64 &&& 63)).toBitVec = x.toBitVec.sshiftRight k := by
  show x.toBitVec.sshiftRight' (((Int32.ofNat k).toInt64 &&& 63).toBitVec.smod 64) = _
  rw [zw_sm k h]
  show x.toBitVec.sshiftRight (BitVec.ofNat 64 k).toNat = _
  rw [BitVec.toNat_ofNat, Nat.mod_eq_of_lt (by omega)]
theorem zw_ushr64 (x : Int64) {k : Nat} (h : k < 64) : (x.toUInt64 >>> ((Int32.ofNat k).toInt64.toUInt64 &&& Int64.toUInt64 63)).toInt64.toBitVec = x.toBitVec >>> k := by
  show x.toBitVec >>> (((Int32.ofNat k).toInt64.toUInt64 &&& Int64.toUInt64 63).toBitVec % 64) = _
  rw [zw_um k h]
  show x.toBitVec >>> (BitVec.ofNat 64 k).toNat = _
  rw [BitVec.toNat_ofNat, Nat.mod_eq_of_lt (by omega)]
theorem zw_ushr32 (x : Int32) {k : Nat} (h : k < 32) : (x.toUInt32 >>> (Int32.ofNat k).toUInt32).toInt32.toBitVec = x.toBitVec >>> k := by
  show x.toBitVec >>> ((Int32.ofNat k).toUInt32.toBitVec % 32) = _
  rw [zw_um32 k h]
  show x.toBitVec >>> (BitVec.ofNat 32 k).toNat = _
  rw [BitVec.toNat_ofNat, Nat.mod_eq_of_lt (by omega)]
theorem zw_i32 (x : Int64) : x.toInt32.toBitVec = x.toBitVec.setWidth 32 := BitVec.signExtend_eq_setWidth_of_le _ (by decide)
theorem zw_120 (x : Int64) (y : Int32) : (x <<< ((y &&& 31).toInt64 &&& 63)).toInt32 = x.toInt32 <<< (y &&& 31) := by
  obtain ⟨k, hk, e⟩ := zw_31 y
  rw [e]
  apply Int32.toBitVec_inj.mp
  have e2 : (x.toInt32 <<< Int32.ofNat k).toBitVec = x.toInt32.toBitVec <<< k := by
    show x.toInt32.toBitVec <<< ((Int32.ofNat k).toBitVec.smod 32) = _
    rw [zw_sm32 k hk, BitVec.shiftLeft_ofNat_eq, Nat.mod_eq_of_lt (by omega)]
  rw [zw_i32, zw_shl64 x (by omega), e2, zw_i32]
  apply BitVec.eq_of_getLsbD_eq
  intro i hi
  simp only [BitVec.getLsbD_setWidth, BitVec.getLsbD_shiftLeft, hi, decide_true, Bool.true_and]
  by_cases c : i < k
  · simp [c]
  · simp [c, show i < 64 by omega, show i - k < 32 by omega]
theorem zw_122 (x y : Int32) : (x.toInt64 >>> ((y &&& 31).toInt64 &&& 63)).toInt32 = x >>> (y &&& 31) := by
  obtain ⟨k, hk, e⟩ := zw_31 y
  rw [e]
  apply Int32.toBitVec_inj.mp
  rw [zw_i32, zw_shr64 _ (by omega), zi_shr0 x hk]
  apply BitVec.eq_of_getLsbD_eq
  intro i hi
  have ex : x.toInt64.toBitVec = x.toBitVec.signExtend 64 := rfl
  rw [ex, BitVec.getLsbD_setWidth, BitVec.getLsbD_sshiftRight, BitVec.getLsbD_sshiftRight, BitVec.getLsbD_signExtend]
  simp [hi, show ¬ 64 ≤ i by omega, show ¬ 32 ≤ i by omega, show k + i < 64 by omega]
theorem zw_124 (x y : Int32) : ((x.toInt64 &&& 4294967295).toUInt64 >>> ((y &&& 31).toInt64.toUInt64 &&& Int64.toUInt64 63)).toInt64.toInt32 = (x.toUInt32 >>> (y.toUInt32 &&& Int32.toUInt32 31)).toInt32 := by
  obtain ⟨k, hk, e⟩ := zw_31 y
  have e2 : y.toUInt32 &&& Int32.toUInt32 31 = (y &&& 31).toUInt32 := rfl
  rw [e2, e]
  apply Int32.toBitVec_inj.mp
  rw [zw_i32, zw_ushr64 _ (by omega), zw_ushr32 x hk]
  apply BitVec.eq_of_getLsbD_eq
  intro i hi
  have ex : (x.toInt64 &&& 4294967295).toBitVec = x.toBitVec.signExtend 64 &&& 4294967295#64 := rfl
  have em : (4294967295#64 : BitVec 64) = (BitVec.allOnes 32).setWidth 64 := by decide
  rw [ex, em, BitVec.getLsbD_setWidth, BitVec.getLsbD_ushiftRight, BitVec.getLsbD_ushiftRight, BitVec.getLsbD_and, BitVec.getLsbD_signExtend, BitVec.getLsbD_setWidth, BitVec.getLsbD_allOnes]
  by_cases c : k + i < 32
  · simp [hi, c, show k + i < 64 by omega]
  · simp [hi, c, BitVec.getLsbD_of_ge x.toBitVec (k + i) (by omega)]
theorem zw_s63 (y : Int32) : (y &&& 63).toInt64 &&& 63 = y.toInt64 &&& 63 := by
  apply Int64.toBitVec_inj.mp
  show (y.toBitVec &&& 63#32).signExtend 64 &&& 63#64 = y.toBitVec.signExtend 64 &&& 63#64
  apply BitVec.eq_of_getLsbD_eq
  intro i hi
  have em : (63#64 : BitVec 64) = (BitVec.allOnes 6).setWidth 64 := by decide
  have en : (63#32 : BitVec 32) = (BitVec.allOnes 6).setWidth 32 := by decide
  rw [em, en, BitVec.getLsbD_and, BitVec.getLsbD_and, BitVec.getLsbD_signExtend, BitVec.getLsbD_signExtend, BitVec.getLsbD_and, BitVec.getLsbD_setWidth, BitVec.getLsbD_setWidth, BitVec.getLsbD_allOnes]
  by_cases c : i < 6
  · simp [c, hi, show i < 32 by omega]
  · simp [c]
theorem zw_121 (x : Int64) (y : Int32) : x <<< ((y &&& 63).toInt64 &&& 63) = x <<< (y.toInt64 &&& 63) := by rw [zw_s63]
theorem zw_123 (x : Int64) (y : Int32) : x >>> ((y &&& 63).toInt64 &&& 63) = x >>> (y.toInt64 &&& 63) := by rw [zw_s63]
theorem zw_125 (x : Int64) (y : Int32) : (x.toUInt64 >>> ((y &&& 63).toInt64.toUInt64 &&& Int64.toUInt64 63)).toInt64 = (x.toUInt64 >>> (y.toInt64.toUInt64 &&& Int64.toUInt64 63)).toInt64 := by
  have e1 : (y &&& 63).toInt64.toUInt64 &&& Int64.toUInt64 63 = ((y &&& 63).toInt64 &&& 63).toUInt64 := rfl
  have e2 : y.toInt64.toUInt64 &&& Int64.toUInt64 63 = (y.toInt64 &&& 63).toUInt64 := rfl
  rw [e1, e2, zw_s63]
theorem zw_div (x y : Int32) : (x.toInt64 / y.toInt64).toInt32 = x / y := by
  apply Int32.toInt.inj
  rw [Int64.toInt_toInt32, Int64.toInt_div, Int32.toInt_div, Int32.toInt_toInt64, Int32.toInt_toInt64]
  exact Int.bmod_bmod_of_dvd (by decide)
theorem zw_rem (x y : Int32) : (x.toInt64 - x.toInt64 / y.toInt64 * y.toInt64).toInt32 = x - x / y * y := by
  rw [Int64.toInt32_sub, Int64.toInt32_mul, zw_div, Int32.toInt32_toInt64, Int32.toInt32_toInt64]
theorem zw_i0 {v : Int64} (h : v = v.toInt32.toInt64) : (v = 0) ↔ v.toInt32 = 0 := ⟨fun e => by rw [e]; rfl, fun e => by rw [h, e]; rfl⟩
theorem zw_122h {x : Int64} (hx : x = x.toInt32.toInt64) (y : Int32) : (x >>> ((y &&& 31).toInt64 &&& 63)).toInt32 = x.toInt32 >>> (y &&& 31) := by
  have h := zw_122 x.toInt32 y
  rwa [← hx] at h
theorem zw_124h {x : Int64} (hx : x = x.toInt32.toInt64) (y : Int32) : ((x &&& 4294967295).toUInt64 >>> ((y &&& 31).toInt64.toUInt64 &&& Int64.toUInt64 63)).toInt64.toInt32 = (x.toInt32.toUInt32 >>> (y.toUInt32 &&& Int32.toUInt32 31)).toInt32 := by
  have h := zw_124 x.toInt32 y
  rwa [← hx] at h
theorem zw_divh {x y : Int64} (hx : x = x.toInt32.toInt64) (hy : y = y.toInt32.toInt64) : (x / y).toInt32 = x.toInt32 / y.toInt32 := by
  have h := zw_div x.toInt32 y.toInt32
  rwa [← hx, ← hy] at h
theorem zw_remh {x y : Int64} (hx : x = x.toInt32.toInt64) (hy : y = y.toInt32.toInt64) : (x - x / y * y).toInt32 = x.toInt32 - x.toInt32 / y.toInt32 * y.toInt32 := by
  have h := zw_rem x.toInt32 y.toInt32
  rwa [← hx, ← hy] at h
theorem zw_cmp {a b : Int64} : (lg_cmp a b = 0) ↔ a = b := by
  unfold lg_cmp
  by_cases c : b < a
  · rw [if_pos c]
    refine ⟨fun h => absurd h (by decide), fun e => ?_⟩
    subst e
    exact absurd c (Int64.lt_irrefl)
  · rw [if_neg c]
    by_cases d : a = b
    · rw [if_pos d]; exact ⟨fun _ => d, fun _ => rfl⟩
    · rw [if_neg d]; exact ⟨fun h => absurd h (by decide), fun e => absurd e d⟩
