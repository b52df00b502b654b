/-! ===== ints that are natural numbers ===== -/
theorem zi_lit (n : Nat) : (OfNat.ofNat n : Int32) = Int32.ofNat (OfNat.ofNat n) := rfl
theorem zi_add (a b : Nat) : Int32.ofNat a + Int32.ofNat b = Int32.ofNat (a + b) := (Int32.ofNat_add a b).symm
theorem zi_mul (a b : Nat) : Int32.ofNat a * Int32.ofNat b = Int32.ofNat (a * b) := (Int32.ofNat_mul a b).symm
theorem zi_sub {a b : Nat} (h : b ≤ a) : Int32.ofNat a - Int32.ofNat b = Int32.ofNat (a - b) := (Int32.ofNat_sub a b h).symm
theorem zi_lt {a b : Nat} (ha : a < 2 ^ 31) (hb : b < 2 ^ 31) : (Int32.ofNat a < Int32.ofNat b) = (a < b) := propext (Int32.ofNat_lt_iff_lt ha hb)
theorem zi_le {a b : Nat} (ha : a < 2 ^ 31) (hb : b < 2 ^ 31) : (Int32.ofNat a ≤ Int32.ofNat b) = (a ≤ b) := propext (Int32.ofNat_le_iff_le ha hb)
theorem zi_inj {a b : Nat} (ha : a < 2 ^ 31) (hb : b < 2 ^ 31) (h : Int32.ofNat a = Int32.ofNat b) : a = b := by
  have := congrArg Int32.toNatClampNeg h
  rwa [Int32.toNatClampNeg_ofNat_of_lt ha, Int32.toNatClampNeg_ofNat_of_lt hb] at this
theorem zi_eq {a b : Nat} (ha : a < 2 ^ 31) (hb : b < 2 ^ 31) : (Int32.ofNat a = Int32.ofNat b) = (a = b) := propext ⟨zi_inj ha hb, fun h => by rw [h]⟩
theorem zi_cl {n : Nat} (h : n < 2 ^ 31) : (Int32.ofNat n).toNatClampNeg = n := Int32.toNatClampNeg_ofNat_of_lt h
theorem zi_div {a b : Nat} (ha : a < 2 ^ 31) (hb : b < 2 ^ 31) : Int32.ofNat a / Int32.ofNat b = Int32.ofNat (a / b) := (Int32.ofNat_div ha hb).symm
theorem zi_nn {n : Nat} (h : n < 2 ^ 31) : (Int32.ofNat n < 0) = False := by
  rw [show (0 : Int32) = Int32.ofNat 0 from rfl, zi_lt h (by decide)]
  exact eq_false (Nat.not_lt_zero n)
theorem zi_p0 {n : Nat} (h : n < 2 ^ 31) : (0 ≤ Int32.ofNat n) = True := by
  rw [show (0 : Int32) = Int32.ofNat 0 from rfl, zi_le (by decide) h]
  exact eq_true (Nat.zero_le n)
/-- an int that is not below 0 -/
theorem zi_of {v : Int32} (h : 0 ≤ v) : ∃ n : Nat, v = Int32.ofNat n ∧ n < 2 ^ 31 := ⟨v.toNatClampNeg, (Int32.ofNat_toNatClampNeg v h).symm, Int32.toNatClampNeg_lt v⟩
theorem zi_nlt {a b : Int32} : (¬ a < b) ↔ b ≤ a := Int32.not_lt
theorem zi_neg1 {n : Nat} (h : n < 2 ^ 31) : (Int32.ofNat n = -1) = False := by
  refine eq_false fun e => ?_
  have h1 := zi_nn h
  rw [e] at h1
  exact absurd (by decide : (-1 : Int32) < 0) (by rw [h1]; exact id)
theorem zi_l64 {n : Nat} (h : n < 2 ^ 31) : (Int32.ofNat n).toInt64 = Int64.ofNat n := Int32.toInt64_ofNat' (by show (n : Int) ≤ 2147483647; omega)
/-- ints 0 .. 400 that come of a bound -/
theorem zi_between {v : Int32} {k : Nat} (hk : k < 2 ^ 31) (h1 : ¬ v < 0) (h2 : ¬ Int32.ofNat k < v) : ∃ n : Nat, v = Int32.ofNat n ∧ n ≤ k := by
  obtain ⟨n, rfl, hn⟩ := zi_of (zi_nlt.mp h1)
  rw [zi_lt hk hn] at h2
  exact ⟨n, rfl, Nat.le_of_not_lt h2⟩
/-! reading a store behind a change -/
section ZST
variable {C : zC} {M : zM} {o k p q : Nat}
theorem zI1 {v : Int32} : (zI C o k v).1 p q = if p = o ∧ q = k then v else C.1 p q := rfl
theorem zI2 {v : Int32} : (zI C o k v).2 = C.2 := rfl
theorem zL1 {v : Int64} : (zL C o k v).1 = C.1 := rfl
theorem zL2 {v : Int64} : (zL C o k v).2.1 p q = if p = o ∧ q = k then v else C.2.1 p q := rfl
theorem zL3 {v : Int64} : (zL C o k v).2.2 = C.2.2 := rfl
theorem zV1 {v : Value} : (zV C o k v).1 = C.1 := rfl
theorem zV2 {v : Value} : (zV C o k v).2.1 = C.2.1 := rfl
theorem zV3 {v : Value} : (zV C o k v).2.2 p q = if p = o ∧ q = k then v else C.2.2 p q := rfl
theorem zJ1 {v : Int32} : (zJ M o k v).1 p q = if p = o ∧ q = k then v else M.1 p q := rfl
theorem zJ2 {v : Int32} : (zJ M o k v).2 = M.2 := rfl
theorem zK1 {v : Int64} : (zK M o k v).1 = M.1 := rfl
theorem zK2 {v : Int64} : (zK M o k v).2 p q = if p = o ∧ q = k then v else M.2 p q := rfl
end ZST
