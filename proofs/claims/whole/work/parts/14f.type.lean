/-! ===== type: class and reference ===== -/
theorem zt_bits {a m f v : Nat} (ha : a < 2 ^ f) : (a ||| (v % 2 ^ m) <<< f) < 2 ^ (f + m) ∧ (∀ i, i < f → (a ||| (v % 2 ^ m) <<< f).testBit i = a.testBit i) ∧ ∀ k, k < m → (a ||| (v % 2 ^ m) <<< f).testBit (f + k) = v.testBit k := by
  refine ⟨?_, fun i hi => ?_, fun k hk => ?_⟩
  · have h1 : a < 2 ^ (f + m) := Nat.lt_of_lt_of_le ha (Nat.pow_le_pow_right (by decide) (Nat.le_add_right f m))
    have h2 : (v % 2 ^ m) <<< f < 2 ^ (f + m) := by
      rw [Nat.shiftLeft_eq, Nat.pow_add, Nat.mul_comm]
      exact Nat.mul_lt_mul_of_pos_left (Nat.mod_lt _ (Nat.two_pow_pos m)) (Nat.two_pow_pos f)
    exact Nat.or_lt_two_pow h1 h2
  · rw [Nat.testBit_or, Nat.testBit_shiftLeft]
    simp [Nat.not_le.mpr hi]
  · rw [Nat.testBit_or, Nat.testBit_shiftLeft, Nat.testBit_lt_two_pow (Nat.lt_of_lt_of_le ha (Nat.pow_le_pow_right (by decide) (Nat.le_add_right f k)))]
    simp [hk]
section ZTY
variable {N w b K n h : Nat} {C : zC} {M : zM} {r : zv_X} {F ρ α π c hs : Nat → Nat}
theorem ze_add (hT : zTy C M K F ρ α π) (hK : K < 30) {p m : Nat} (hp : p < K) (hm : m + F p ≤ 8) (v : Int32) :
    zHC w b (mX7_add N (b + 1) (Int32.ofNat p) (Int32.ofNat m) v) C r (fun x => (x, Int32.ofNat K)) (zI (zI (zI (zI C 2 K (Int32.ofNat (α p ||| 2 ^ K))) 3 K (Int32.ofNat (F p + m))) 4 K (Int32.ofNat (ρ p ||| (v.toBitVec.toNat % 2 ^ m) <<< F p))) 1 3 (Int32.ofNat (K + 1))) r := by
  obtain ⟨t1, t2, t3, t4, t5, t6, t7, t8⟩ := hT
  obtain ⟨p1, p2, p3, p4, p5, p6, p7, p8⟩ := t7 p hp
  intro M0
  unfold mX7_add mX7_add_0
  simp (disch := omega) only [zqk_1, zqg_1_0, zqg_1_1, zqg_1_2, zqg_1_3, zqp_1_3, zqn_2, zqa_2, zqs_2, zqn_3, zqa_3, zqs_3, zqn_4, zqa_4, zqs_4, zI1, zI2, zL1, zL2, zL3, zV1, zV2, zV3, zJ1, zJ2, zK1, zK2, Nat.reduceEqDiff, and_true, true_and, and_false, false_and, and_self, reduceIte, Option.bind_some, t1, p1, p2, p3, zi_lit, zi_add, zi_31, zi_shl, Nat.one_shiftLeft]
  have e : Int32.ofNat (2 ^ m) - Int32.ofNat 1 = Int32.ofNat (2 ^ m - 1) := zi_sub (Nat.one_le_two_pow)
  simp (disch := omega) only [e, zi_low, zi_shl, zi_or, zqk_1, zqg_1_0, zqg_1_1, zqg_1_2, zqg_1_3, zqp_1_3, zqn_2, zqa_2, zqs_2, zqn_3, zqa_3, zqs_3, zqn_4, zqa_4, zqs_4, zI1, zI2, zL1, zL2, zL3, zV1, zV2, zV3, zJ1, zJ2, zK1, zK2, Nat.reduceEqDiff, and_true, true_and, and_false, false_and, and_self, reduceIte, Option.bind_some, t1, p1, p2, p3, zi_add]
/-- the reference: the parent's kinds -/
theorem zn_type1 (p own m : Nat) (v : Int32) (hK : K < 30) (hp : p < K) (hN : 10 ≤ N) (ho : own ≤ 8) : ∀ (j i fuel : Nat) (M : zM), i + j = own → j < fuel → M.1 100 5 = Int32.ofNat K →
    ∃ M' : zM, (∀ C r, mX9_type_97 N fuel (b + 75) (Int32.ofNat p) (Int32.ofNat m) v (Int32.ofNat own) (Int32.ofNat i) (zc w b C M r) = mX9_type_140 N N (b + 75) (Int32.ofNat m) v (Int32.ofNat own) 0 (zc w b C M' r)) ∧ M'.2 = M.2 ∧
      (∀ o q, ¬ (o = 4 ∧ 8 * K + i ≤ q ∧ q < 8 * K + own) → M'.1 o q = M.1 o q) ∧ ∀ q, i ≤ q → q < own → M'.1 4 (8 * K + q) = M.1 4 (8 * p + q) := by
  intro j
  induction j with
  | zero =>
    intro i fuel M hi hf hM
    obtain ⟨fuel, rfl⟩ : ∃ g, fuel = g + 1 := ⟨fuel - 1, by omega⟩
    refine ⟨M, fun C r => ?_, rfl, fun _ _ _ => rfl, fun q h1 h2 => absurd h1 (by omega)⟩
    conv => lhs; unfold mX9_type_97
    rw [if_pos (by rw [zi_le (by omega) (by omega)]; omega)]
  | succ j ih =>
    intro i fuel M hi hf hM
    obtain ⟨fuel, rfl⟩ : ∃ g, fuel = g + 1 := ⟨fuel - 1, by omega⟩
    obtain ⟨M', h1, h2, h3, h4⟩ := ih (i + 1) fuel (zJ M 4 (8 * K + i) (M.1 4 (8 * p + i))) (by omega) (by omega) hM
    refine ⟨M', fun C r => ?_, h2, fun o q e => ?_, fun q e1 e2 => ?_⟩
    · conv => lhs; unfold mX9_type_97
      rw [if_neg (by rw [zi_le (by omega) (by omega)]; omega)]
      simp (disch := omega) only [zqg_75_4, zqg_75_5, zqa_78, zqs_78, Option.bind_some, hM, zi_lit, zi_mul, zi_add, h1]
    · rw [h3 o q (by omega), zJ1, if_neg (by omega)]
    · by_cases c : q = i
      · subst c
        rw [h3 4 _ (by omega), zJ1, if_pos (by omega)]
      · rw [h4 q (by omega) e2, zJ1, if_neg (by omega)]
/-- the reference: its own kinds, and the class's end -/
theorem zn_type2 (own m : Nat) (v : Int32) (hK : K < 30) (ho : own + m ≤ 8) : ∀ (j i fuel : Nat) (M : zM), i + j = m → j < fuel → M.1 100 5 = Int32.ofNat K →
    ∃ M' : zM, zHM w b (mX9_type_140 N fuel (b + 75) (Int32.ofNat m) v (Int32.ofNat own) (Int32.ofNat i)) M (fun x => (x, Int32.ofNat K)) M' ∧ M'.2 = M.2 ∧ M'.1 100 5 = Int32.ofNat (K + 1) ∧ M'.1 3 K = Int32.ofNat (own + m) ∧
      (∀ o q, ¬ (o = 4 ∧ 8 * K + own + i ≤ q ∧ q < 8 * K + own + m) → ¬ (o = 3 ∧ q = K) → ¬ (o = 100 ∧ q = 5) → M'.1 o q = M.1 o q) ∧ ∀ q, i ≤ q → q < m → M'.1 4 (8 * K + own + q) = Int32.ofNat (if v.toBitVec.toNat.testBit q then 3 else 1) := by
  intro j
  induction j with
  | zero =>
    intro i fuel M hi hf hM
    obtain ⟨fuel, rfl⟩ : ∃ g, fuel = g + 1 := ⟨fuel - 1, by omega⟩
    refine ⟨zJ (zJ M 3 K (Int32.ofNat (own + m))) 100 5 (Int32.ofNat (K + 1)), fun C r => ?_, rfl, rfl, ?_, fun o q e1 e2 e3 => ?_, fun q h1 h2 => absurd h1 (by omega)⟩
    · unfold mX9_type_140
      rw [if_pos (by rw [zi_le (by omega) (by omega)]; omega)]
      simp (disch := omega) only [zqg_75_3, zqg_75_5, zqp_75_5, zqs_77, zI1, zI2, zL1, zL2, zL3, zV1, zV2, zV3, zJ1, zJ2, zK1, zK2, Nat.reduceEqDiff, and_true, true_and, and_false, false_and, and_self, reduceIte, Option.bind_some, hM, zi_lit, zi_mul, zi_add, zi_sub, Nat.add_sub_cancel]
    · simp only [zI1, zI2, zL1, zL2, zL3, zV1, zV2, zV3, zJ1, zJ2, zK1, zK2, Nat.reduceEqDiff, and_true, true_and, and_false, false_and, and_self, reduceIte]
    · rw [zJ1, if_neg (by omega), zJ1, if_neg (by omega)]
  | succ j ih =>
    intro i fuel M hi hf hM
    obtain ⟨fuel, rfl⟩ : ∃ g, fuel = g + 1 := ⟨fuel - 1, by omega⟩
    obtain ⟨M', h1, h2, h3, h4, h5, h6⟩ := ih (i + 1) fuel (zJ M 4 (8 * K + own + i) (Int32.ofNat (if v.toBitVec.toNat.testBit i then 3 else 1))) (by omega) (by omega) hM
    refine ⟨M', fun C r => ?_, h2, h3, h4, fun o q e1 e2 e3 => ?_, fun q e1 e2 => ?_⟩
    · unfold mX9_type_140
      rw [if_neg (by rw [zi_le (by omega) (by omega)]; omega)]
      have hb := zi_bit v (s := i) (by omega)
      unfold mX9_type_178
      simp (disch := omega) only [zqg_75_4, zqg_75_5, Option.bind_some, hM, zi_lit, zi_mul, zi_add, zi_31, hb, BitVec.getLsbD]
      by_cases c : v.toBitVec.toNat.testBit i = true
      · rw [if_pos c] at h1 ⊢
        rw [zqs_78 (by omega), Option.bind_some]
        exact h1 C r
      · rw [if_neg c] at h1 ⊢
        rw [zqs_78 (by omega), Option.bind_some]
        exact h1 C r
    · rw [h5 o q (by omega) e2 e3, zJ1, if_neg (by omega)]
    · by_cases c : q = i
      · subst c
        rw [h5 4 _ (by omega) (by omega) (by omega), zJ1, if_pos (by omega)]
      · exact h6 q (by omega) e2
theorem zn_type_x (a1 a2 a3 v : Int32) (hv : ¬ v ≤ 0) : zHM w b (fun x => mX9_type_64 N (b + 75) a1 a2 a3 v (b + 75) x) M (fun x => (x, 0)) (zJ M 100 0 v) := by
  intro C r
  unfold mX9_type_64
  simp only [zqp_75_0, zqg_75_0, Option.bind_some, zI1, zI2, zL1, zL2, zL3, zV1, zV2, zV3, zJ1, zJ2, zK1, zK2, Nat.reduceEqDiff, and_true, true_and, and_false, false_and, and_self, reduceIte]
  rw [if_neg hv]
end ZTY
