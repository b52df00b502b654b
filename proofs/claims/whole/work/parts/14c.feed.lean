/-! ===== the tape: feed of both ===== -/
theorem zb_byte (v : Int32) : ∃ c : Nat, c < 256 ∧ v &&& Int32.ofNat 255 = Int32.ofNat c ∧ v.toInt8 = Int8.ofNat c := by
  refine ⟨v.toBitVec.toNat % 256, Nat.mod_lt _ (by decide), ?_, ?_⟩
  · apply Int32.toBitVec_inj.mp
    apply BitVec.eq_of_toNat_eq
    rw [Int32.toBitVec_and, BitVec.toNat_and]
    show v.toBitVec.toNat &&& 255 = (BitVec.ofNat 32 (v.toBitVec.toNat % 256)).toNat
    rw [BitVec.toNat_ofNat, show (255 : Nat) = 2 ^ 8 - 1 from rfl, Nat.and_two_pow_sub_one_eq_mod]
    omega
  · apply Int8.toBitVec_inj.mp
    apply BitVec.eq_of_toNat_eq
    show (v.toBitVec.signExtend 8).toNat = (BitVec.ofNat 8 (v.toBitVec.toNat % 256)).toNat
    rw [BitVec.toNat_ofNat, BitVec.signExtend_eq_setWidth_of_le _ (by decide), BitVec.toNat_setWidth]
    omega
section ZFE
variable {N w b : Nat} {M : zM} {r : zv_X}
/-- Draft.append: what comes behind the tape -/
theorem ze_append (four : Int32) (m : Nat) (hm : m ≤ 4) : ∀ (j i fuel n : Nat) (C : zC), i + j = m → j < fuel → C.1 5 2 = Int32.ofNat n → n + j ≤ 200 →
    ∃ C' : zC, mX0_append_9 N fuel (b + 5) four (Int32.ofNat m) (Int32.ofNat i) (zc w b C M r) = some (zc w b C' M r) ∧ C'.1 5 2 = Int32.ofNat (n + j) ∧ C'.2 = C.2 ∧
      (∀ o k, ¬ (o = 5 ∧ k = 2) → ¬ (o = 6 ∧ n ≤ k ∧ k < n + j) → C'.1 o k = C.1 o k) ∧ ∀ q, q < j → C'.1 6 (n + q) = (four >>> (Int32.ofNat (24 - 8 * (i + q)) &&& Int32.ofNat 31)).toInt8.toInt32 := by
  intro j
  induction j with
  | zero =>
    intro i fuel n C hi hf hn hl
    obtain ⟨fuel, rfl⟩ : ∃ g, fuel = g + 1 := ⟨fuel - 1, by omega⟩
    refine ⟨C, ?_, hn, rfl, fun _ _ _ _ => rfl, fun q hq => absurd hq (Nat.not_lt_zero q)⟩
    unfold mX0_append_9
    rw [if_pos (by rw [zi_le (by omega) (by omega)]; omega)]
  | succ j ih =>
    intro i fuel n C hi hf hn hl
    obtain ⟨fuel, rfl⟩ : ∃ g, fuel = g + 1 := ⟨fuel - 1, by omega⟩
    obtain ⟨C', h1, h2, h3, h4, h5⟩ := ih (i + 1) fuel (n + 1) (zI (zI C 6 n (four >>> (Int32.ofNat (24 - 8 * i) &&& Int32.ofNat 31)).toInt8.toInt32) 5 2 (Int32.ofNat (n + 1))) (by omega) (by omega) rfl (by omega)
    refine ⟨C', ?_, by rw [h2]; congr 1; omega, h3, fun o k e1 e2 => ?_, fun q hq => ?_⟩
    · unfold mX0_append_9
      rw [if_neg (by rw [zi_le (by omega) (by omega)]; omega)]
      simp (disch := omega) only [zqk_5, zqg_5_0, zqg_5_1, zqg_5_2, zqp_5_2, zqg_5_3, zqp_5_3, zqn_6, zqa_6, zqs_6, zqn_7, zqa_7, zqs_7, Option.bind_some, ite_true, ite_false, reduceIte, zi_lit, zi_add, zi_mul, zi_sub, zi_lt, zi_le, zi_eq, zi_div, hn, zqs_6 (w := w) (b := b) (M := M) (r := r) (show n < 200 by omega)]
      simp only [zI1, zI2, zL1, zL2, zL3, zV1, zV2, zV3, zJ1, zJ2, zK1, zK2, Nat.reduceEqDiff, and_true, true_and, and_false, false_and, and_self, reduceIte, hn, Option.bind_some, zi_add, ← h1, Int8.toInt32_toInt8, Int32.toInt8_toInt32, Int8.toInt8_toInt32]
      trace_state
      sorry
    · rw [h4 o k e1 (by omega)]
      show (if o = 5 ∧ k = 2 then _ else if o = 6 ∧ k = n then _ else _) = _
      rw [if_neg e1, if_neg (by omega)]
    · cases q with
      | zero =>
        rw [h4 6 (n + 0) (by omega) (by omega)]
        show (if 6 = 5 ∧ n + 0 = 2 then _ else if 6 = 6 ∧ n + 0 = n then _ else _) = _
        rw [if_neg (by omega), if_pos (by omega)]
        rfl
      | succ q =>
        have e := h5 q (by omega)
        rw [show n + 1 + q = n + (q + 1) by omega, show i + 1 + q = i + (q + 1) by omega] at e
        exact e
end ZFE
