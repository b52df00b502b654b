/-! ===== the tape: feed of both ===== -/
/-- an int's lowest byte -/
def zby (v : Int32) : Nat := v.toBitVec.toNat % 256
theorem zby_lt (v : Int32) : zby v < 256 := Nat.mod_lt _ (by decide)
theorem zby_and (v : Int32) : v &&& Int32.ofNat 255 = Int32.ofNat (zby v) := by
  apply Int32.toBitVec_inj.mp
  apply BitVec.eq_of_toNat_eq
  rw [Int32.toBitVec_and, BitVec.toNat_and]
  show v.toBitVec.toNat &&& 255 = (BitVec.ofNat 32 (v.toBitVec.toNat % 256)).toNat
  rw [BitVec.toNat_ofNat, show (255 : Nat) = 2 ^ 8 - 1 from rfl, Nat.and_two_pow_sub_one_eq_mod]
  omega
theorem zby_8 (v : Int32) : v.toInt8 = Int8.ofNat (zby v) := by
  apply Int8.toBitVec_inj.mp
  apply BitVec.eq_of_toNat_eq
  show (v.toBitVec.signExtend 8).toNat = (BitVec.ofNat 8 (v.toBitVec.toNat % 256)).toNat
  rw [BitVec.toNat_ofNat, BitVec.signExtend_eq_setWidth_of_le _ (by decide), BitVec.toNat_setWidth]
  omega
/-- the bytes that are fed -/
def zfw (a1 a2 a3 a4 a5 : Int32) (k : Nat) : Int32 := if k < 4 then a1 else if k < 8 then a2 else if k < 12 then a3 else if k < 16 then a4 else a5
def zfb (a1 a2 a3 a4 a5 : Int32) (k : Nat) : Nat := zby (zfw a1 a2 a3 a4 a5 k >>> (Int32.ofNat (24 - 8 * (k % 4)) &&& Int32.ofNat 31))
/-- what a mirror does to the class's store, and to the reference's -/
def zHC {β : Type} (w b : Nat) (m : zv_X → Option β) (C : zC) (r : zv_X) (o : zv_X → β) (C' : zC) (r' : zv_X) : Prop := ∀ M : zM, m (zc w b C M r) = some (o (zc w b C' M r'))
def zHM {β : Type} (w b : Nat) (m : zv_X → Option β) (M : zM) (o : zv_X → β) (M' : zM) : Prop := ∀ (C : zC) (r : zv_X), m (zc w b C M r) = some (o (zc w b C M' r))
section ZFE
variable {N w b : Nat} {C : zC} {r : zv_X}
/-- Draft.append: what comes behind the tape -/
theorem ze_append (four : Int32) (m : Nat) (hm : m ≤ 4) : ∀ (j i fuel n : Nat) (C : zC), i + j = m → j < fuel → C.1 5 2 = Int32.ofNat n → n + j ≤ 200 →
    ∃ C' : zC, zHC w b (mX0_append_9 N fuel (b + 5) four (Int32.ofNat m) (Int32.ofNat i)) C r id C' r ∧ C'.1 5 2 = Int32.ofNat (n + j) ∧ C'.2 = C.2 ∧
      (∀ o k, ¬ (o = 5 ∧ k = 2) → ¬ (o = 6 ∧ n ≤ k ∧ k < n + j) → C'.1 o k = C.1 o k) ∧ ∀ q, q < j → C'.1 6 (n + q) = (four >>> (Int32.ofNat (24 - 8 * (i + q)) &&& Int32.ofNat 31)).toInt8.toInt32 := by
  intro j
  induction j with
  | zero =>
    intro i fuel n C hi hf hn hl
    obtain ⟨fuel, rfl⟩ : ∃ g, fuel = g + 1 := ⟨fuel - 1, by omega⟩
    refine ⟨C, fun M => ?_, hn, rfl, fun _ _ _ _ => rfl, fun q hq => absurd hq (Nat.not_lt_zero q)⟩
    unfold mX0_append_9
    rw [if_pos (by rw [zi_le (by omega) (by omega)]; omega)]
    rfl
  | succ j ih =>
    intro i fuel n C hi hf hn hl
    obtain ⟨fuel, rfl⟩ : ∃ g, fuel = g + 1 := ⟨fuel - 1, by omega⟩
    obtain ⟨C', h1, h2, h3, h4, h5⟩ := ih (i + 1) fuel (n + 1) (zI (zI C 6 n (four >>> (Int32.ofNat (24 - 8 * i) &&& Int32.ofNat 31)).toInt8.toInt32) 5 2 (Int32.ofNat (n + 1))) (by omega) (by omega) rfl (by omega)
    refine ⟨C', fun M => ?_, by rw [h2]; congr 1; omega, h3, fun o k e1 e2 => ?_, fun q hq => ?_⟩
    · unfold mX0_append_9
      rw [if_neg (by rw [zi_le (by omega) (by omega)]; omega)]
      simp (disch := omega) only [zqk_5, zqg_5_0, zqg_5_1, zqg_5_2, zqp_5_2, zqg_5_3, zqp_5_3, zqn_6, zqa_6, zqs_6, zqn_7, zqa_7, zqs_7, Option.bind_some, ite_true, ite_false, reduceIte, zi_lit, zi_add, zi_mul, zi_sub, zi_lt, zi_le, zi_eq, zi_div, hn, zqs_6 (w := w) (b := b) (r := r) (show n < 200 by omega)]
      simp only [zI1, zI2, zL1, zL2, zL3, zV1, zV2, zV3, zJ1, zJ2, zK1, zK2, Nat.reduceEqDiff, and_true, true_and, and_false, false_and, and_self, reduceIte, hn, Option.bind_some, zi_add, ← h1 M, Int8.toInt8_toInt32]
    · rw [h4 o k e1 (by omega)]
      show (if o = 5 ∧ k = 2 then _ else if o = 6 ∧ k = n then _ else _) = _
      rw [if_neg e1, if_neg (by omega)]
    · cases q with
      | zero =>
        rw [h4 6 (n + 0) (by omega) (by omega)]
        rw [zI1, if_neg (by omega), zI1, if_pos (by omega)]
        rfl
      | succ q =>
        have e := h5 q (by omega)
        rw [show n + 1 + q = n + (q + 1) by omega, show i + 1 + q = i + (q + 1) by omega] at e
        exact e
theorem ze_min : ∀ m, m < 21 → ∀ i, i < 5 → (4 * i < m → zm_min (4 : Int32) (Int32.ofNat m - Int32.ofNat (4 * i)) = Int32.ofNat (min 4 (m - 4 * i))) ∧ (¬ 4 * i < m → zm_min (4 : Int32) (Int32.ofNat m - Int32.ofNat (4 * i)) ≤ 0) := by decide +kernel
theorem ze_app1 (four : Int32) {m i n : Nat} (hN : 5 ≤ N) (hm : m < 21) (hi : i < 5) (hn : C.1 5 2 = Int32.ofNat n) (hl : n + min 4 (m - 4 * i) ≤ 200) :
    ∃ C' : zC, zHC w b (mX0_append N (b + 5) four (Int32.ofNat m - Int32.ofNat (4 * i))) C r id C' r ∧ C'.1 5 2 = Int32.ofNat (n + min 4 (m - 4 * i)) ∧ C'.2 = C.2 ∧
      (∀ o k, ¬ (o = 5 ∧ k = 2) → ¬ (o = 6 ∧ n ≤ k ∧ k < n + min 4 (m - 4 * i)) → C'.1 o k = C.1 o k) ∧ ∀ q, q < min 4 (m - 4 * i) → C'.1 6 (n + q) = (four >>> (Int32.ofNat (24 - 8 * q) &&& Int32.ofNat 31)).toInt8.toInt32 := by
  obtain ⟨h1, h2⟩ := ze_min m hm i hi
  unfold mX0_append mX0_append_0
  by_cases c : 4 * i < m
  · rw [h1 c]
    obtain ⟨C', e1, e2, e3, e4, e5⟩ := ze_append (N := N) (w := w) (b := b) (r := r) four (min 4 (m - 4 * i)) (by omega) (min 4 (m - 4 * i)) 0 N n C (by omega) (by omega) hn hl
    refine ⟨C', e1, e2, e3, e4, fun q hq => ?_⟩
    have := e5 q hq
    rwa [Nat.zero_add] at this
  · obtain ⟨g, rfl⟩ : ∃ g, N = g + 1 := ⟨N - 1, by omega⟩
    refine ⟨C, fun M => ?_, by rw [hn]; congr 1; omega, rfl, fun _ _ _ _ => rfl, fun q hq => absurd hq (by omega)⟩
    exact if_pos (h2 c)
theorem ze_feed (a1 a2 a3 a4 a5 : Int32) {m n : Nat} (hN : 5 ≤ N) (hm1 : 1 ≤ m) (hm : m ≤ 20) (hn : C.1 5 2 = Int32.ofNat n) (hl : n + m ≤ 200) :
    ∃ C' : zC, zHC w b (mX8_feed N (b + 0) a1 a2 a3 a4 a5 (Int32.ofNat m)) C r (fun x => (x, .inl (Int32.ofNat (n + m)))) C' r ∧ C'.1 5 2 = Int32.ofNat (n + m) ∧ C'.2 = C.2 ∧
      (∀ o k, ¬ (o = 5 ∧ k = 2) → ¬ (o = 6 ∧ n ≤ k ∧ k < n + m) → C'.1 o k = C.1 o k) ∧ ∀ q, q < m → C'.1 6 (n + q) = (Int8.ofNat (zfb a1 a2 a3 a4 a5 q)).toInt32 := by
  obtain ⟨C1, f1, f2, f3, f4, f5⟩ := ze_app1 (N := N) (w := w) (b := b) (C := C) (r := r) a1 (m := m) (i := 0) hN (by omega) (by omega) hn (by omega)
  obtain ⟨C2, g1, g2, g3, g4, g5⟩ := ze_app1 (N := N) (w := w) (b := b) (C := C1) (r := r) a2 (m := m) (i := 1) hN (by omega) (by omega) f2 (by omega)
  obtain ⟨C3, h1, h2, h3, h4, h5⟩ := ze_app1 (N := N) (w := w) (b := b) (C := C2) (r := r) a3 (m := m) (i := 2) hN (by omega) (by omega) g2 (by omega)
  obtain ⟨C4, i1, i2, i3, i4, i5⟩ := ze_app1 (N := N) (w := w) (b := b) (C := C3) (r := r) a4 (m := m) (i := 3) hN (by omega) (by omega) h2 (by omega)
  obtain ⟨C5, j1, j2, j3, j4, j5⟩ := ze_app1 (N := N) (w := w) (b := b) (C := C4) (r := r) a5 (m := m) (i := 4) hN (by omega) (by omega) i2 (by omega)
  have e0 : Int32.ofNat m - Int32.ofNat (4 * 0) = Int32.ofNat m := by rw [zi_sub (by omega)]; rfl
  rw [e0] at f1
  have e9 : n + min 4 (m - 4 * 0) + min 4 (m - 4 * 1) + min 4 (m - 4 * 2) + min 4 (m - 4 * 3) + min 4 (m - 4 * 4) = n + m := by omega
  refine ⟨C5, fun M => ?_, by rw [j2, e9], by rw [j3, i3, h3, g3, f3], fun o k k1 k2 => ?_, fun q hq => ?_⟩
  · unfold mX8_feed mX8_feed_0
    rw [show (1 : Int32) = Int32.ofNat 1 from rfl, show (20 : Int32) = Int32.ofNat 20 from rfl, if_neg (by rw [zi_lt (by omega) (by omega)]; omega), if_pos (by rw [zi_le (by omega) (by omega)]; omega)]
    simp only [zqg_0_1, zqg_5_2, Option.bind_some, hn, zi_add]
    rw [show (200 : Int32) = Int32.ofNat 200 from rfl, if_pos (by rw [zi_le (by omega) (by omega)]; omega)]
    have u1 : (4 : Int32) = Int32.ofNat (4 * 1) := rfl
    have u2 : (8 : Int32) = Int32.ofNat (4 * 2) := rfl
    have u3 : (12 : Int32) = Int32.ofNat (4 * 3) := rfl
    have u4 : (16 : Int32) = Int32.ofNat (4 * 4) := rfl
    simp only [u1, u2, u3, u4, zqg_0_1, zqk_5, if_true, Option.bind_some, f1 M, g1 M, h1 M, i1 M, j1 M, id, zqg_5_2, j2, e9]
  · rw [j4 o k k1 (by omega), i4 o k k1 (by omega), h4 o k k1 (by omega), g4 o k k1 (by omega), f4 o k k1 (by omega)]
  · unfold zfb
    rw [← zby_8]
    unfold zfw
    by_cases c1 : q < 4
    · rw [if_pos c1, j4 6 _ (by omega) (by omega), i4 6 _ (by omega) (by omega), h4 6 _ (by omega) (by omega), g4 6 _ (by omega) (by omega), f5 q (by omega), show q % 4 = q by omega]
    · rw [if_neg c1]
      by_cases c2 : q < 8
      · have e := g5 (q - 4) (by omega)
        rw [show n + min 4 (m - 4 * 0) + (q - 4) = n + q by omega] at e
        rw [if_pos c2, j4 6 _ (by omega) (by omega), i4 6 _ (by omega) (by omega), h4 6 _ (by omega) (by omega), e, show q % 4 = q - 4 by omega]
      · rw [if_neg c2]
        by_cases c3 : q < 12
        · have e := h5 (q - 8) (by omega)
          rw [show n + min 4 (m - 4 * 0) + min 4 (m - 4 * 1) + (q - 8) = n + q by omega] at e
          rw [if_pos c3, j4 6 _ (by omega) (by omega), i4 6 _ (by omega) (by omega), e, show q % 4 = q - 8 by omega]
        · rw [if_neg c3]
          by_cases c4 : q < 16
          · have e := i5 (q - 12) (by omega)
            rw [show n + min 4 (m - 4 * 0) + min 4 (m - 4 * 1) + min 4 (m - 4 * 2) + (q - 12) = n + q by omega] at e
            rw [if_pos c4, j4 6 _ (by omega) (by omega), e, show q % 4 = q - 12 by omega]
          · have e := j5 (q - 16) (by omega)
            rw [show n + min 4 (m - 4 * 0) + min 4 (m - 4 * 1) + min 4 (m - 4 * 2) + min 4 (m - 4 * 3) + (q - 16) = n + q by omega] at e
            rw [if_neg c4, e, show q % 4 = q - 16 by omega]
/-- the reference's feed -/
theorem zn_feed (a1 a2 a3 a4 a5 : Int32) (m : Nat) (hm : m ≤ 20) : ∀ (j k fuel n : Nat) (M : zM), k + j = m → j < fuel → M.1 100 7 = Int32.ofNat n → n + j ≤ 200 →
    ∃ M' : zM, zHM w b (mX9_feed_51 N fuel (b + 75) a1 a2 a3 a4 a5 (Int32.ofNat m) (Int32.ofNat k)) M (fun x => (x, Int32.ofNat (n + j))) M' ∧ M'.1 100 7 = Int32.ofNat (n + j) ∧ M'.2 = M.2 ∧
      (∀ o i, ¬ (o = 100 ∧ i = 7) → ¬ (o = 6 ∧ n ≤ i ∧ i < n + j) → M'.1 o i = M.1 o i) ∧ ∀ q, q < j → M'.1 6 (n + q) = Int32.ofNat (zfb a1 a2 a3 a4 a5 (k + q)) := by
  intro j
  induction j with
  | zero =>
    intro k fuel n M hi hf hn hl
    obtain ⟨fuel, rfl⟩ : ∃ g, fuel = g + 1 := ⟨fuel - 1, by omega⟩
    refine ⟨M, fun C r => ?_, hn, rfl, fun _ _ _ _ => rfl, fun q hq => absurd hq (Nat.not_lt_zero q)⟩
    unfold mX9_feed_51
    rw [if_pos (by rw [zi_le (by omega) (by omega)]; omega), zqg_75_7, Option.bind_some, hn]
    rfl
  | succ j ih =>
    intro k fuel n M hi hf hn hl
    obtain ⟨fuel, rfl⟩ : ∃ g, fuel = g + 1 := ⟨fuel - 1, by omega⟩
    obtain ⟨M', h1, h2, h3, h4, h5⟩ := ih (k + 1) fuel (n + 1) (zJ (zJ M 6 n (Int32.ofNat (zfb a1 a2 a3 a4 a5 k))) 100 7 (Int32.ofNat (n + 1))) (by omega) (by omega) rfl (by omega)
    have key : ∀ (C : zC) (r : zv_X), mX9_feed_104 (mX9_feed_51 N fuel) N (b + 75) a1 a2 a3 a4 a5 (Int32.ofNat m) (Int32.ofNat k) (zfw a1 a2 a3 a4 a5 k) (zc w b C M r) = some (zc w b C M' r, Int32.ofNat (n + (j + 1))) := by
      intro C r
      unfold mX9_feed_104
      simp (disch := omega) only [zqg_75_6, zqg_75_7, Option.bind_some, hn, zi_lit, zi_div, zi_mul, zi_sub]
      rw [show k - k / 4 * 4 = k % 4 by omega, zby_and]
      rw [show zby (zfw a1 a2 a3 a4 a5 k >>> (Int32.ofNat (24 - 8 * (k % 4)) &&& Int32.ofNat 31)) = zfb a1 a2 a3 a4 a5 k from rfl]
      rw [zqs_79 (show n < 200 by omega)]
      simp only [zI1, zI2, zL1, zL2, zL3, zV1, zV2, zV3, zJ1, zJ2, zK1, zK2, Nat.reduceEqDiff, and_true, true_and, and_false, false_and, and_self, reduceIte, Option.bind_some, zqg_75_7, zqp_75_7, hn, zi_add, h1 C r]
      rw [show n + 1 + j = n + (j + 1) by omega]
    refine ⟨M', fun C r => ?_, by rw [h2]; congr 1; omega, h3, fun o i e1 e2 => ?_, fun q hq => ?_⟩
    · have key := key C r
      show mX9_feed_51 N (fuel + 1) (b + 75) a1 a2 a3 a4 a5 (Int32.ofNat m) (Int32.ofNat k) (zc w b C M r) = some (zc w b C M' r, Int32.ofNat (n + (j + 1)))
      unfold mX9_feed_51
      rw [if_neg (by rw [zi_le (by omega) (by omega)]; omega)]
      simp (disch := omega) only [zi_lit, zi_le]
      unfold zfw at key
      by_cases c1 : k < 4
      · rw [if_pos c1] at key
        rw [if_neg (by omega)]; exact key
      · rw [if_neg c1] at key
        rw [if_pos (by omega)]
        by_cases c2 : k < 8
        · rw [if_pos c2] at key
          rw [if_neg (by omega)]; exact key
        · rw [if_neg c2] at key
          rw [if_pos (by omega)]
          by_cases c3 : k < 12
          · rw [if_pos c3] at key
            rw [if_neg (by omega)]; exact key
          · rw [if_neg c3] at key
            rw [if_pos (by omega)]
            by_cases c4 : k < 16
            · rw [if_pos c4] at key
              rw [if_neg (by omega)]; exact key
            · rw [if_neg c4] at key
              rw [if_pos (by omega)]; exact key
    · rw [h4 o i e1 (by omega)]
      show (if o = 100 ∧ i = 7 then _ else if o = 6 ∧ i = n then _ else _) = _
      rw [if_neg e1, if_neg (by omega)]
    · cases q with
      | zero =>
        rw [h4 6 (n + 0) (by omega) (by omega)]
        rw [zJ1, if_neg (by omega), zJ1, if_pos (by omega)]
        rfl
      | succ q =>
        have e := h5 q (by omega)
        rw [show n + 1 + q = n + (q + 1) by omega, show k + 1 + q = k + (q + 1) by omega] at e
        exact e
end ZFE
