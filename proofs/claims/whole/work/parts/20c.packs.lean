/-! ===== kinds in two bits each ===== -/
def zpS : List Nat → Nat
  | [] => 0
  | k :: st => k + 4 * zpS st
theorem zpK_lt {l : Nat → Nat} (h : ∀ k, l k ≤ 3) : ∀ n, zpk l n < 4 ^ n
  | 0 => Nat.zero_lt_one
  | n + 1 => by
    have h1 := zpK_lt h n
    have h2 := Nat.mul_le_mul_right (4 ^ n) (h n)
    show zpk l n + l n * 4 ^ n < 4 ^ n * 4
    omega
theorem zpk_bit {l : Nat → Nat} (h : ∀ k, l k ≤ 3) : ∀ {n k j : Nat}, j < 2 → k < n → (zpk l n).testBit (2 * k + j) = (l k).testBit j
  | 0, k, j, _, hk => absurd hk (Nat.not_lt_zero k)
  | n + 1, k, j, hj, hk => by
    have h1 := zpK_lt h n
    have e : zpk l (n + 1) = 2 ^ (2 * n) * l n + zpk l n := by
      show zpk l n + l n * 4 ^ n = _
      rw [show (4 : Nat) = 2 ^ 2 from rfl, ← Nat.pow_mul, Nat.mul_comm (l n), Nat.add_comm]
    rw [e, Nat.testBit_two_pow_mul_add (l n) (by rw [Nat.pow_mul]; exact h1)]
    by_cases c : k = n
    · subst c
      rw [if_neg (by omega), show 2 * k + j - 2 * k = j by omega]
    · rw [if_pos (by omega)]
      exact zpk_bit h hj (by omega)
theorem zpk_get {l : Nat → Nat} (h : ∀ k, l k ≤ 3) {k j : Nat} (hj : j < 2) (hk : k < 16) : (Int32.ofNat (zpk l 16)).toBitVec.getLsbD (2 * k + j) = (l k).testBit j := by
  show (BitVec.ofNat 32 _).getLsbD _ = _
  rw [BitVec.getLsbD_ofNat, zpk_bit h hj hk]
  have c : 2 * k + j < 32 := by omega
  simp [c]
theorem zi_ext {x y : Int32} (h : ∀ k j, k < 16 → j < 2 → x.toBitVec.getLsbD (2 * k + j) = y.toBitVec.getLsbD (2 * k + j)) : x = y :=
  Int32.toBitVec_inj.mp (BitVec.eq_of_getLsbD_eq fun i hi => by
    have := h (i / 2) (i % 2) (by omega) (by omega)
    rwa [show 2 * (i / 2) + i % 2 = i by omega] at this)
theorem zk3 : ∀ a, a ≤ 3 → ∀ b, b ≤ 3 → (a = b ↔ (a.testBit 0 = b.testBit 0 ∧ a.testBit 1 = b.testBit 1)) := by decide +kernel
theorem zpk_inj {l l' : Nat → Nat} (h : zk16 l) (h' : zk16 l') (e : Int32.ofNat (zpk l 16) = Int32.ofNat (zpk l' 16)) : l = l' := funext fun k => by
  by_cases c : k < 16
  · refine (zk3 _ (h.1 k) _ (h'.1 k)).mpr ⟨?_, ?_⟩
    · rw [← zpk_get h.1 (j := 0) (by decide) c, ← zpk_get h'.1 (j := 0) (by decide) c, e]
    · rw [← zpk_get h.1 (j := 1) (by decide) c, ← zpk_get h'.1 (j := 1) (by decide) c, e]
  · rw [h.2 k (by omega), h'.2 k (by omega)]
theorem z55 : ∀ k, k < 16 → ((1431655765 : Int32).toBitVec.getLsbD (2 * k) = true ∧ (1431655765 : Int32).toBitVec.getLsbD (2 * k + 1) = false) := by decide +kernel
theorem zpk_meet {l l' : Nat → Nat} (h : zk16 l') (h' : zk16 l) : pX3_commonKinds (Int32.ofNat (zpk l' 16)) (Int32.ofNat (zpk l 16)) = some (Int32.ofNat (zpk (zmt l' l) 16)) := by
  unfold pX3_commonKinds pX3_commonKinds_0
  congr 1
  have hm := zmt_k h h'
  have g0 : ∀ k, k < 16 → (Int32.ofNat (zpk l' 16)).toBitVec.getLsbD (2 * k) = (l' k).testBit 0 := fun k hk => zpk_get h.1 (j := 0) (by decide) hk
  have g1 : ∀ k, k < 16 → (Int32.ofNat (zpk l' 16)).toBitVec.getLsbD (2 * k + 1) = (l' k).testBit 1 := fun k hk => zpk_get h.1 (j := 1) (by decide) hk
  have f0 : ∀ k, k < 16 → (Int32.ofNat (zpk l 16)).toBitVec.getLsbD (2 * k) = (l k).testBit 0 := fun k hk => zpk_get h'.1 (j := 0) (by decide) hk
  have f1 : ∀ k, k < 16 → (Int32.ofNat (zpk l 16)).toBitVec.getLsbD (2 * k + 1) = (l k).testBit 1 := fun k hk => zpk_get h'.1 (j := 1) (by decide) hk
  generalize hA : Int32.ofNat (zpk l' 16) = A at *
  generalize hB : Int32.ofNat (zpk l 16) = B at *
  have sh : ((A ^^^ B).toUInt32 >>> (Int32.toUInt32 1 &&& Int32.toUInt32 31)).toInt32.toBitVec = (A.toBitVec ^^^ B.toBitVec) >>> 1 := by
    rw [show Int32.toUInt32 1 &&& Int32.toUInt32 31 = (Int32.ofNat 1).toUInt32 by decide, zw_ushr32 _ (by decide), Int32.toBitVec_xor]
  generalize hS : ((A ^^^ B).toUInt32 >>> (Int32.toUInt32 1 &&& Int32.toUInt32 31)).toInt32 = S at *
  have hlow : ∀ k, k < 16 → (((A ^^^ B) ||| S) &&& 1431655765).toBitVec.getLsbD (2 * k) = (xor ((l' k).testBit 0) ((l k).testBit 0) || xor ((l' k).testBit 1) ((l k).testBit 1)) ∧ (((A ^^^ B) ||| S) &&& 1431655765).toBitVec.getLsbD (2 * k + 1) = false := fun k hk => by
    rw [Int32.toBitVec_and, Int32.toBitVec_or, Int32.toBitVec_xor, BitVec.getLsbD_and, BitVec.getLsbD_and, (z55 k hk).1, (z55 k hk).2, Bool.and_true, Bool.and_false, BitVec.getLsbD_or, BitVec.getLsbD_xor, sh, BitVec.getLsbD_ushiftRight, BitVec.getLsbD_xor, g0 k hk, f0 k hk, Nat.add_comm 1, g1 k hk, f1 k hk]
    exact ⟨rfl, rfl⟩
  generalize hW : ((A ^^^ B) ||| S) &&& 1431655765 = W at *
  have hlm : ∀ k, k < 16 → (zmt l' l k).testBit 0 = ((l' k).testBit 0 && !(xor ((l' k).testBit 0) ((l k).testBit 0) || xor ((l' k).testBit 1) ((l k).testBit 1))) ∧ (zmt l' l k).testBit 1 = ((l' k).testBit 1 && !(xor ((l' k).testBit 0) ((l k).testBit 0) || xor ((l' k).testBit 1) ((l k).testBit 1))) := fun k _ => by
    have d : ∀ a, a ≤ 3 → ∀ b, b ≤ 3 → ((if a = b then a else 0).testBit 0 = (a.testBit 0 && !(xor (a.testBit 0) (b.testBit 0) || xor (a.testBit 1) (b.testBit 1))) ∧ (if a = b then a else 0).testBit 1 = (a.testBit 1 && !(xor (a.testBit 0) (b.testBit 0) || xor (a.testBit 1) (b.testBit 1)))) := by decide +kernel
    exact d _ (h.1 k) _ (h'.1 k)
  have e1 : ((1 : Int32) &&& 31) = Int32.ofNat 1 := by decide
  rw [e1]
  refine zi_ext fun k j hk hj => ?_
  rw [Int32.toBitVec_and, Int32.toBitVec_xor, Int32.toBitVec_or, zi_shlB _ (by decide), show (-1 : Int32).toBitVec = BitVec.allOnes 32 by decide, zpk_get hm.1 hj hk, BitVec.getLsbD_and, BitVec.getLsbD_xor, BitVec.getLsbD_or, BitVec.getLsbD_shiftLeft, BitVec.getLsbD_allOnes]
  have c32 : 2 * k + j < 32 := by omega
  obtain ⟨w1, w2⟩ := hlow k hk
  obtain ⟨m1, m2⟩ := hlm k hk
  rcases (show j = 0 ∨ j = 1 by omega) with rfl | rfl
  · rw [m1, show 2 * k + 0 = 2 * k from rfl, g0 k hk, w1]
    have c : (decide (2 * k < 32) && !decide (2 * k < 1) && W.toBitVec.getLsbD (2 * k - 1)) = false := by
      by_cases z : k = 0
      · subst z; rfl
      · have := (hlow (k - 1) (by omega)).2
        rw [show 2 * (k - 1) + 1 = 2 * k - 1 by omega] at this
        rw [this, Bool.and_false]
    rw [c]
    have c3 : 2 * k < 32 := by omega
    simp [c3]
  · rw [m2, g1 k hk, w2, show 2 * k + 1 - 1 = 2 * k by omega, w1]
    have c4 : ¬ 2 * k + 1 < 1 := by omega
    simp [c32, c4]
theorem zpk_rd {l : Nat → Nat} (h : zk16 l) {a : Nat} (ha : a < 16) : (Int32.toUInt32 (Int32.ofNat (zpk l 16)) >>> (Int32.toUInt32 (Int32.ofNat (2 * a)) &&& Int32.toUInt32 31)).toInt32 &&& Int32.ofNat 3 = Int32.ofNat (l a) := by
  have d : ∀ a, a < 16 → Int32.toUInt32 (Int32.ofNat (2 * a)) &&& Int32.toUInt32 31 = (Int32.ofNat (2 * a)).toUInt32 := by decide +kernel
  rw [d a ha]
  have e3 : ∀ c, c ≤ 3 → ∀ k, k < 16 → ∀ j, j < 2 → (Int32.ofNat c).toBitVec.getLsbD (2 * k + j) = (decide (k = 0) && c.testBit j) := by decide +kernel
  have e4 : ∀ k, k < 16 → ∀ j, j < 2 → (Int32.ofNat 3).toBitVec.getLsbD (2 * k + j) = decide (k = 0) := by decide +kernel
  refine zi_ext fun k j hk hj => ?_
  rw [Int32.toBitVec_and, BitVec.getLsbD_and, e3 _ (h.1 a) k hk j hj, e4 k hk j hj, zw_ushr32 _ (by omega), BitVec.getLsbD_ushiftRight]
  by_cases z : k = 0
  · subst z
    rw [show 2 * a + (2 * 0 + j) = 2 * a + j by omega, zpk_get h.1 hj ha]
    simp
  · simp [z]
theorem zpk_wr {l : Nat → Nat} (h : zk16 l) {a v : Nat} (ha : a < 16) (hv : v ≤ 3) : (Int32.ofNat (zpk l 16) &&& ((Int32.ofNat 3 <<< (Int32.ofNat (2 * a) &&& 31)) ^^^ (-1 : Int32))) ||| (Int32.ofNat v <<< (Int32.ofNat (2 * a) &&& 31)) = Int32.ofNat (zpk (zset l a v) 16) := by
  have e1 : ∀ v, v ≤ 3 → Int32.ofNat v = Int32.ofNat v &&& Int32.ofNat (2 ^ 2 - 1) := by decide +kernel
  rw [zi_lit 31, zi_31 (by omega), e1 v hv]
  show zsb 2 (Int32.ofNat (zpk l 16)) (2 * a) (Int32.ofNat v) = _
  refine zi_ext fun k j hk hj => ?_
  rw [zsb_bit _ _ (by omega) (by decide) (by omega), zpk_get (h.set ha hv).1 hj hk]
  show _ = (if k = a then v else l k).testBit j
  by_cases c : k = a
  · subst c
    rw [if_pos (by omega), if_pos rfl, show 2 * k + j - 2 * k = j by omega]
    have d : ∀ v, v ≤ 3 → ∀ j, j < 2 → (Int32.ofNat v).toBitVec.getLsbD j = v.testBit j := by decide +kernel
    exact d v hv j hj
  · rw [if_neg (by omega), if_neg c, zpk_get h.1 hj hk]
/-- a stack -/
theorem zps_lt : ∀ {st : List Nat}, zkS st → zpS st < 4 ^ st.length
  | [], _ => by decide
  | k :: st, h => by
    have h1 := zps_lt h.tl
    have h2 := h.hd
    show k + 4 * zpS st < 4 ^ st.length * 4
    omega
theorem zps_ge : ∀ {st : List Nat}, zkS st → 4 ^ st.length ≤ 4 * zpS st + 1
  | [], _ => by decide
  | k :: st, h => by
    have h1 := zps_ge h.tl
    have h2 := h.hd
    show 4 ^ st.length * 4 ≤ 4 * (k + 4 * zpS st) + 1
    omega
theorem zps_len {st : List Nat} (h : zkS st) {s : Nat} : zpS st < 4 ^ s ↔ st.length ≤ s := by
  constructor
  · intro e
    by_cases c : st.length ≤ s
    · exact c
    · cases st with
      | nil => exact absurd (Nat.zero_le s) c
      | cons k st =>
        have h1 := zps_ge h.tl
        have h2 := h.hd
        have h3 : 4 ^ s ≤ 4 ^ st.length := Nat.pow_le_pow_right (by decide) (by have : ¬ st.length + 1 ≤ s := c; omega)
        have e' : k + 4 * zpS st < 4 ^ s := e
        omega
  · intro e
    exact Nat.lt_of_lt_of_le (zps_lt h) (Nat.pow_le_pow_right (by decide) e)
theorem zps_inj : ∀ {st st' : List Nat}, zkS st → zkS st' → zpS st = zpS st' → st = st'
  | [], [], _, _, _ => rfl
  | [], k :: st', _, h', e => by
    have := h'.hd
    have e' : 0 = k + 4 * zpS st' := e
    omega
  | k :: st, [], h, _, e => by
    have := h.hd
    have e' : k + 4 * zpS st = 0 := e
    omega
  | k :: st, k' :: st', h, h', e => by
    have h1 := h.hd
    have h2 := h'.hd
    have e' : k + 4 * zpS st = k' + 4 * zpS st' := e
    have e1 : k = k' := by omega
    have e2 : zpS st = zpS st' := by omega
    rw [e1, zps_inj h.tl h'.tl e2]
theorem zpop_ps : ∀ {ks st : List Nat}, zkS ks → zkS st → (zpop ks st = none ∧ zpS st % 4 ^ ks.length ≠ zpS ks) ∨ ∃ st', zpop ks st = some st' ∧ zpS st % 4 ^ ks.length = zpS ks ∧ zpS st / 4 ^ ks.length = zpS st'
  | [], st, _, _ => Or.inr ⟨st, rfl, by show zpS st % 1 = 0; omega, by show zpS st / 1 = zpS st; omega⟩
  | k :: ks, [], h, _ => by
    have := h.hd
    refine Or.inl ⟨rfl, ?_⟩
    show 0 % _ ≠ k + 4 * zpS ks
    rw [Nat.zero_mod]
    omega
  | k :: ks, s :: st, h, h' => by
    have h1 := h.hd
    have h2 := h'.hd
    have e0 : zpop (k :: ks) (s :: st) = if s = k then zpop ks st else none := rfl
    have hp : 0 < 4 ^ ks.length := Nat.pow_pos (by decide)
    have e1 : (s + 4 * zpS st) % (4 ^ ks.length * 4) = s + 4 * (zpS st % 4 ^ ks.length) := by
      rw [Nat.mul_comm (4 ^ ks.length) 4, Nat.mod_mul]
      rw [show (s + 4 * zpS st) % 4 = s by omega, show (s + 4 * zpS st) / 4 = zpS st by omega]
    have e2 : (s + 4 * zpS st) / (4 ^ ks.length * 4) = zpS st / 4 ^ ks.length := by
      rw [Nat.mul_comm (4 ^ ks.length) 4, ← Nat.div_div_eq_div_mul, show (s + 4 * zpS st) / 4 = zpS st by omega]
    by_cases c : s = k
    · rw [e0, if_pos c]
      rcases zpop_ps h.tl h'.tl with ⟨a1, a2⟩ | ⟨st', a1, a2, a3⟩
      · refine Or.inl ⟨a1, ?_⟩
        show (s + 4 * zpS st) % (4 ^ ks.length * 4) ≠ k + 4 * zpS ks
        rw [e1]
        omega
      · refine Or.inr ⟨st', a1, ?_, ?_⟩
        · show (s + 4 * zpS st) % (4 ^ ks.length * 4) = k + 4 * zpS ks
          rw [e1, a2, c]
        · show (s + 4 * zpS st) / (4 ^ ks.length * 4) = _
          rw [e2, a3]
    · rw [e0, if_neg c]
      refine Or.inl ⟨rfl, ?_⟩
      show (s + 4 * zpS st) % (4 ^ ks.length * 4) ≠ k + 4 * zpS ks
      rw [e1]
      omega
/-- shifts of a stack -/
theorem zps_sh {a s : Nat} (ha : a < 2 ^ 32) (hs : s < 32) : (Int32.toUInt32 (Int32.ofNat a) >>> (Int32.toUInt32 (Int32.ofNat s) &&& Int32.toUInt32 31)).toInt32 = Int32.ofNat (a / 2 ^ s) := by
  have d : ∀ s, s < 32 → Int32.toUInt32 (Int32.ofNat s) &&& Int32.toUInt32 31 = (Int32.ofNat s).toUInt32 := by decide +kernel
  rw [d s hs]
  apply Int32.toBitVec_inj.mp
  rw [zw_ushr32 _ hs]
  apply BitVec.eq_of_toNat_eq
  show ((BitVec.ofNat 32 a) >>> s).toNat = (BitVec.ofNat 32 (a / 2 ^ s)).toNat
  have := Nat.div_le_self a (2 ^ s)
  rw [BitVec.toNat_ushiftRight, BitVec.toNat_ofNat, BitVec.toNat_ofNat, Nat.shiftRight_eq_div_pow, Nat.mod_eq_of_lt ha, Nat.mod_eq_of_lt (by omega)]
theorem zps_lo {a m : Nat} (ha : a < 2 ^ 32) (hm : m ≤ 32) : Int32.ofNat a &&& Int32.ofNat (2 ^ m - 1) = Int32.ofNat (a % 2 ^ m) := by
  rw [zi_low _ hm]
  show Int32.ofNat ((BitVec.ofNat 32 a).toNat % 2 ^ m) = _
  rw [BitVec.toNat_ofNat, Nat.mod_eq_of_lt ha]
theorem zps_push {a k : Nat} (hk : k ≤ 3) : (Int32.ofNat a <<< ((2 : Int32) &&& 31)) ||| Int32.ofNat k = Int32.ofNat (k + 4 * a) := by
  rw [show ((2 : Int32) &&& 31) = Int32.ofNat 2 by decide, zi_shl (by decide), zi_or, Nat.shiftLeft_eq, Nat.mul_comm, ← Nat.two_pow_add_eq_or_of_lt (i := 2) (b := k) (by omega) a, Nat.add_comm]
