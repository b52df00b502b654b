/-! ===== method: the reference's tables ===== -/
section ZTB
variable {N w b n nm na len h : Nat} {M M' : zM} {lo sk rs : Int32}
/-- the reference's method behind the tables -/
def zTm (N b nm : Nat) (x5 : zv_X) : Option (zv_X × Int32) := (zm_R x5 (b + 75) 9 18).bind fun v7 => (zm_aI x5 v7 (Int32.ofNat nm)).bind fun v9 => if v9 = 0 then (mX9_method_328 N x5) else (if zm_k x5 (b + 75) 9 = true then ((mX9_isGood N (b + 75) (Int32.ofNat nm) x5).bind fun o11 => if o11.2 = 0 then (mX9_method_328 N o11.1) else ((zm_I o11.1 (b + 75) 9 19).bind fun v13 => (zm_p o11.1 (b + 75) 9 19 (.int (v13 + (1 : Int32)))).bind fun x15 => some (x15, Int32.ofNat nm))) else none)
theorem zj_262 (hm : nm < 20) (hh : h ≤ 8) : ∀ (c fuel i : Nat) (M : zM), i + c = 4 * h → c < fuel → M.1 100 9 = Int32.ofNat h → ∃ M', (∀ (C : zC) (r : zv_X), mX9_method_262 N fuel (b + 75) (Int32.ofNat nm) (Int32.ofNat i) (zc w b C M r) = zTm N b nm (zc w b C M' r)) ∧ (∀ o j, ¬ (o = 10 ∧ 32 * nm ≤ j) → ¬ (o = 100 ∧ (j = 7 ∨ j = 9)) → M'.1 o j = M.1 o j) ∧ M'.2 = M.2 ∧ M'.1 100 7 = 0 ∧ M'.1 100 9 = 0 ∧ (∀ j, j < i → M'.1 10 (32 * nm + j) = M.1 10 (32 * nm + j)) ∧ ∀ j, i ≤ j → j < 4 * h → M'.1 10 (32 * nm + j) = M.1 8 j
  | 0, fuel, i, M, hi, hf, h9 => by
    obtain ⟨fuel, rfl⟩ : ∃ g, fuel = g + 1 := ⟨fuel - 1, by omega⟩
    refine ⟨zJ (zJ M 100 7 0) 100 9 0, fun C r => ?_, fun o j _ e => ?_, rfl, rfl, rfl, fun j _ => ?_, fun j h1 h2 => by omega⟩
    · unfold mX9_method_262
      rw [zqg_75_9, Option.bind_some, h9, zi_l4, zi_mul, if_pos (show Int32.ofNat (4 * h) ≤ Int32.ofNat i by rw [zi_le (by omega) (by omega)]; omega), zqp_75_7, Option.bind_some, zqp_75_9, Option.bind_some]
      rfl
    · rw [zJ1, if_neg (by omega), zJ1, if_neg (by omega)]
    · rw [zJ1, if_neg (by omega), zJ1, if_neg (by omega)]
  | c + 1, fuel, i, M, hi, hf, h9 => by
    obtain ⟨fuel, rfl⟩ : ∃ g, fuel = g + 1 := ⟨fuel - 1, by omega⟩
    obtain ⟨M', t1, t2, t3, t4, t5, t6, t7⟩ := zj_262 hm hh c fuel (i + 1) (zJ M 10 (32 * nm + i) (M.1 8 i)) (by omega) (by omega) h9
    refine ⟨M', fun C r => ?_, fun o j e1 e2 => (t2 o j e1 e2).trans (by rw [zJ1, if_neg (by omega)]), t3, t4, t5, fun j hj => (t6 j (by omega)).trans (by rw [zJ1, if_neg (by omega)]), fun j h1 h2 => ?_⟩
    · rw [← t1 C r]
      conv => lhs; unfold mX9_method_262
      rw [zqg_75_9, Option.bind_some, h9, zi_l4, zi_mul, if_neg (show ¬ Int32.ofNat (4 * h) ≤ Int32.ofNat i by rw [zi_le (by omega) (by omega)]; omega), zqg_75_10, Option.bind_some, zqg_75_8, Option.bind_some, zqa_80 (by omega), Option.bind_some, show (32 : Int32) = Int32.ofNat 32 from rfl, zi_mul, zi_add, zqs_81 (by omega), Option.bind_some, zi_l1, zi_add]
    · by_cases c : j = i
      · subst c
        rw [t6 j (by omega), zJ1, if_pos ⟨rfl, rfl⟩]
      · rw [t7 j (by omega) h2, zJ1, if_neg (by omega)]
theorem zj_212 (hm : nm < 20) (hl : len ≤ 200) (hN : 33 < N) (hh : h ≤ 8) : ∀ (c fuel i : Nat) (M : zM), i + c = len → c < fuel → M.1 100 7 = Int32.ofNat len → M.1 100 9 = Int32.ofNat h → ∃ M', (∀ (C : zC) (r : zv_X), mX9_method_212 N fuel (b + 75) (Int32.ofNat nm) (Int32.ofNat i) (zc w b C M r) = zTm N b nm (zc w b C M' r)) ∧ (∀ o j, ¬ (o = 10 ∧ 32 * nm ≤ j) → ¬ (o = 100 ∧ (j = 7 ∨ j = 9)) → ¬ (o = 17 ∧ 200 * nm ≤ j) → ¬ (o = 11 ∧ j = nm) → M'.1 o j = M.1 o j) ∧ M'.2 = M.2 ∧ M'.1 100 7 = 0 ∧ M'.1 100 9 = 0 ∧ M'.1 11 nm = Int32.ofNat h ∧ (∀ j, j < 4 * h → M'.1 10 (32 * nm + j) = M.1 8 j) ∧ (∀ j, j < i → M'.1 17 (200 * nm + j) = M.1 17 (200 * nm + j)) ∧ ∀ j, i ≤ j → j < len → M'.1 17 (200 * nm + j) = M.1 6 j
  | 0, fuel, i, M, hi, hf, h7, h9 => by
    obtain ⟨fuel, rfl⟩ : ∃ g, fuel = g + 1 := ⟨fuel - 1, by omega⟩
    obtain ⟨M', t1, t2, t3, t4, t5, t6, t7⟩ := zj_262 (N := N) (w := w) (b := b) hm hh (4 * h) N 0 (zJ M 11 nm (Int32.ofNat h)) (by omega) (by omega) h9
    refine ⟨M', fun C r => ?_, fun o j e1 e2 e3 e4 => (t2 o j e1 e2).trans (by rw [zJ1, if_neg e4]), t3, t4, t5, ?_, fun j hj => (t7 j (Nat.zero_le j) hj).trans (by rw [zJ1, if_neg (by omega)]), fun j _ => (t2 17 _ (by omega) (by omega)).trans (by rw [zJ1, if_neg (by omega)]), fun j h1 h2 => by omega⟩
    · rw [← t1 C r]
      unfold mX9_method_212
      rw [zqg_75_7, Option.bind_some, h7, if_pos (show Int32.ofNat len ≤ Int32.ofNat i by rw [zi_le (by omega) (by omega)]; omega), zqg_75_11, Option.bind_some, zqg_75_9, Option.bind_some, h9, zqs_82 (by omega), Option.bind_some, zi_l0]
    · rw [t2 11 nm (by omega) (by omega), zJ1, if_pos ⟨rfl, rfl⟩]
  | c + 1, fuel, i, M, hi, hf, h7, h9 => by
    obtain ⟨fuel, rfl⟩ : ∃ g, fuel = g + 1 := ⟨fuel - 1, by omega⟩
    obtain ⟨M', t1, t2, t3, t4, t5, t6, t7, t8, t9⟩ := zj_212 hm hl hN hh c fuel (i + 1) (zJ M 17 (200 * nm + i) (M.1 6 i)) (by omega) (by omega) h7 h9
    refine ⟨M', fun C r => ?_, fun o j e1 e2 e3 e4 => (t2 o j e1 e2 e3 e4).trans (by rw [zJ1, if_neg (by omega)]), t3, t4, t5, t6, fun j hj => (t7 j hj).trans (by rw [zJ1, if_neg (by omega)]), fun j hj => (t8 j (by omega)).trans (by rw [zJ1, if_neg (by omega)]), fun j h1 h2 => ?_⟩
    · rw [← t1 C r]
      conv => lhs; unfold mX9_method_212
      rw [zqg_75_7, Option.bind_some, h7, if_neg (show ¬ Int32.ofNat len ≤ Int32.ofNat i by rw [zi_le (by omega) (by omega)]; omega), zqg_75_17, Option.bind_some, zqg_75_6, Option.bind_some, zqa_79 (by omega), Option.bind_some, show (200 : Int32) = Int32.ofNat 200 from rfl, zi_mul, zi_add, zqs_88 (by omega), Option.bind_some, zi_l1, zi_add]
    · by_cases c : j = i
      · subst c
        rw [t8 j (by omega), zJ1, if_pos ⟨rfl, rfl⟩]
      · rw [t9 j (by omega) h2, zJ1, if_neg (by omega)]
theorem zj_138 (hm : nm < 20) (hl : len ≤ 200) (hN : 201 < N) (hh : h ≤ 8) (hn : n < 256) (hna : na ≤ 4) : ∀ (c fuel i : Nat) (M : zM), i + c = na → c < fuel → M.1 100 7 = Int32.ofNat len → M.1 100 9 = Int32.ofNat h → ∃ M', (∀ (C : zC) (r : zv_X), mX9_method_138 N fuel (b + 75) lo sk rs (Int32.ofNat na) (Int32.ofNat (n / 4 ^ i)) (Int32.ofNat nm) (Int32.ofNat i) (zc w b C M r) = zTm N b nm (zc w b C M' r)) ∧ (∀ o j, ¬ (o = 10 ∧ 32 * nm ≤ j) → ¬ (o = 100 ∧ (j = 7 ∨ j = 9)) → ¬ (o = 17 ∧ 200 * nm ≤ j) → ¬ ((o = 11 ∨ o = 14 ∨ o = 15 ∨ o = 16 ∨ o = 18) ∧ j = nm) → ¬ (o = 13 ∧ 4 * nm ≤ j) → M'.1 o j = M.1 o j) ∧ M'.2 = M.2 ∧ M'.1 100 7 = 0 ∧ M'.1 100 9 = 0 ∧ M'.1 11 nm = Int32.ofNat h ∧ (∀ j, j < 4 * h → M'.1 10 (32 * nm + j) = M.1 8 j) ∧ (∀ j, j < len → M'.1 17 (200 * nm + j) = M.1 6 j) ∧ M'.1 14 nm = lo ∧ M'.1 15 nm = sk ∧ M'.1 16 nm = rs ∧ M'.1 18 nm = Int32.ofNat len ∧ (∀ j, j < i → M'.1 13 (4 * nm + j) = M.1 13 (4 * nm + j)) ∧ ∀ j, i ≤ j → j < na → M'.1 13 (4 * nm + j) = Int32.ofNat (zkd n j)
  | 0, fuel, i, M, hi, hf, h7, h9 => by
    obtain ⟨fuel, rfl⟩ : ∃ g, fuel = g + 1 := ⟨fuel - 1, by omega⟩
    obtain ⟨M', t1, t2, t3, t4, t5, t6, t7, t8, t9⟩ := zj_212 (N := N) (w := w) (b := b) hm hl (by omega) hh len N 0 (zJ (zJ (zJ (zJ M 14 nm lo) 15 nm sk) 16 nm rs) 18 nm (Int32.ofNat len)) (by omega) (by omega) h7 h9
    have fr : ∀ o j, ¬ ((o = 14 ∨ o = 15 ∨ o = 16 ∨ o = 18) ∧ j = nm) → (zJ (zJ (zJ (zJ M 14 nm lo) 15 nm sk) 16 nm rs) 18 nm (Int32.ofNat len)).1 o j = M.1 o j := fun o j e => by
      rw [zJ1, if_neg (by omega), zJ1, if_neg (by omega), zJ1, if_neg (by omega), zJ1, if_neg (by omega)]
    refine ⟨M', fun C r => ?_, fun o j e1 e2 e3 e4 e5 => (t2 o j e1 e2 e3 (by omega)).trans (fr o j (by omega)), t3, t4, t5, t6, fun j hj => (t7 j hj).trans (fr 8 j (by omega)), fun j hj => (t9 j (Nat.zero_le j) hj).trans (fr 6 j (by omega)), ?_, ?_, ?_, ?_, fun j _ => (t2 13 _ (by omega) (by omega) (by omega) (by omega)).trans (fr 13 _ (by omega)), fun j h1 h2 => by omega⟩
    · rw [← t1 C r]
      unfold mX9_method_138
      rw [if_pos (show Int32.ofNat na ≤ Int32.ofNat i by rw [zi_le (by omega) (by omega)]; omega), zqg_75_14, Option.bind_some, zqs_85 (by omega), Option.bind_some, zqg_75_15, Option.bind_some, zqs_86 (by omega), Option.bind_some, zqg_75_16, Option.bind_some, zqs_87 (by omega), Option.bind_some, zqg_75_18, Option.bind_some, zqg_75_7, Option.bind_some, show (zJ (zJ (zJ M 14 nm lo) 15 nm sk) 16 nm rs).1 100 7 = Int32.ofNat len from h7, zqs_89 (by omega), Option.bind_some, zi_l0]
    · rw [t2 14 nm (by omega) (by omega) (by omega) (by omega), zJ1, if_neg (by omega), zJ1, if_neg (by omega), zJ1, if_neg (by omega), zJ1, if_pos ⟨rfl, rfl⟩]
    · rw [t2 15 nm (by omega) (by omega) (by omega) (by omega), zJ1, if_neg (by omega), zJ1, if_neg (by omega), zJ1, if_pos ⟨rfl, rfl⟩]
    · rw [t2 16 nm (by omega) (by omega) (by omega) (by omega), zJ1, if_neg (by omega), zJ1, if_pos ⟨rfl, rfl⟩]
    · rw [t2 18 nm (by omega) (by omega) (by omega) (by omega), zJ1, if_pos ⟨rfl, rfl⟩]
  | c + 1, fuel, i, M, hi, hf, h7, h9 => by
    obtain ⟨fuel, rfl⟩ : ∃ g, fuel = g + 1 := ⟨fuel - 1, by omega⟩
    have hq : n / 4 ^ i < 256 := Nat.lt_of_le_of_lt (Nat.div_le_self _ _) hn
    have e1 : Int32.ofNat (n / 4 ^ i) - Int32.ofNat (n / 4 ^ i) / (4 : Int32) * (4 : Int32) = Int32.ofNat (zkd n i) := by
      rw [zi_l4, zi_div (by omega) (by omega), zi_mul, zi_sub (by omega)]
      congr 1
      show _ = n / 4 ^ i % 4
      omega
    have e2 : Int32.ofNat (n / 4 ^ i) / (4 : Int32) = Int32.ofNat (n / 4 ^ (i + 1)) := by
      rw [zi_l4, zi_div (by omega) (by omega), Nat.div_div_eq_div_mul, Nat.pow_succ]
    obtain ⟨M', t1, t2, t3, t4, t5, t6, t7, t8, t9, t10, t11, t12, t13, t14⟩ := zj_138 hm hl hN hh hn hna c fuel (i + 1) (zJ M 13 (4 * nm + i) (Int32.ofNat (zkd n i))) (by omega) (by omega) h7 h9
    refine ⟨M', fun C r => ?_, fun o j g1 g2 g3 g4 g5 => (t2 o j g1 g2 g3 g4 g5).trans (by rw [zJ1, if_neg (by omega)]), t3, t4, t5, t6, fun j hj => (t7 j hj).trans (by rw [zJ1, if_neg (by omega)]), fun j hj => (t8 j hj).trans (by rw [zJ1, if_neg (by omega)]), t9, t10, t11, t12, fun j hj => (t13 j (by omega)).trans (by rw [zJ1, if_neg (by omega)]), fun j h1 h2 => ?_⟩
    · rw [← t1 C r]
      conv => lhs; unfold mX9_method_138
      rw [if_neg (show ¬ Int32.ofNat na ≤ Int32.ofNat i by rw [zi_le (by omega) (by omega)]; omega), zqg_75_13, Option.bind_some, e1, e2, zi_l4, zi_mul, zi_add, zqs_84 (by omega), Option.bind_some, zi_l1, zi_add]
    · by_cases c : j = i
      · subst c
        rw [t13 j (by omega), zJ1, if_pos ⟨rfl, rfl⟩]
      · exact t14 j (by omega) h2
/-- arguments, of the reference -/
theorem zj_45 (hn : n < 256) {l1 l2 l3 l4 : Int32} (x : zv_X) : ∀ (c fuel k : Nat), k + c = zna n → c < fuel → mX9_method_45 N fuel (b + 75) l1 l2 l3 l4 (Int32.ofNat k) (Int32.ofNat (n / 4 ^ k)) 1 x = mX9_method_69 N (b + 75) l1 l2 l3 l4 (Int32.ofNat (zna n)) 1 x
  | c, fuel, k, hk, hf => by
    obtain ⟨fuel, rfl⟩ : ∃ g, fuel = g + 1 := ⟨fuel - 1, by omega⟩
    obtain ⟨z1, z2, z3, z4⟩ := zna_tab n hn
    have hq : n / 4 ^ k < 256 := Nat.lt_of_le_of_lt (Nat.div_le_self _ _) hn
    have hd : zkd n k < 4 := Nat.mod_lt _ (by decide)
    have e1 : Int32.ofNat (n / 4 ^ k) - Int32.ofNat (n / 4 ^ k) / (4 : Int32) * (4 : Int32) = Int32.ofNat (zkd n k) := by
      rw [zi_l4, zi_div (by omega) (by omega), zi_mul, zi_sub (by omega)]
      congr 1
      show _ = n / 4 ^ k % 4
      omega
    have e2 : Int32.ofNat (n / 4 ^ k) / (4 : Int32) = Int32.ofNat (n / 4 ^ (k + 1)) := by
      rw [zi_l4, zi_div (by omega) (by omega), Nat.div_div_eq_div_mul, Nat.pow_succ]
    conv => lhs; unfold mX9_method_45
    rw [if_neg (by decide), e1]
    match c, hk, hf with
    | 0, hk, hf =>
      have : k = zna n := by omega
      subst this
      rw [if_pos (by rw [z2]; decide)]
    | c + 1, hk, hf =>
      have := (z3 k (by omega)).1
      rw [if_neg (by rw [zi_l0, zi_le (by omega) (by omega)]; omega), e2, zi_l1, zi_add]
      exact zj_45 hn x c fuel (k + 1) (by omega) (by omega)
end ZTB
