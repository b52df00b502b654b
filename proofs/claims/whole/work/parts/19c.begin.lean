/-! ===== a run begins ===== -/
def zab (kd : Nat → Nat) (a c : Int64) : Nat → Int64 × Int64
  | 0 => (a, c)
  | i + 1 => if kd i = 3 then zab kd a c i else ((zab kd a c i).2, (zab kd a c i).1)
def zav (kd : Nat → Nat) (a c : Int64) (i : Nat) : Int64 := if kd i = 3 then 0 else if kd i = 1 then (zab kd a c i).1.toInt32.toInt64 else (zab kd a c i).1
theorem zpk_lt (kd : Nat → Nat) (h : ∀ i, i < 4 → kd i ≤ 3) : ∀ n, n ≤ 4 → zpk kd n < 4 ^ n
  | 0, _ => by show 0 < 1; decide
  | n + 1, hn => by
    have h1 := zpk_lt kd h n (by omega)
    have h2 := h n (by omega)
    show zpk kd n + kd n * 4 ^ n < 4 ^ (n + 1)
    have : kd n * 4 ^ n ≤ 3 * 4 ^ n := Nat.mul_le_mul_right _ h2
    rw [Nat.pow_succ]
    omega
theorem zpk_at (kd : Nat → Nat) {n i : Nat} (hn : n ≤ 4) (hi : i < n) (h : ∀ i, i < n → kd i ≤ 3) : zpk kd n / 4 ^ i % 4 = kd i := by
  have c : n = 1 ∨ n = 2 ∨ n = 3 ∨ n = 4 := by omega
  have h0 := h 0
  have h1 := h 1
  have h2 := h 2
  have h3 := h 3
  rcases c with c | c | c | c <;> subst c
  · have : i = 0 := by omega
    subst this
    simp only [zpk, Nat.pow_zero, Nat.mul_one]
    omega
  · have : i = 0 ∨ i = 1 := by omega
    rcases this with e | e <;> subst e <;> simp only [zpk, Nat.pow_zero, Nat.mul_one, Nat.reducePow] <;> omega
  · have : i = 0 ∨ i = 1 ∨ i = 2 := by omega
    rcases this with e | e | e <;> subst e <;> simp only [zpk, Nat.pow_zero, Nat.mul_one, Nat.reducePow] <;> omega
  · have : i = 0 ∨ i = 1 ∨ i = 2 ∨ i = 3 := by omega
    rcases this with e | e | e | e <;> subst e <;> simp only [zpk, Nat.pow_zero, Nat.mul_one, Nat.reducePow] <;> omega
section ZBE
variable {N w b K : Nat} {F ρ α π : Nat → Nat} {C : zC} {M : zM} {r : zv_X} {μ : zMu}
theorem zpk_le (hK : zMuOk K μ) : zpk (uKd μ) (uNa μ) < 256 := by
  have h6 := hK.2.2.2.2.2.1
  have h7 := hK.2.2.2.2.2.2.1
  have : ∀ (kd : Nat → Nat) n, n ≤ 4 → (∀ i, i < n → kd i ≤ 3) → zpk kd n < 256 := fun kd n hn h => by
    have c : n = 0 ∨ n = 1 ∨ n = 2 ∨ n = 3 ∨ n = 4 := by omega
    have h0 := h 0
    have h1 := h 1
    have h2 := h 2
    have h3 := h 3
    rcases c with c | c | c | c | c <;> subst c <;> simp only [zpk, Nat.pow_zero, Nat.mul_one, Nat.reducePow] <;> omega
  exact this _ _ h6 fun i hi => (h7 i hi).2
theorem ze_koa {a i : Nat} (hR : zRt b r a μ) (hK : zMuOk K μ) (hi : i < uNa μ) : zHC w b (mX6_kindOfArgument N a (Int32.ofNat i)) C r (fun x => (x, Int32.ofNat (uKd μ i))) C r := by
  intro M
  have hb := zpk_le hK
  have hn := hK.2.2.2.2.2.1
  obtain ⟨ha, cf, hf, r1, r2, r3, r4, r5⟩ := hR
  have e1 : zm_I (zc w b C M r) a 6 3 = some (Int32.ofNat (zpk (uKd μ) (uNa μ))) := by unfold zm_I; rw [zo_g ((zc_o ha).trans r1)]; rfl
  unfold mX6_kindOfArgument mX6_kindOfArgument_0
  rw [e1, Option.bind_some, show ((2 : Int32) * Int32.ofNat i) = Int32.ofNat (2 * i) from zi_mul 2 i, show (Int32.ofNat (2 * i) &&& 31 : Int32) = Int32.ofNat (2 * i) from zi_31 (by omega), zi_shr (by omega) (by omega), show (Int32.ofNat (zpk (uKd μ) (uNa μ) >>> (2 * i)) &&& 3 : Int32) = Int32.ofNat ((zpk (uKd μ) (uNa μ) >>> (2 * i)) &&& 3) from zi_and _ 3, show (3 : Nat) = 2 ^ 2 - 1 from rfl, Nat.and_two_pow_sub_one_eq_mod, Nat.shiftRight_eq_div_pow, Nat.pow_mul]
  rw [show (2 ^ 2 : Nat) = 4 from rfl, zpk_at _ hn hi fun j hj => (hK.2.2.2.2.2.2.1 j hj).2]
theorem zd_bf33 {ad : Nat} {va vc : Int64} (hR : zRt b r ad μ) (hK : zMuOk K μ) : ∀ (m fuel i : Nat) (C : zC), i + m = uNa μ → m < fuel → C.2.2 15 5 = .ref (b + (3 * 0 + 27)) → ∃ C', zHC w b (mX4_beginFirst_33 N fuel (b + 15) ad (zab (uKd μ) va vc i).1 (zab (uKd μ) va vc i).2 (Int32.ofNat i)) C r id C' r ∧
    (∀ j, i ≤ j → j < uNa μ → uKd μ j ≠ 3 → C'.2.1 120 j = zav (uKd μ) va vc j) ∧ (∀ j, C'.1 140 j = C.1 140 j ∨ C'.1 140 j = 0) ∧ (∀ o k, o ≠ 140 → C'.1 o k = C.1 o k) ∧ (∀ o k, ¬ (o = 120 ∧ i ≤ k ∧ k < uNa μ) → C'.2.1 o k = C.2.1 o k) ∧ C'.2.2 = C.2.2 := by
  have hn := hK.2.2.2.2.2.1
  have hk3 := hK.2.2.2.2.2.2.1
  have eN : ∀ (C : zC) M, zm_I (zc w b C M r) ad 6 2 = some (Int32.ofNat (uNa μ)) := fun C M => by
    obtain ⟨ha, cf, hf, r1, _⟩ := hR
    unfold zm_I; rw [zo_g ((zc_o ha).trans r1)]; rfl
  intro m
  induction m with
  | zero =>
    intro fuel i C hi hf h5
    obtain ⟨fuel, rfl⟩ : ∃ g, fuel = g + 1 := ⟨fuel - 1, by omega⟩
    refine ⟨C, fun M => ?_, fun j h1 h2 => by omega, fun j => Or.inl rfl, fun _ _ _ => rfl, fun _ _ _ => rfl, rfl⟩
    unfold mX4_beginFirst_33
    rw [eN, Option.bind_some, if_pos (by rw [zi_le (by omega) (by omega)]; omega)]
    rfl
  | succ m ih =>
    intro fuel i C hi hf h5
    obtain ⟨fuel, rfl⟩ : ∃ g, fuel = g + 1 := ⟨fuel - 1, by omega⟩
    have hik := hk3 i (by omega)
    have ek : ∀ M, mX6_kindOfArgument N ad (Int32.ofNat i) (zc w b C M r) = some (zc w b C M r, Int32.ofNat (uKd μ i)) := fun M => ze_koa (N := N) (w := w) (C := C) hR hK (by omega) M
    have hd : ∀ M res, (if Int32.ofNat (uKd μ i) = (3 : Int32) then (mX4_beginFirst_95 (mX4_beginFirst_33 N fuel) N (b + 15) ad (zab (uKd μ) va vc i).1 (zab (uKd μ) va vc i).2 (Int32.ofNat i) (zc w b C M r)) else ((zm_R (zc w b C M r) (b + 15) 4 5).bind fun v5 => if Int32.ofNat (uKd μ i) = (1 : Int32) then (mX4_beginFirst_80 (mX4_beginFirst_33 N fuel) N (b + 15) ad (zab (uKd μ) va vc i).1 (zab (uKd μ) va vc i).2 (Int32.ofNat i) (Int32.toInt64 (Int64.toInt32 (zab (uKd μ) va vc i).1)) (Int32.ofNat i) v5 (zc w b C M r)) else (mX4_beginFirst_80 (mX4_beginFirst_33 N fuel) N (b + 15) ad (zab (uKd μ) va vc i).1 (zab (uKd μ) va vc i).2 (Int32.ofNat i) (zab (uKd μ) va vc i).1 (Int32.ofNat i) v5 (zc w b C M r)))) = res → mX4_beginFirst_33 N (fuel + 1) (b + 15) ad (zab (uKd μ) va vc i).1 (zab (uKd μ) va vc i).2 (Int32.ofNat i) (zc w b C M r) = res := fun M res h => by
      rw [mX4_beginFirst_33, eN, Option.bind_some, if_neg (by rw [zi_le (by omega) (by omega)]; omega), ze_kR hR, if_pos rfl, ek, Option.bind_some]
      exact h
    by_cases c3 : uKd μ i = 3
    · have hz : zab (uKd μ) va vc (i + 1) = zab (uKd μ) va vc i := if_pos c3
      obtain ⟨C', h1, h2, h3, h4, h6, h7⟩ := ih fuel (i + 1) C (by omega) (by omega) h5
      rw [hz] at h1
      refine ⟨C', fun M => hd M _ ?_, fun j g1 g2 g3 => ?_, h3, h4, fun o k h => h6 o k (by omega), h7⟩
      · have e := h1 M
        rw [if_pos (by rw [c3]; rfl)]
        unfold mX4_beginFirst_95
        rw [show (Int32.ofNat i + 1 : Int32) = Int32.ofNat (i + 1) from zi_add i 1]
        exact e
      · by_cases c : j = i
        · rw [c] at g3; exact absurd c3 g3
        · exact h2 j (by omega) g2 g3
    · have hz : zab (uKd μ) va vc (i + 1) = ((zab (uKd μ) va vc i).2, (zab (uKd μ) va vc i).1) := if_neg c3
      obtain ⟨C', h1, h2, h3, h4, h6, h7⟩ := ih fuel (i + 1) (zSN C 0 i (zav (uKd μ) va vc i)) (by omega) (by omega) h5
      rw [hz] at h1
      have o1 : ∀ o k, ¬ (o = 140 ∧ k = i) → (zSN C 0 i (zav (uKd μ) va vc i)).1 o k = C.1 o k := fun o k h => by unfold zSN; rw [zI1, if_neg (by omega), zL1]
      have o2 : ∀ o k, ¬ (o = 120 ∧ k = i) → (zSN C 0 i (zav (uKd μ) va vc i)).2.1 o k = C.2.1 o k := fun o k h => by unfold zSN; rw [zI2, zL2, if_neg (by omega)]
      refine ⟨C', fun M => hd M _ ?_, fun j g1 g2 g3 => ?_, fun j => ?_, fun o k h => (h4 o k h).trans (o1 o k (by omega)), fun o k h => (h6 o k (by omega)).trans (o2 o k (by omega)), h7⟩
      · have e := h1 M
        have es : ∀ v, mX1_setNumber N (b + (3 * 0 + 27)) (Int32.ofNat i) v (zc w b C M r) = some (zc w b (zSN C 0 i v) M r) := fun v => zf_setNumber (N := N) (w := w) (b := b) (C := C) (r := r) (f := 0) (k := i) (by decide) (by omega) v M
        rw [if_neg (by rw [show (3 : Int32) = Int32.ofNat 3 from rfl, zi_eq (by omega) (by omega)]; exact c3), zqg_15_5 h5, Option.bind_some]
        unfold mX4_beginFirst_80 mX4_beginFirst_95
        rw [show (Int32.ofNat i + 1 : Int32) = Int32.ofNat (i + 1) from zi_add i 1]
        by_cases c1 : uKd μ i = 1
        · have ev : zav (uKd μ) va vc i = (zab (uKd μ) va vc i).1.toInt32.toInt64 := by unfold zav; rw [if_neg c3, if_pos c1]
          rw [ev] at e
          rw [if_pos (by rw [c1]; rfl), zqkF (by decide), if_pos rfl, es, Option.bind_some]
          exact e
        · have ev : zav (uKd μ) va vc i = (zab (uKd μ) va vc i).1 := by unfold zav; rw [if_neg c3, if_neg c1]
          rw [ev] at e
          rw [if_neg (by rw [show (1 : Int32) = Int32.ofNat 1 from rfl, zi_eq (by omega) (by omega)]; exact c1), zqkF (by decide), if_pos rfl, es, Option.bind_some]
          exact e
      · by_cases c : j = i
        · subst c
          rw [h6 _ _ (by omega)]
          unfold zSN
          rw [zI2, zL2, if_pos ⟨rfl, rfl⟩]
        · exact h2 j (by omega) g2 g3
      · rcases h3 j with h | h
        · by_cases c : j = i
          · refine Or.inr (h.trans ?_)
            unfold zSN
            rw [zI1, if_pos ⟨rfl, c⟩]
          · exact Or.inl (h.trans (o1 _ _ (by omega)))
        · exact Or.inr h
/-- the reference's arguments -/
def zMe2 (M : zM) : zM := zJ (zJ (zJ (zJ (zK (zJ (zJ M 100 47 1) 100 51 0) 100 50 0) 100 52 0) 100 53 0) 100 48 0) 100 49 0
theorem zn_r98 {mt : Nat} {va vc : Int64} {fl : Int32} (hm : mt < 20) (hK : zMuOk K μ) : ∀ (m fuel i : Nat) (M : zM) (fs : Int32), i + m = uNa μ → m < fuel → (fs = 0 ∨ fs = 1) → zab (uKd μ) va vc i = (if fs = 0 then (vc, va) else (va, vc)) → M.1 12 mt = Int32.ofNat (uNa μ) → (∀ j, j < uNa μ → M.1 13 (4 * mt + j) = Int32.ofNat (uKd μ j)) → ∃ M', (∀ C0 r0, mX9_run_98 N fuel (b + 75) (Int32.ofNat mt) va vc fl fs (Int32.ofNat i) (zc w b C0 M r0) = mX9_run_240 N N (b + 75) fl (zc w b C0 (zMe2 M') r0)) ∧
    (∀ j, i ≤ j → j < uNa μ → M'.1 44 j = Int32.ofNat (uKd μ j) ∧ M'.2 43 j = zav (uKd μ) va vc j) ∧ (∀ o k, ¬ (o = 44 ∧ i ≤ k ∧ k < uNa μ) → M'.1 o k = M.1 o k) ∧ ∀ o k, ¬ (o = 43 ∧ i ≤ k ∧ k < uNa μ) → M'.2 o k = M.2 o k := by
  have hn := hK.2.2.2.2.2.1
  have hk3 := hK.2.2.2.2.2.2.1
  intro m
  induction m with
  | zero =>
    intro fuel i M fs hi hf hfs hz h12 h13
    obtain ⟨fuel, rfl⟩ : ∃ g, fuel = g + 1 := ⟨fuel - 1, by omega⟩
    refine ⟨M, fun C0 r0 => ?_, fun j h1 h2 => by omega, fun _ _ _ => rfl, fun _ _ _ => rfl⟩
    unfold mX9_run_98
    rw [zqg_75_12, Option.bind_some, zqa_83 hm, Option.bind_some, h12, if_pos (by rw [zi_le (by omega) (by omega)]; omega), zqp_75_47, Option.bind_some, zqp_75_51, Option.bind_some, zqp_75_50, Option.bind_some, zqp_75_52, Option.bind_some, zqp_75_53, Option.bind_some, zqp_75_48, Option.bind_some, zqp_75_49, Option.bind_some]
    rfl
  | succ m ih =>
    intro fuel i M fs hi hf hfs hz h12 h13
    obtain ⟨fuel, rfl⟩ : ∃ g, fuel = g + 1 := ⟨fuel - 1, by omega⟩
    have hik := hk3 i (by omega)
    have hz' : zab (uKd μ) va vc (i + 1) = if (if uKd μ i = 3 then fs else if fs = 0 then (1 : Int32) else 0) = 0 then (vc, va) else (va, vc) := by
      show (if uKd μ i = 3 then zab (uKd μ) va vc i else ((zab (uKd μ) va vc i).2, (zab (uKd μ) va vc i).1)) = _
      by_cases c3 : uKd μ i = 3
      · rw [if_pos c3, if_pos c3]; exact hz
      · rw [if_neg c3, if_neg c3, hz]
        rcases hfs with e | e <;> subst e
        · rw [if_pos rfl, if_pos rfl, if_neg (by decide)]
        · rw [if_neg (show ¬ (1 : Int32) = 0 by decide), if_neg (show ¬ (1 : Int32) = 0 by decide), if_pos rfl]
    have e1 : (zab (uKd μ) va vc i).1 = if fs = 0 then vc else va := by
      rw [hz]
      by_cases c : fs = 0
      · rw [if_pos c, if_pos c]
      · rw [if_neg c, if_neg c]
    obtain ⟨M', h1, h2, h3, h4⟩ := ih fuel (i + 1) (zK (zJ M 44 i (Int32.ofNat (uKd μ i))) 43 i (zav (uKd μ) va vc i)) (if uKd μ i = 3 then fs else if fs = 0 then 1 else 0) (by omega) (by omega) (by
      by_cases c3 : uKd μ i = 3
      · rw [if_pos c3]; exact hfs
      · rw [if_neg c3]
        by_cases c : fs = 0
        · rw [if_pos c]; exact Or.inr rfl
        · rw [if_neg c]; exact Or.inl rfl) hz' (by rw [zK1, zJ1, if_neg (by omega)]; exact h12) (fun j hj => by rw [zK1, zJ1, if_neg (by omega)]; exact h13 j hj)
    refine ⟨M', fun C0 r0 => ?_, fun j g1 g2 => ?_, fun o k h => ?_, fun o k h => ?_⟩
    · have e := h1 C0 r0
      have i1 : (4 : Int32) * Int32.ofNat mt + Int32.ofNat i = Int32.ofNat (4 * mt + i) := by
        show Int32.ofNat 4 * Int32.ofNat mt + Int32.ofNat i = _
        rw [zi_mul, zi_add]
      have r133 : mX9_run_133 (mX9_run_98 N fuel) N (b + 75) (Int32.ofNat mt) va vc fl fs (Int32.ofNat i) (Int32.ofNat (uKd μ i)) (zab (uKd μ) va vc i).1 (zc w b C0 M r0) = mX9_run_240 N N (b + 75) fl (zc w b C0 (zMe2 M') r0) := by
        unfold mX9_run_133 mX9_run_175 mX9_run_197
        rw [zqg_75_44, Option.bind_some, zqs_109 (by omega), Option.bind_some, zqg_75_43, Option.bind_some, show (Int32.ofNat i + 1 : Int32) = Int32.ofNat (i + 1) from zi_add i 1]
        unfold zav at e
        by_cases c3 : uKd μ i = 3
        · rw [if_pos c3, if_pos c3] at e
          have c3' : Int32.ofNat (uKd μ i) = (3 : Int32) := by rw [c3]; rfl
          rw [if_pos c3', zqs_108 (by omega), Option.bind_some, if_pos c3']
          exact e
        · rw [if_neg c3, if_neg c3] at e
          have c3' : ¬ Int32.ofNat (uKd μ i) = (3 : Int32) := by rw [show (3 : Int32) = Int32.ofNat 3 from rfl, zi_eq (by omega) (by omega)]; exact c3
          rw [if_neg c3']
          by_cases c1 : uKd μ i = 1
          · rw [if_pos c1] at e
            rw [if_pos (show Int32.ofNat (uKd μ i) = (1 : Int32) by rw [c1]; rfl), zqs_108 (by omega), Option.bind_some, if_neg c3']
            by_cases c : fs = 0
            · rw [if_pos c] at e ⊢; exact e
            · rw [if_neg c] at e ⊢; exact e
          · rw [if_neg c1] at e
            rw [if_neg (show ¬ Int32.ofNat (uKd μ i) = (1 : Int32) by rw [show (1 : Int32) = Int32.ofNat 1 from rfl, zi_eq (by omega) (by omega)]; exact c1), zqs_108 (by omega), Option.bind_some, if_neg c3']
            by_cases c : fs = 0
            · rw [if_pos c] at e ⊢; exact e
            · rw [if_neg c] at e ⊢; exact e
      rw [mX9_run_98, zqg_75_12, Option.bind_some, zqa_83 hm, Option.bind_some, h12, if_neg (by rw [zi_le (by omega) (by omega)]; omega), zqg_75_13, Option.bind_some, i1, zqa_84 (by omega), Option.bind_some, h13 i (by omega)]
      rw [e1] at r133
      by_cases c : fs = 0
      · rw [if_pos c] at r133 ⊢; exact r133
      · rw [if_neg c] at r133 ⊢; exact r133
    · by_cases c : j = i
      · subst c
        rw [h3 _ _ (by omega), h4 _ _ (by omega), zK1, zJ1, if_pos ⟨rfl, rfl⟩, zK2, if_pos ⟨rfl, rfl⟩]
        exact ⟨rfl, rfl⟩
      · exact h2 j (by omega) g2
    · rw [h3 o k (by omega), zK1, zJ1, if_neg (by omega)]
    · rw [h4 o k (by omega), zK2, if_neg (by omega)]
      rfl
def zMal (M : zM) (i : Nat) : zM := (fun o k => if o = 29 ∧ k < i then 0 else M.1 o k, M.2)
theorem zMal_0 : zMal M 0 = M := Prod.ext (funext fun o => funext fun k => if_neg (fun q => absurd q.2 (Nat.not_lt_zero k))) rfl
theorem zMal_s {i : Nat} : zJ (zMal M i) 29 i 0 = zMal M (i + 1) := by
  refine Prod.ext (funext fun o => funext fun k => ?_) rfl
  show (if o = 29 ∧ k = i then 0 else if o = 29 ∧ k < i then 0 else M.1 o k) = if o = 29 ∧ k < i + 1 then 0 else M.1 o k
  by_cases c : o = 29 ∧ k < i
  · rw [if_pos c, if_pos (show o = 29 ∧ k < i + 1 from ⟨c.1, by omega⟩)]
    by_cases d : o = 29 ∧ k = i
    · rw [if_pos d]
    · rw [if_neg d]
  · rw [if_neg c]
    by_cases d : o = 29 ∧ k = i
    · rw [if_pos d, if_pos (show o = 29 ∧ k < i + 1 from ⟨d.1, by omega⟩)]
    · rw [if_neg d, if_neg (fun q => by have := q.1; by_cases e : k = i; exact d ⟨this, e⟩; exact c ⟨this, by omega⟩)]
theorem zn_r60 {mt fl : Int32} {va vc : Int64} : ∀ (m fuel i : Nat), i + m = 201 → m < fuel → ∀ (C : zC) (r : zv_X), mX9_run_60 N fuel (b + 75) mt va vc fl (Int32.ofNat i) (zc w b C (zMal M i) r) = (mX9_open N (b + 75) mt (zc w b C (zJ (zMal M 201) 100 47 0) r)).bind fun o3 => mX9_run_98 N N (b + 75) mt va vc fl 1 0 o3 := by
  intro m
  induction m with
  | zero =>
    intro fuel i hi hf C r
    obtain ⟨fuel, rfl⟩ : ∃ g, fuel = g + 1 := ⟨fuel - 1, by omega⟩
    unfold mX9_run_60
    rw [if_pos (by rw [show (201 : Int32) = Int32.ofNat 201 from rfl, zi_le (by omega) (by omega)]; omega), show i = 201 by omega, zqp_75_47, Option.bind_some, zqk_75, if_pos rfl]
  | succ m ih =>
    intro fuel i hi hf C r
    obtain ⟨fuel, rfl⟩ : ∃ g, fuel = g + 1 := ⟨fuel - 1, by omega⟩
    have e := ih fuel (i + 1) (by omega) (by omega) C r
    rw [← zMal_s] at e
    unfold mX9_run_60
    rw [if_neg (by rw [show (201 : Int32) = Int32.ofNat 201 from rfl, zi_le (by omega) (by omega)]; omega), zqg_75_29, Option.bind_some, zqs_96 (Or.inl rfl) (by omega), Option.bind_some, show (Int32.ofNat i + 1 : Int32) = Int32.ofNat (i + 1) from zi_add i 1]
    exact e
end ZBE
