/-! ===== the reference's judge: take and lead ===== -/
def zPm (M : zM) (σ : zTau) : Prop := ∀ p, p < 200 → (M.1 20 p = if (σ p).isSome = true then 1 else 0) ∧ ∀ st l, σ p = some (st, l) → M.1 21 p = Int32.ofNat st.length ∧ st = zrv (fun k => zN (M.1 22 (12 * p + k))) st.length ∧ ∀ k, k < 16 → M.1 23 (16 * p + k) = Int32.ofNat (l k)
def zMl (M M' : zM) : Prop := (∀ o k, ¬ (20 ≤ o ∧ o ≤ 23 ∨ o = 100 ∧ (k = 27 ∨ k = 28)) → M'.1 o k = M.1 o k) ∧ M'.2 = M.2
section ZRL
variable {N w b K nm s p q : Nat} {F ρ α π : Nat → Nat} {C0 : zC} {M M' : zM} {μs : Nat → zMu} {σ σ' : zTau} {st : List Nat} {l : Nat → Nat}
theorem zMl.rf : zMl M M := ⟨fun _ _ _ => rfl, rfl⟩
theorem zMl.tr {M1 M2 : zM} (h : zMl M M1) (h' : zMl M1 M2) : zMl M M2 := ⟨fun o k e => (h'.1 o k e).trans (h.1 o k e), h'.2.trans h.2⟩
theorem zMl.J {o k : Nat} {v : Int32} (h : 20 ≤ o ∧ o ≤ 23 ∨ o = 100 ∧ (k = 27 ∨ k = 28)) : zMl M (zJ M o k v) := ⟨fun o' k' e => by rw [zJ1, if_neg (by rintro ⟨rfl, rfl⟩; exact e h)], rfl⟩
theorem zEm.ml (h : zEm K F ρ α π C0 M nm μs) (h' : zMl M M') : zEm K F ρ α π C0 M' nm μs := h.cong (fun o k e => h'.1 o k (by omega)) (fun k e => h'.1 100 k (by omega))
theorem zPm.cong (h : zPm M σ) (hM : ∀ o k, 20 ≤ o → o ≤ 23 → M'.1 o k = M.1 o k) : zPm M' σ := fun p hp => by
  obtain ⟨a1, a2⟩ := h p hp
  refine ⟨(hM 20 p (by decide) (by decide)).trans a1, fun st l e => ?_⟩
  obtain ⟨b1, b2, b3⟩ := a2 st l e
  refine ⟨(hM 21 p (by decide) (by decide)).trans b1, b2.trans (zrv_eq fun k _ => by rw [hM 22 _ (by decide) (by decide)]), fun k hk => (hM 23 _ (by decide) (by decide)).trans (b3 k hk)⟩
theorem zj_take45 (hp : p < 200) : ∀ (c fuel k : Nat) (M : zM), k + c = 16 → c < fuel → ∃ M', zHM w b (mX9_take_45 N fuel (b + 75) (Int32.ofNat p) (Int32.ofNat k)) M id M' ∧ (∀ o j, o ≠ 26 → M'.1 o j = M.1 o j) ∧ M'.2 = M.2 ∧ (∀ j, j < k → M'.1 26 j = M.1 26 j) ∧ ∀ j, k ≤ j → j < 16 → M'.1 26 j = M.1 23 (16 * p + j)
  | 0, fuel, k, M, hk, hf => by
    obtain ⟨fuel, rfl⟩ : ∃ g, fuel = g + 1 := ⟨fuel - 1, by omega⟩
    refine ⟨M, fun C r => ?_, fun _ _ _ => rfl, rfl, fun _ _ => rfl, fun j h1 h2 => by omega⟩
    unfold mX9_take_45
    rw [if_pos (by rw [zi_l16, zi_le (by omega) (by omega)]; omega)]
    rfl
  | c + 1, fuel, k, M, hk, hf => by
    obtain ⟨fuel, rfl⟩ : ∃ g, fuel = g + 1 := ⟨fuel - 1, by omega⟩
    obtain ⟨M', t1, t2, t3, t4, t5⟩ := zj_take45 hp c fuel (k + 1) (zJ M 26 k (M.1 23 (16 * p + k))) (by omega) (by omega)
    refine ⟨M', fun C r => ?_, fun o j e => (t2 o j e).trans (by rw [zJ1, if_neg (by omega)]), t3, fun j hj => (t4 j (by omega)).trans (by rw [zJ1, if_neg (by omega)]), fun j h1 h2 => ?_⟩
    · rw [← t1 C r]
      conv => lhs; unfold mX9_take_45
      rw [if_neg (by rw [zi_l16, zi_le (by omega) (by omega)]; omega), zqg_75_26, Option.bind_some, zqg_75_23, Option.bind_some, zi_l16, zi_mul, zi_add, zqa_93 (by omega), Option.bind_some, zqs_95 (by omega), Option.bind_some, zi_l1, zi_add]
    · by_cases c : j = k
      · subst c
        rw [t4 j (by omega), zJ1, if_pos ⟨rfl, rfl⟩]
      · rw [t5 j (by omega) h2, zJ1, if_neg (by omega)]
theorem zj_take12 (hp : p < 200) {n : Nat} (hn : n ≤ 12) : ∀ (c fuel k : Nat) (M : zM), k + c = n → c < fuel → M.1 100 25 = Int32.ofNat n → ∃ M', (∀ (C : zC) (r : zv_X), mX9_take_12 N fuel (b + 75) (Int32.ofNat p) (Int32.ofNat k) (zc w b C M r) = mX9_take_45 N N (b + 75) (Int32.ofNat p) 0 (zc w b C M' r)) ∧ (∀ o j, o ≠ 24 → M'.1 o j = M.1 o j) ∧ M'.2 = M.2 ∧ (∀ j, j < k → M'.1 24 j = M.1 24 j) ∧ ∀ j, k ≤ j → j < n → M'.1 24 j = M.1 22 (12 * p + j)
  | 0, fuel, k, M, hk, hf, h25 => by
    obtain ⟨fuel, rfl⟩ : ∃ g, fuel = g + 1 := ⟨fuel - 1, by omega⟩
    refine ⟨M, fun C r => ?_, fun _ _ _ => rfl, rfl, fun _ _ => rfl, fun j h1 h2 => by omega⟩
    unfold mX9_take_12
    rw [zqg_75_25, Option.bind_some, h25, if_pos (by rw [zi_le (by omega) (by omega)]; omega)]
  | c + 1, fuel, k, M, hk, hf, h25 => by
    obtain ⟨fuel, rfl⟩ : ∃ g, fuel = g + 1 := ⟨fuel - 1, by omega⟩
    obtain ⟨M', t1, t2, t3, t4, t5⟩ := zj_take12 hp hn c fuel (k + 1) (zJ M 24 k (M.1 22 (12 * p + k))) (by omega) (by omega) h25
    refine ⟨M', fun C r => ?_, fun o j e => (t2 o j e).trans (by rw [zJ1, if_neg (by omega)]), t3, fun j hj => (t4 j (by omega)).trans (by rw [zJ1, if_neg (by omega)]), fun j h1 h2 => ?_⟩
    · rw [← t1 C r]
      conv => lhs; unfold mX9_take_12
      rw [zqg_75_25, Option.bind_some, h25, if_neg (by rw [zi_le (by omega) (by omega)]; omega), zqg_75_24, Option.bind_some, zqg_75_22, Option.bind_some, show (12 : Int32) = Int32.ofNat 12 from rfl, zi_mul, zi_add, zqa_92 (by omega), Option.bind_some, zqs_94 (by omega), Option.bind_some, zi_l1, zi_add]
    · by_cases c : j = k
      · subst c
        rw [t4 j (by omega), zJ1, if_pos ⟨rfl, rfl⟩]
      · rw [t5 j (by omega) h2, zJ1, if_neg (by omega)]
theorem zj_take0 {n : Nat} (hN : 17 ≤ N) (hn : n ≤ 12) (hp : p < 200) (b1 : M.1 21 p = Int32.ofNat n) : ∃ M', zHM w b (mX9_take N (b + 75) (Int32.ofNat p)) M id M' ∧ zM9 M M' ∧ M'.1 100 27 = M.1 100 27 ∧ M'.1 100 25 = Int32.ofNat n ∧ (∀ j, j < n → M'.1 24 j = M.1 22 (12 * p + j)) ∧ ∀ j, j < 16 → M'.1 26 j = M.1 23 (16 * p + j) := by
  obtain ⟨M1, t1, t2, t3, t4, t5⟩ := zj_take12 (N := N) (w := w) (b := b) (p := p) hp (n := n) hn n N 0 (zJ M 100 25 (Int32.ofNat n)) (by omega) (by omega) rfl
  obtain ⟨M2, s1, s2, s3, s4, s5⟩ := zj_take45 (N := N) (w := w) (b := b) (p := p) hp 16 N 0 M1 (by omega) (by omega)
  have f27 : M2.1 100 27 = M.1 100 27 := (s2 100 27 (by decide)).trans ((t2 100 27 (by decide)).trans rfl)
  refine ⟨M2, fun C r => ?_, ⟨fun o k h => ?_, s3.trans t3⟩, f27, ?_, fun j hj => ?_, fun j hj => ?_⟩
  · unfold mX9_take mX9_take_0
    rw [zqg_75_21, Option.bind_some, zqa_91 hp, Option.bind_some, b1, zqp_75_25, Option.bind_some, zi_l0, t1 C r]
    exact s1 C r
  · rw [s2 o k (by omega), t2 o k (by omega), zJ1, if_neg (by omega)]
  · rw [s2 100 25 (by decide), t2 100 25 (by decide)]
    rfl
  · rw [s2 24 j (by decide), t5 j (Nat.zero_le j) hj, zJ1, if_neg (by omega)]
  · rw [s5 j (Nat.zero_le j) hj, t2 23 _ (by decide), zJ1, if_neg (by omega)]
theorem zj_take {n : Nat} (hN : 17 ≤ N) (h12 : s ≤ 12) (hP : zPm M σ) (hO : zOs n s σ) (hp : p < 200) (e : σ p = some (st, l)) : ∃ M', zHM w b (mX9_take N (b + 75) (Int32.ofNat p)) M id M' ∧ zM9 M M' ∧ M'.1 100 27 = M.1 100 27 ∧ (M.1 100 27 = 1 → zNm s M' (some (st, l))) := by
  obtain ⟨o1, o2, o3, o4⟩ := hO p st l e
  obtain ⟨b1, b2, b3⟩ := (hP p hp).2 st l e
  obtain ⟨M2, s1, s2, s3, s4, s5, s6⟩ := zj_take0 (N := N) (w := w) (b := b) (n := st.length) hN (by omega) hp b1
  refine ⟨M2, s1, s2, s3, fun h1 => ⟨s3.trans h1, s4, ?_, fun k hk => ?_, o3, o2, o4⟩⟩
  · refine b2.trans (zrv_eq fun k hk => ?_)
    rw [s5 k hk]
  · rw [s6 k hk]
    exact b3 k hk
/-- the loops of lead -/
theorem zj_lead86 (hq : q < 200) : ∀ (c fuel k : Nat) (M : zM), k + c = 16 → c < fuel → ∃ M', zHM w b (mX9_lead_86 N fuel (b + 75) (Int32.ofNat q) (Int32.ofNat k)) M id M' ∧ (∀ o j, ¬ (o = 23 ∧ 16 * q + k ≤ j ∧ j < 16 * q + 16) → M'.1 o j = M.1 o j) ∧ M'.2 = M.2 ∧ ∀ j, k ≤ j → j < 16 → M'.1 23 (16 * q + j) = M.1 26 j
  | 0, fuel, k, M, hk, hf => by
    obtain ⟨fuel, rfl⟩ : ∃ g, fuel = g + 1 := ⟨fuel - 1, by omega⟩
    refine ⟨M, fun C r => ?_, fun _ _ _ => rfl, rfl, fun j h1 h2 => by omega⟩
    unfold mX9_lead_86
    rw [if_pos (by rw [zi_l16, zi_le (by omega) (by omega)]; omega)]
    rfl
  | c + 1, fuel, k, M, hk, hf => by
    obtain ⟨fuel, rfl⟩ : ∃ g, fuel = g + 1 := ⟨fuel - 1, by omega⟩
    obtain ⟨M', t1, t2, t3, t5⟩ := zj_lead86 hq c fuel (k + 1) (zJ M 23 (16 * q + k) (M.1 26 k)) (by omega) (by omega)
    refine ⟨M', fun C r => ?_, fun o j e => (t2 o j (by omega)).trans (by rw [zJ1, if_neg (by omega)]), t3, fun j h1 h2 => ?_⟩
    · rw [← t1 C r]
      conv => lhs; unfold mX9_lead_86
      rw [if_neg (by rw [zi_l16, zi_le (by omega) (by omega)]; omega), zqg_75_23, Option.bind_some, zqg_75_26, Option.bind_some, zqa_95 (by omega), Option.bind_some, zi_l16, zi_mul, zi_add, zqs_93 (by omega), Option.bind_some, zi_l1, zi_add]
    · by_cases c : j = k
      · subst c
        rw [t2 23 _ (by omega), zJ1, if_pos ⟨rfl, rfl⟩]
      · rw [t5 j (by omega) h2, zJ1, if_neg (by omega)]
theorem zj_lead53 (hq : q < 200) {n : Nat} (hn : n ≤ 12) : ∀ (c fuel k : Nat) (M : zM), k + c = n → c < fuel → M.1 100 25 = Int32.ofNat n → ∃ M', (∀ (C : zC) (r : zv_X), mX9_lead_53 N fuel (b + 75) (Int32.ofNat q) (Int32.ofNat k) (zc w b C M r) = mX9_lead_86 N N (b + 75) (Int32.ofNat q) 0 (zc w b C M' r)) ∧ (∀ o j, ¬ (o = 22 ∧ 12 * q + k ≤ j ∧ j < 12 * q + n) → M'.1 o j = M.1 o j) ∧ M'.2 = M.2 ∧ ∀ j, k ≤ j → j < n → M'.1 22 (12 * q + j) = M.1 24 j
  | 0, fuel, k, M, hk, hf, h25 => by
    obtain ⟨fuel, rfl⟩ : ∃ g, fuel = g + 1 := ⟨fuel - 1, by omega⟩
    refine ⟨M, fun C r => ?_, fun _ _ _ => rfl, rfl, fun j h1 h2 => by omega⟩
    unfold mX9_lead_53
    rw [zqg_75_25, Option.bind_some, h25, if_pos (by rw [zi_le (by omega) (by omega)]; omega)]
  | c + 1, fuel, k, M, hk, hf, h25 => by
    obtain ⟨fuel, rfl⟩ : ∃ g, fuel = g + 1 := ⟨fuel - 1, by omega⟩
    obtain ⟨M', t1, t2, t3, t5⟩ := zj_lead53 hq hn c fuel (k + 1) (zJ M 22 (12 * q + k) (M.1 24 k)) (by omega) (by omega) h25
    refine ⟨M', fun C r => ?_, fun o j e => (t2 o j (by omega)).trans (by rw [zJ1, if_neg (by omega)]), t3, fun j h1 h2 => ?_⟩
    · rw [← t1 C r]
      conv => lhs; unfold mX9_lead_53
      rw [zqg_75_25, Option.bind_some, h25, if_neg (by rw [zi_le (by omega) (by omega)]; omega), zqg_75_22, Option.bind_some, zqg_75_24, Option.bind_some, zqa_94 (by omega), Option.bind_some, show (12 : Int32) = Int32.ofNat 12 from rfl, zi_mul, zi_add, zqs_92 (by omega), Option.bind_some, zi_l1, zi_add]
    · by_cases c : j = k
      · subst c
        rw [t2 22 _ (by omega), zJ1, if_pos ⟨rfl, rfl⟩]
      · rw [t5 j (by omega) h2, zJ1, if_neg (by omega)]
theorem zj_lead199 (hq : q < 200) : ∀ (c fuel k : Nat) (M : zM), k + c = 16 → c < fuel → ∃ M', zHM w b (mX9_lead_199 N fuel (b + 75) (Int32.ofNat q) (Int32.ofNat k)) M id M' ∧ (∀ o j, ¬ (o = 23 ∧ 16 * q + k ≤ j ∧ j < 16 * q + 16) → ¬ (o = 100 ∧ j = 28) → M'.1 o j = M.1 o j) ∧ M'.2 = M.2 ∧ (∀ j, k ≤ j → j < 16 → M'.1 23 (16 * q + j) = if M.1 23 (16 * q + j) = M.1 26 j ∨ M.1 23 (16 * q + j) = 0 then M.1 23 (16 * q + j) else 0) ∧
    (M'.1 100 28 = M.1 100 28 ∧ (∀ j, k ≤ j → j < 16 → M.1 23 (16 * q + j) = M.1 26 j ∨ M.1 23 (16 * q + j) = 0) ∨ M'.1 100 28 = 1 ∧ ∃ j, k ≤ j ∧ j < 16 ∧ M.1 23 (16 * q + j) ≠ M.1 26 j ∧ M.1 23 (16 * q + j) ≠ 0)
  | 0, fuel, k, M, hk, hf => by
    obtain ⟨fuel, rfl⟩ : ∃ g, fuel = g + 1 := ⟨fuel - 1, by omega⟩
    refine ⟨M, fun C r => ?_, fun _ _ _ _ => rfl, rfl, fun j h1 h2 => by omega, Or.inl ⟨rfl, fun j h1 h2 => by omega⟩⟩
    unfold mX9_lead_199
    rw [if_pos (by rw [zi_l16, zi_le (by omega) (by omega)]; omega)]
    rfl
  | c + 1, fuel, k, M, hk, hf => by
    obtain ⟨fuel, rfl⟩ : ∃ g, fuel = g + 1 := ⟨fuel - 1, by omega⟩
    by_cases d : M.1 23 (16 * q + k) = M.1 26 k ∨ M.1 23 (16 * q + k) = 0
    · obtain ⟨M', t1, t2, t3, t4, t5⟩ := zj_lead199 hq c fuel (k + 1) M (by omega) (by omega)
      refine ⟨M', fun C r => ?_, fun o j e1 e2 => t2 o j (by omega) e2, t3, fun j h1 h2 => ?_, ?_⟩
      · rw [← t1 C r]
        conv => lhs; unfold mX9_lead_199 mX9_lead_252
        rw [if_neg (by rw [zi_l16, zi_le (by omega) (by omega)]; omega), zqg_75_23, Option.bind_some, zi_l16, zi_mul, zi_add, zqa_93 (by omega), Option.bind_some, zqg_75_26, Option.bind_some, zqa_95 (by omega), Option.bind_some, zi_l1, zi_add]
        by_cases d1 : M.1 23 (16 * q + k) = M.1 26 k
        · rw [if_pos d1]
        · rw [if_neg d1, Option.bind_some, zqa_93 (by omega), Option.bind_some, if_pos (by rcases d with d | d; exact absurd d d1; exact d)]
      · by_cases c : j = k
        · subst c
          rw [t2 23 _ (by omega) (by omega), if_pos d]
        · exact t4 j (by omega) h2
      · rcases t5 with ⟨e1, e2⟩ | ⟨e1, j, e2, e3⟩
        · refine Or.inl ⟨e1, fun j h1 h2 => ?_⟩
          by_cases c : j = k
          · rw [c]; exact d
          · exact e2 j (by omega) h2
        · exact Or.inr ⟨e1, j, by omega, e3⟩
    · obtain ⟨M', t1, t2, t3, t4, t5⟩ := zj_lead199 hq c fuel (k + 1) (zJ (zJ M 23 (16 * q + k) 0) 100 28 1) (by omega) (by omega)
      have d1 : M.1 23 (16 * q + k) ≠ M.1 26 k := fun h => d (Or.inl h)
      have d2 : M.1 23 (16 * q + k) ≠ 0 := fun h => d (Or.inr h)
      refine ⟨M', fun C r => ?_, fun o j e1 e2 => (t2 o j (by omega) e2).trans (by rw [zJ1, if_neg (by omega), zJ1, if_neg (by omega)]), t3, fun j h1 h2 => ?_, Or.inr ⟨?_, k, Nat.le_refl k, by omega, d1, d2⟩⟩
      · rw [← t1 C r]
        conv => lhs; unfold mX9_lead_199 mX9_lead_252
        rw [if_neg (by rw [zi_l16, zi_le (by omega) (by omega)]; omega), zqg_75_23, Option.bind_some, zi_l16, zi_mul, zi_add, zqa_93 (by omega), Option.bind_some, zqg_75_26, Option.bind_some, zqa_95 (by omega), Option.bind_some, if_neg d1, Option.bind_some, zqa_93 (by omega), Option.bind_some, if_neg d2, Option.bind_some, zqs_93 (by omega), Option.bind_some, zqp_75_28, Option.bind_some, zi_l1, zi_add]
      · by_cases c : j = k
        · subst c
          rw [t2 23 _ (by omega) (by omega), if_neg d, zJ1, if_neg (by omega), zJ1, if_pos ⟨rfl, rfl⟩]
        · have e1 : (zJ (zJ M 23 (16 * q + k) 0) 100 28 1).1 23 (16 * q + j) = M.1 23 (16 * q + j) := by rw [zJ1, if_neg (by omega), zJ1, if_neg (by omega)]
          have e2 : (zJ (zJ M 23 (16 * q + k) 0) 100 28 1).1 26 j = M.1 26 j := by rw [zJ1, if_neg (by omega), zJ1, if_neg (by omega)]
          rw [t4 j (by omega) h2, e1, e2]
      · rcases t5 with ⟨e1, e2⟩ | ⟨e1, e2⟩
        · exact e1
        · exact e1
theorem zj_lead147 (hq : q < 200) {n : Nat} (hn : n ≤ 12) : ∀ (c fuel k : Nat) (M : zM), k + c = n → c < fuel → M.1 100 25 = Int32.ofNat n → M.1 100 27 = 0 ∨ M.1 100 27 = 1 → ∃ g : Int32, (∀ (C : zC) (r : zv_X), mX9_lead_147 N fuel (b + 75) (Int32.ofNat q) (Int32.ofNat k) (zc w b C M r) = mX9_lead_199 N N (b + 75) (Int32.ofNat q) 0 (zc w b C (zJ M 100 27 g) r)) ∧ (g = 1 ∧ M.1 100 27 = 1 ∧ (∀ j, k ≤ j → j < n → M.1 22 (12 * q + j) = M.1 24 j) ∨ g = 0 ∧ ¬ (M.1 100 27 = 1 ∧ ∀ j, k ≤ j → j < n → M.1 22 (12 * q + j) = M.1 24 j))
  | 0, fuel, k, M, hk, hf, h25, h27 => by
    obtain ⟨fuel, rfl⟩ : ∃ g, fuel = g + 1 := ⟨fuel - 1, by omega⟩
    have ej : zJ M 100 27 (M.1 100 27) = M := Prod.ext (funext fun o => funext fun k => by
      show (if o = 100 ∧ k = 27 then M.1 100 27 else M.1 o k) = M.1 o k
      split
      · next h => rw [h.1, h.2]
      · rfl) rfl
    refine ⟨M.1 100 27, fun C r => ?_, ?_⟩
    · unfold mX9_lead_147 mX9_lead_197
      rw [zqg_75_25, Option.bind_some, h25, if_pos (by rw [zi_le (by omega) (by omega)]; omega), ej]
    · rcases h27 with h | h
      · exact Or.inr ⟨h, fun e => by rw [h] at e; exact absurd e.1 (by decide)⟩
      · exact Or.inl ⟨h, h, fun j h1 h2 => by omega⟩
  | c + 1, fuel, k, M, hk, hf, h25, h27 => by
    obtain ⟨fuel, rfl⟩ : ∃ g, fuel = g + 1 := ⟨fuel - 1, by omega⟩
    have ej : zJ M 100 27 (M.1 100 27) = M := Prod.ext (funext fun o => funext fun k => by
      show (if o = 100 ∧ k = 27 then M.1 100 27 else M.1 o k) = M.1 o k
      split
      · next h => rw [h.1, h.2]
      · rfl) rfl
    have jj : ∀ a c : Int32, zJ (zJ M 100 27 a) 100 27 c = zJ M 100 27 c := fun a c => Prod.ext (funext fun o => funext fun k => by
      show (if o = 100 ∧ k = 27 then c else if o = 100 ∧ k = 27 then a else M.1 o k) = if o = 100 ∧ k = 27 then c else M.1 o k
      split <;> rfl) rfl
    rcases h27 with h | h
    · refine ⟨0, fun C r => ?_, Or.inr ⟨rfl, fun e => by rw [h] at e; exact absurd e.1 (by decide)⟩⟩
      unfold mX9_lead_147 mX9_lead_197
      rw [zqg_75_25, Option.bind_some, h25, if_neg (by rw [zi_le (by omega) (by omega)]; omega), zqg_75_27, Option.bind_some, h, if_pos rfl]
      rw [h] at ej
      rw [ej]
    · have run : ∀ (C : zC) (r : zv_X), mX9_lead_147 N (fuel + 1) (b + 75) (Int32.ofNat q) (Int32.ofNat k) (zc w b C M r) = mX9_lead_147 N fuel (b + 75) (Int32.ofNat q) (Int32.ofNat (k + 1)) (zc w b C (zJ M 100 27 (if M.1 22 (12 * q + k) = M.1 24 k then 1 else 0)) r) := fun C r => by
        conv => lhs; unfold mX9_lead_147 mX9_lead_188
        rw [zqg_75_25, Option.bind_some, h25, if_neg (by rw [zi_le (by omega) (by omega)]; omega), zqg_75_27, Option.bind_some, h, if_neg (by decide), zqg_75_22, Option.bind_some, show (12 : Int32) = Int32.ofNat 12 from rfl, zi_mul, zi_add, zqa_92 (by omega), Option.bind_some, zqg_75_24, Option.bind_some, zqa_94 (by omega), Option.bind_some]
        by_cases d : M.1 22 (12 * q + k) = M.1 24 k
        · rw [if_pos d, if_pos d, if_pos (Or.inr rfl), zqp_75_27, Option.bind_some, zi_l1, zi_add]
        · rw [if_neg d, if_neg d, if_pos (Or.inl rfl), zqp_75_27, Option.bind_some, zi_l1, zi_add]
      by_cases d : M.1 22 (12 * q + k) = M.1 24 k
      · rw [if_pos d] at run
        obtain ⟨g, t1, t2⟩ := zj_lead147 hq hn c fuel (k + 1) (zJ M 100 27 1) (by omega) (by omega) h25 (Or.inr rfl)
        refine ⟨g, fun C r => by rw [run, t1, jj], ?_⟩
        rcases t2 with ⟨a1, a2, a3⟩ | ⟨a1, a2⟩
        · refine Or.inl ⟨a1, h, fun j h1 h2 => ?_⟩
          by_cases c : j = k
          · rw [c]; exact d
          · have := a3 j (by omega) h2
            rwa [zJ1, if_neg (by omega), zJ1, if_neg (by omega)] at this
        · refine Or.inr ⟨a1, fun e => a2 ⟨rfl, fun j h1 h2 => ?_⟩⟩
          rw [zJ1, if_neg (by omega), zJ1, if_neg (by omega)]
          exact e.2 j (by omega) h2
      · rw [if_neg d] at run
        obtain ⟨g, t1, t2⟩ := zj_lead147 hq hn c fuel (k + 1) (zJ M 100 27 0) (by omega) (by omega) h25 (Or.inl rfl)
        refine ⟨g, fun C r => by rw [run, t1, jj], ?_⟩
        rcases t2 with ⟨a1, a2, a3⟩ | ⟨a1, a2⟩
        · exact absurd a2 (by rw [zJ1, if_pos ⟨rfl, rfl⟩]; decide)
        · exact Or.inr ⟨a1, fun e => d (e.2 k (Nat.le_refl k) (by omega))⟩
theorem zrv_inj {f g : Nat → Nat} : ∀ {n : Nat}, zrv f n = zrv g n → ∀ k, k < n → f k = g k
  | 0, _, k, hk => absurd hk (Nat.not_lt_zero k)
  | n + 1, h, k, hk => by
    have h' : f n :: zrv f n = g n :: zrv g n := h
    injection h' with e1 e2
    by_cases c : k = n
    · rw [c]; exact e1
    · exact zrv_inj e2 k (by omega)
theorem zPm.put {n : Nat} (hP : zPm M σ) (hO : zOs n s σ) (h12 : s ≤ 12) (h20 : M'.1 20 q = 1) (h21 : M'.1 21 q = Int32.ofNat st.length) (h22 : st = zrv (fun k => zN (M'.1 22 (12 * q + k))) st.length) (h23 : ∀ k, k < 16 → M'.1 23 (16 * q + k) = Int32.ofNat (l k)) (f20 : ∀ p, p ≠ q → M'.1 20 p = M.1 20 p) (f21 : ∀ p, p ≠ q → M'.1 21 p = M.1 21 p) (f22 : ∀ p k, p ≠ q → k < 12 → M'.1 22 (12 * p + k) = M.1 22 (12 * p + k)) (f23 : ∀ p k, p ≠ q → k < 16 → M'.1 23 (16 * p + k) = M.1 23 (16 * p + k)) : zPm M' (zpu σ q (st, l)) := fun p hp => by
  by_cases c : p = q
  · subst c
    refine ⟨by rw [zpu_at]; exact h20, fun st' l' e => ?_⟩
    rw [zpu_at] at e
    injection e with e
    injection e with e1 e2
    subst e1; subst e2
    exact ⟨h21, h22, h23⟩
  · obtain ⟨a1, a2⟩ := hP p hp
    refine ⟨by rw [zpu_ne c, f20 p c]; exact a1, fun st' l' e => ?_⟩
    rw [zpu_ne c] at e
    obtain ⟨b1, b2, b3⟩ := a2 st' l' e
    have hl := (hO p st' l' e).2.1
    refine ⟨(f21 p c).trans b1, b2.trans (zrv_eq fun k hk => by rw [f22 p k c (by omega)]), fun k hk => (f23 p k c hk).trans (b3 k hk)⟩
/-- what lead leaves -/
def zQl (M M' : zM) (σ : zTau) (o : Option zTau) : Prop := match o with
  | none => M'.1 100 27 = 0
  | some σ' => M'.1 100 27 = 1 ∧ zPm M' σ' ∧ (σ' = σ ∧ M'.1 100 28 = M.1 100 28 ∨ M'.1 100 28 = 1 ∧ zwt σ' < zwt σ)
theorem zj_leadN (hN : 17 ≤ N) (hE : zEm K F ρ α π C0 M nm μs) (hP : zPm M σ) (hO : zOs (uLen (μs nm)) (uSk (μs nm)) σ) (h : zNm (uSk (μs nm)) M (some (st, l))) (hq : q < uLen (μs nm)) (e : σ q = none) : ∃ M', zHM w b (mX9_lead N (b + 75) (Int32.ofNat nm) (Int32.ofNat q)) M id M' ∧ zMl M M' ∧ zQl M M' σ (some (zpu σ q (st, l))) := by
  have h12 : uSk (μs nm) ≤ 12 := hE.ok.2.2.2.2.2.2.2.2.2.1
  have hn : uLen (μs nm) ≤ 200 := hE.ok.1
  have h20 := hE.2.1
  obtain ⟨h1, h2, h3, h4, h5, h6, h7⟩ := h
  dsimp only at h2 h3 h4 h5 h6 h7
  have e18 : M.1 18 nm = Int32.ofNat (uLen (μs nm)) := hE.mt.1
  have e20 : M.1 20 q = 0 := by rw [(hP q (by omega)).1, e]; rfl
  obtain ⟨M2, t1, t2, t3, t5⟩ := zj_lead53 (N := N) (w := w) (b := b) (q := q) (by omega) (n := st.length) (by omega) st.length N 0 (zJ (zJ (zJ M 20 q 1) 100 28 1) 21 q (Int32.ofNat st.length)) (by omega) (by omega) h2
  obtain ⟨M3, s1, s2, s3, s5⟩ := zj_lead86 (N := N) (w := w) (b := b) (q := q) (by omega) 16 N 0 M2 (by omega) (by omega)
  have m3 : ∀ o j, ¬ (o = 22 ∧ 12 * q ≤ j ∧ j < 12 * q + 12) → ¬ (o = 23 ∧ 16 * q ≤ j ∧ j < 16 * q + 16) → ¬ (o = 21 ∧ j = q) → ¬ (o = 100 ∧ j = 28) → ¬ (o = 20 ∧ j = q) → M3.1 o j = M.1 o j := fun o j g1 g2 g3 g4 g5 => by
    rw [s2 o j (by omega), t2 o j (by omega), zJ1, if_neg g3, zJ1, if_neg g4, zJ1, if_neg g5]
  refine ⟨M3, fun C r => ?_, ⟨fun o k g => m3 o k (by omega) (by omega) (by omega) (by omega) (by omega), s3.trans t3⟩, (m3 100 27 (by omega) (by omega) (by omega) (by omega) (by omega)).trans h1, ?_, Or.inr ⟨?_, ?_⟩⟩
  · unfold mX9_lead mX9_lead_0
    rw [if_neg (by rw [zi_nn (by omega)]; exact not_false), zqg_75_18, Option.bind_some, zqa_89 (by omega), Option.bind_some, e18, if_pos (by rw [zi_lt (by omega) (by omega)]; exact hq), zqg_75_20, Option.bind_some, zqa_90 (by omega), Option.bind_some, e20, if_pos rfl, Option.bind_some, zqs_90 (Or.inr rfl) (by omega), Option.bind_some, zqp_75_28, Option.bind_some, zqg_75_21, Option.bind_some, zqg_75_25, Option.bind_some, show (zJ (zJ M 20 q 1) 100 28 1).1 100 25 = Int32.ofNat st.length from h2, zqs_91 (by omega), Option.bind_some, zi_l0, t1 C r]
    exact s1 C r
  · refine hP.put hO h12 ?_ ?_ ?_ (fun k hk => ?_) (fun p c => m3 20 p (by omega) (by omega) (by omega) (by omega) (by omega)) (fun p c => m3 21 p (by omega) (by omega) (by omega) (by omega) (by omega)) (fun p k c hk => m3 22 _ (by omega) (by omega) (by omega) (by omega) (by omega)) (fun p k c hk => m3 23 _ (by omega) (by omega) (by omega) (by omega) (by omega))
    · rw [s2 20 q (by omega), t2 20 q (by omega), zJ1, if_neg (by omega), zJ1, if_neg (by omega), zJ1, if_pos ⟨rfl, rfl⟩]
    · rw [s2 21 q (by omega), t2 21 q (by omega), zJ1, if_pos ⟨rfl, rfl⟩]
    · refine h3.trans (zrv_eq fun k hk => ?_)
      rw [s2 22 _ (by omega), t5 k (Nat.zero_le k) hk, zJ1, if_neg (by omega), zJ1, if_neg (by omega), zJ1, if_neg (by omega)]
    · rw [s5 k (Nat.zero_le k) hk, t2 26 k (by omega), zJ1, if_neg (by omega), zJ1, if_neg (by omega), zJ1, if_neg (by omega)]
      exact h4 k hk
  · rw [s2 100 28 (by omega), t2 100 28 (by omega), zJ1, if_neg (by omega), zJ1, if_pos ⟨rfl, rfl⟩]
  · have ez : zlead (uLen (μs nm)) (q : Nat) st l σ = some (zpu σ q (st, l)) := by
      unfold zlead
      rw [if_pos ⟨by omega, by omega⟩, Int.toNat_natCast, e]
    rcases zlead_wt ez hO hn h7 with g | g
    · have := congrFun g q
      rw [zpu_at, e] at this
      cases this
    · exact g
theorem zj_leadO {v : List Nat × (Nat → Nat)} (hN : 17 ≤ N) (hE : zEm K F ρ α π C0 M nm μs) (hP : zPm M σ) (hO : zOs (uLen (μs nm)) (uSk (μs nm)) σ) (h : zNm (uSk (μs nm)) M (some (st, l))) (hq : q < uLen (μs nm)) (e : σ q = some v) : ∃ M', zHM w b (mX9_lead N (b + 75) (Int32.ofNat nm) (Int32.ofNat q)) M id M' ∧ zMl M M' ∧ zQl M M' σ (if v.1 = st then some (zpu σ q (v.1, zmt v.2 l)) else none) ∧ ∀ k, M'.1 21 k = M.1 21 k := by
  have h12 : uSk (μs nm) ≤ 12 := hE.ok.2.2.2.2.2.2.2.2.2.1
  have hn : uLen (μs nm) ≤ 200 := hE.ok.1
  have h20 := hE.2.1
  obtain ⟨h1, h2, h3, h4, h5, h6, h7⟩ := h
  dsimp only at h2 h3 h4 h5 h6 h7
  have e18 : M.1 18 nm = Int32.ofNat (uLen (μs nm)) := hE.mt.1
  have e20 : M.1 20 q = 1 := by rw [(hP q (by omega)).1, e]; rfl
  obtain ⟨b1, b2, b3⟩ := (hP q (by omega)).2 v.1 v.2 e
  obtain ⟨o1, o2, o3, o4⟩ := hO q v.1 v.2 e
  have run : ∀ (C : zC) (r : zv_X), mX9_lead N (b + 75) (Int32.ofNat nm) (Int32.ofNat q) (zc w b C M r) = mX9_lead_147 N N (b + 75) (Int32.ofNat q) (Int32.ofNat 0) (zc w b C (zJ M 100 27 (if v.1.length = st.length then 1 else 0)) r) := fun C r => by
    unfold mX9_lead mX9_lead_0
    rw [if_neg (by rw [zi_nn (by omega)]; exact not_false), zqg_75_18, Option.bind_some, zqa_89 (by omega), Option.bind_some, e18, if_pos (by rw [zi_lt (by omega) (by omega)]; exact hq), zqg_75_20, Option.bind_some, zqa_90 (by omega), Option.bind_some, e20, if_neg (by decide), zqg_75_27, Option.bind_some, h1, if_neg (by decide), zqg_75_21, Option.bind_some, zqa_91 (by omega), Option.bind_some, zqg_75_25, Option.bind_some, b1, h2]
    unfold mX9_lead_141 mX9_lead_142
    by_cases c : v.1.length = st.length
    · rw [if_pos c, if_pos (by rw [c]), if_pos (Or.inr rfl), zqp_75_27, Option.bind_some]
      rfl
    · rw [if_neg c, if_neg (by rw [zi_eq (by omega) (by omega)]; exact c), if_pos (Or.inl rfl), zqp_75_27, Option.bind_some]
      rfl
  have r01 : (zJ M 100 27 (if v.1.length = st.length then 1 else 0)).1 100 27 = 0 ∨ (zJ M 100 27 (if v.1.length = st.length then 1 else 0)).1 100 27 = 1 := by
    rw [zJ1, if_pos ⟨rfl, rfl⟩]
    split
    · exact Or.inr rfl
    · exact Or.inl rfl
  obtain ⟨g, t1, t2⟩ := zj_lead147 (N := N) (w := w) (b := b) (q := q) (by omega) (n := st.length) (by omega) st.length N 0 (zJ M 100 27 (if v.1.length = st.length then 1 else 0)) (by omega) (by omega) h2 r01
  rw [zJJ] at t1
  obtain ⟨M', s1, s2, s3, s4, s5⟩ := zj_lead199 (N := N) (w := w) (b := b) (q := q) (by omega) 16 N 0 (zJ M 100 27 g) (by omega) (by omega)
  have jr : ∀ o j, ¬ (o = 100 ∧ j = 27) → (zJ M 100 27 g).1 o j = M.1 o j := fun o j c => by rw [zJ1, if_neg c]
  have m3 : ∀ o j, ¬ (o = 23 ∧ 16 * q ≤ j ∧ j < 16 * q + 16) → ¬ (o = 100 ∧ j = 28) → ¬ (o = 100 ∧ j = 27) → M'.1 o j = M.1 o j := fun o j g1 g2 g3 => by
    rw [s2 o j (by omega) g2, jr o j g3]
  have m27 : M'.1 100 27 = g := by rw [s2 100 27 (by omega) (by omega), zJ1, if_pos ⟨rfl, rfl⟩]
  refine ⟨M', fun C r => ?_, ⟨fun o k c => m3 o k (by omega) (by omega) (by omega), s3⟩, ?_, fun k => m3 21 k (by omega) (by omega) (by omega)⟩
  · rw [run C r, t1 C r]
    exact s1 C r
  · have same : g = 1 ∧ v.1 = st ∨ g = 0 ∧ v.1 ≠ st := by
      rcases t2 with ⟨a1, a2, a3⟩ | ⟨a1, a2⟩
      · refine Or.inl ⟨a1, ?_⟩
        rw [zJ1, if_pos ⟨rfl, rfl⟩] at a2
        by_cases c : v.1.length = st.length
        · refine b2.trans ?_
          rw [c]
          refine (zrv_eq fun k hk => ?_).trans h3.symm
          have := a3 k (Nat.zero_le k) hk
          rw [zJ1, if_neg (by omega), zJ1, if_neg (by omega)] at this
          rw [this]
        · rw [if_neg c] at a2
          exact absurd a2 (by decide)
      · refine Or.inr ⟨a1, fun c => a2 ⟨?_, fun j _ hj => ?_⟩⟩
        · rw [zJ1, if_pos ⟨rfl, rfl⟩, if_pos (by rw [c])]
        · rw [zJ1, if_neg (by omega), zJ1, if_neg (by omega)]
          have e1 : zrv (fun k => zN (M.1 22 (12 * q + k))) st.length = zrv (fun k => zN (M.1 24 k)) st.length := by
            rw [← h3, ← c]
            exact b2.symm
          have e2 : zN (M.1 22 (12 * q + j)) = zN (M.1 24 j) := zrv_inj e1 j hj
          rw [← zN_of (M.1 22 (12 * q + j)), e2, zN_of]
    rcases same with ⟨a1, a2⟩ | ⟨a1, a2⟩
    · rw [if_pos a2]
      have l3 : ∀ k, k < 16 → (M.1 23 (16 * q + k) = M.1 26 k) = (v.2 k = l k) := fun k hk => by
        have c1 := o4.1 k
        have c2 := h7.1 k
        rw [b3 k hk, h4 k hk, zi_eq (by omega) (by omega)]
      have l0 : ∀ k, k < 16 → (M.1 23 (16 * q + k) = 0) = (v.2 k = 0) := fun k hk => by
        have c1 := o4.1 k
        rw [b3 k hk, zi_l0, zi_eq (by omega) (by omega)]
      have ez : zlead (uLen (μs nm)) (q : Nat) st l σ = some (zpu σ q (v.1, zmt v.2 l)) := by
        unfold zlead
        rw [if_pos ⟨by omega, by omega⟩, Int.toNat_natCast, e]
        dsimp only
        rw [if_pos a2]
      refine ⟨m27.trans a1, ?_, ?_⟩
      · refine hP.put hO h12 ?_ ?_ ?_ (fun k hk => ?_) (fun p c => m3 20 p (by omega) (by omega) (by omega)) (fun p c => m3 21 p (by omega) (by omega) (by omega)) (fun p k c hk => m3 22 _ (by omega) (by omega) (by omega)) (fun p k c hk => m3 23 _ (by omega) (by omega) (by omega))
        · rw [m3 20 q (by omega) (by omega) (by omega)]; exact e20
        · rw [m3 21 q (by omega) (by omega) (by omega)]; exact b1
        · refine b2.trans (zrv_eq fun k hk => ?_)
          rw [m3 22 _ (by omega) (by omega) (by omega)]
        · have c1 := o4.1 k
          rw [s4 k (Nat.zero_le k) hk, jr 23 _ (by omega), jr 26 _ (by omega)]
          show _ = Int32.ofNat (if v.2 k = l k then v.2 k else 0)
          by_cases d : v.2 k = l k
          · rw [if_pos (Or.inl ((l3 k hk).mpr d)), if_pos d, b3 k hk]
          · rw [if_neg d]
            by_cases d0 : v.2 k = 0
            · rw [if_pos (Or.inr ((l0 k hk).mpr d0)), b3 k hk, d0]
            · rw [if_neg (by rintro (d1 | d1); exact d ((l3 k hk).mp d1); exact d0 ((l0 k hk).mp d1))]
              rfl
      · rcases s5 with ⟨c1, c2⟩ | ⟨c1, j, _, c2, c3, c4⟩
        · refine Or.inl ⟨?_, c1.trans (jr 100 28 (by omega))⟩
          have em : zmt v.2 l = v.2 := funext fun k => by
            show (if v.2 k = l k then v.2 k else 0) = v.2 k
            by_cases hk : k < 16
            · have := c2 k (Nat.zero_le k) hk
              rw [jr 23 _ (by omega), jr 26 _ (by omega), l3 k hk, l0 k hk] at this
              rcases this with d | d
              · rw [if_pos d]
              · rw [d]; split <;> rfl
            · have := o4.2 k (by omega)
              rw [this]; split <;> rfl
          rw [em]
          funext p
          by_cases c : p = q
          · subst c
            rw [zpu_at, e]
          · exact zpu_ne c
        · refine Or.inr ⟨c1, ?_⟩
          rw [jr 23 _ (by omega), jr 26 _ (by omega)] at c3
          rw [jr 23 _ (by omega)] at c4
          have d1 : ¬ v.2 j = l j := fun d => c3 ((l3 j c2).mpr d)
          have d0 : ¬ v.2 j = 0 := fun d => c4 ((l0 j c2).mpr d)
          rcases zlead_wt ez hO hn h7 with g | g
          · have g1 := congrFun g q
            rw [zpu_at, e] at g1
            injection g1 with g1
            have g2 := congrFun (congrArg Prod.snd g1) j
            have g3 : (if v.2 j = l j then v.2 j else 0) = v.2 j := g2
            rw [if_neg d1] at g3
            exact absurd g3.symm d0
          · exact g
    · rw [if_neg a2]
      exact m27.trans a1
theorem zj_lead {q : Int} (hN : 17 ≤ N) (hE : zEm K F ρ α π C0 M nm μs) (hP : zPm M σ) (hO : zOs (uLen (μs nm)) (uSk (μs nm)) σ) (h : zNm (uSk (μs nm)) M (some (st, l))) (hq1 : -2 ^ 31 ≤ q) (hq2 : q < 2 ^ 31) : ∃ M', zHM w b (mX9_lead N (b + 75) (Int32.ofNat nm) (Int32.ofInt q)) M id M' ∧ zMl M M' ∧ zQl M M' σ (zlead (uLen (μs nm)) q st l σ) ∧ (zlead (uLen (μs nm)) q st l σ = none → ∀ k, M'.1 21 k = M.1 21 k) := by
  have hn : uLen (μs nm) ≤ 200 := hE.ok.1
  have h20 := hE.2.1
  have e18 : M.1 18 nm = Int32.ofNat (uLen (μs nm)) := hE.mt.1
  unfold zlead
  by_cases c0 : q < 0
  · rw [if_neg (by omega)]
    refine ⟨zJ M 100 27 0, fun C r => ?_, zMl.J (by omega), rfl, fun _ k => rfl⟩
    unfold mX9_lead mX9_lead_0 mX9_lead_14
    rw [if_pos (zi_ofneg c0 hq1), zqp_75_27, Option.bind_some]
    rfl
  · obtain ⟨n, rfl⟩ : ∃ n : Nat, q = n := ⟨q.toNat, by omega⟩
    rw [zi_ofnn]
    by_cases c : n < uLen (μs nm)
    · rw [if_pos ⟨by omega, by omega⟩, Int.toNat_natCast]
      cases e : σ n with
      | none =>
        obtain ⟨M', a1, a2, a3⟩ := zj_leadN (w := w) (b := b) hN hE hP hO h c e
        exact ⟨M', a1, a2, a3, fun g => by cases g⟩
      | some v =>
        obtain ⟨M', a1, a2, a3, a4⟩ := zj_leadO (w := w) (b := b) hN hE hP hO h c e
        exact ⟨M', a1, a2, a3, fun _ => a4⟩
    · rw [if_neg (by omega)]
      refine ⟨zJ M 100 27 0, fun C r => ?_, zMl.J (by omega), rfl, fun _ k => rfl⟩
      unfold mX9_lead mX9_lead_0 mX9_lead_14
      rw [if_neg (by rw [zi_nn (by omega)]; exact not_false), zqg_75_18, Option.bind_some, zqa_89 (by omega), Option.bind_some, e18, if_neg (by rw [zi_lt (by omega) (by omega)]; exact c), zqp_75_27, Option.bind_some]
      rfl
/-- the state of now is left -/
theorem zNm.ml (h : zNm s M (some (st, l))) (h' : zMl M M') (e : M'.1 100 27 = 1) : zNm s M' (some (st, l)) := by
  obtain ⟨h1, h2, h3, h4, h5, h6, h7⟩ := h
  refine ⟨e, (h'.1 100 25 (by omega)).trans h2, h3.trans (zrv_eq fun k _ => by rw [h'.1 24 k (by omega)]), fun k hk => (h'.1 26 k (by omega)).trans (h4 k hk), h5, h6, h7⟩
theorem zPm.m9 (h : zPm M σ) (h' : zM9 M M') : zPm M' σ := h.cong fun o k a c => h'.1 o k (by omega)
end ZRL
