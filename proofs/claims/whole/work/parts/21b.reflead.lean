/-! ===== the reference's judge: take and lead ===== -/
def zPm (M : zM) (σ : zTau) : Prop := ∀ p, p < 200 → (M.1 20 p = if (σ p).isSome = true then 1 else 0) ∧ ∀ st l, σ p = some (st, l) → M.1 21 p = Int32.ofNat st.length ∧ st = zrv (fun k => zN (M.1 22 (12 * p + k))) st.length ∧ ∀ k, k < 16 → M.1 23 (16 * p + k) = Int32.ofNat (l k)
def zMl (M M' : zM) : Prop := (∀ o k, ¬ (20 ≤ o ∧ o ≤ 23 ∨ o = 100 ∧ (k = 27 ∨ k = 28)) → M'.1 o k = M.1 o k) ∧ M'.2 = M.2
section ZRL
variable {N w b K nm s p q : Nat} {F ρ α π : Nat → Nat} {C0 : zC} {M M' : zM} {μs : Nat → zMu} {σ σ' : zTau} {st : List Nat} {l : Nat → Nat}
theorem zMl.rf : zMl M M := ⟨fun _ _ _ => rfl, rfl⟩
theorem zMl.tr {M1 M2 : zM} (h : zMl M M1) (h' : zMl M1 M2) : zMl M M2 := ⟨fun o k e => (h'.1 o k e).trans (h.1 o k e), h'.2.trans h.2⟩
theorem zMl.J {o k : Nat} {v : Int32} (h : 20 ≤ o ∧ o ≤ 23 ∨ o = 100 ∧ (k = 27 ∨ k = 28)) : zMl M (zJ M o k v) := ⟨fun o' k' e => by rw [zJ1, if_neg (by rintro ⟨rfl, rfl⟩; exact e h)], rfl⟩
theorem zEm.ml (h : zEm K F ρ α π C0 M nm μs) (h' : zMl M M') : zEm K F ρ α π C0 M' nm μs := h.cong (fun o k e => h'.1 o k (by omega)) (fun k e => h'.1 100 k (by omega))
theorem zPm.cong (h : zPm M σ) (hM : ∀ o k, 20 ≤ o → o ≤ 23 → M'.1 o k = M.1 o k) : zPm M' σ := fun p hp => by
  obtain ⟨a1, a2⟩ := h p hp
  refine ⟨(hM 20 p (by decide) (by decide)).trans a1, fun st l e => ?_⟩
  obtain ⟨b1, b2, b3⟩ := a2 st l e
  refine ⟨(hM 21 p (by decide) (by decide)).trans b1, b2.trans (zrv_eq fun k _ => by rw [hM 22 _ (by decide) (by decide)]), fun k hk => (hM 23 _ (by decide) (by decide)).trans (b3 k hk)⟩
theorem zj_take45 (hp : p < 200) : ∀ (c fuel k : Nat) (M : zM), k + c = 16 → c < fuel → ∃ M', zHM w b (mX9_take_45 N fuel (b + 75) (Int32.ofNat p) (Int32.ofNat k)) M id M' ∧ (∀ o j, o ≠ 26 → M'.1 o j = M.1 o j) ∧ M'.2 = M.2 ∧ (∀ j, j < k → M'.1 26 j = M.1 26 j) ∧ ∀ j, k ≤ j → j < 16 → M'.1 26 j = M.1 23 (16 * p + j)
  | 0, fuel, k, M, hk, hf => by
    obtain ⟨fuel, rfl⟩ : ∃ g, fuel = g + 1 := ⟨fuel - 1, by omega⟩
    refine ⟨M, fun C r => ?_, fun _ _ _ => rfl, rfl, fun _ _ => rfl, fun j h1 h2 => by omega⟩
    unfold mX9_take_45
    rw [if_pos (by rw [zi_l16, zi_le (by omega) (by omega)]; omega)]
    rfl
  | c + 1, fuel, k, M, hk, hf => by
    obtain ⟨fuel, rfl⟩ : ∃ g, fuel = g + 1 := ⟨fuel - 1, by omega⟩
    obtain ⟨M', t1, t2, t3, t4, t5⟩ := zj_take45 hp c fuel (k + 1) (zJ M 26 k (M.1 23 (16 * p + k))) (by omega) (by omega)
    refine ⟨M', fun C r => ?_, fun o j e => (t2 o j e).trans (by rw [zJ1, if_neg (by omega)]), t3, fun j hj => (t4 j (by omega)).trans (by rw [zJ1, if_neg (by omega)]), fun j h1 h2 => ?_⟩
    · rw [← t1 C r]
      conv => lhs; unfold mX9_take_45
      rw [if_neg (by rw [zi_l16, zi_le (by omega) (by omega)]; omega), zqg_75_26, Option.bind_some, zqg_75_23, Option.bind_some, zi_l16, zi_mul, zi_add, zqa_93 (by omega), Option.bind_some, zqs_95 (by omega), Option.bind_some, zi_l1, zi_add]
    · by_cases c : j = k
      · subst c
        rw [t4 j (by omega), zJ1, if_pos ⟨rfl, rfl⟩]
      · rw [t5 j (by omega) h2, zJ1, if_neg (by omega)]
theorem zj_take12 (hp : p < 200) {n : Nat} (hn : n ≤ 12) : ∀ (c fuel k : Nat) (M : zM), k + c = n → c < fuel → M.1 100 25 = Int32.ofNat n → ∃ M', (∀ (C : zC) (r : zv_X), mX9_take_12 N fuel (b + 75) (Int32.ofNat p) (Int32.ofNat k) (zc w b C M r) = mX9_take_45 N N (b + 75) (Int32.ofNat p) 0 (zc w b C M' r)) ∧ (∀ o j, o ≠ 24 → M'.1 o j = M.1 o j) ∧ M'.2 = M.2 ∧ (∀ j, j < k → M'.1 24 j = M.1 24 j) ∧ ∀ j, k ≤ j → j < n → M'.1 24 j = M.1 22 (12 * p + j)
  | 0, fuel, k, M, hk, hf, h25 => by
    obtain ⟨fuel, rfl⟩ : ∃ g, fuel = g + 1 := ⟨fuel - 1, by omega⟩
    refine ⟨M, fun C r => ?_, fun _ _ _ => rfl, rfl, fun _ _ => rfl, fun j h1 h2 => by omega⟩
    unfold mX9_take_12
    rw [zqg_75_25, Option.bind_some, h25, if_pos (by rw [zi_le (by omega) (by omega)]; omega)]
  | c + 1, fuel, k, M, hk, hf, h25 => by
    obtain ⟨fuel, rfl⟩ : ∃ g, fuel = g + 1 := ⟨fuel - 1, by omega⟩
    obtain ⟨M', t1, t2, t3, t4, t5⟩ := zj_take12 hp hn c fuel (k + 1) (zJ M 24 k (M.1 22 (12 * p + k))) (by omega) (by omega) h25
    refine ⟨M', fun C r => ?_, fun o j e => (t2 o j e).trans (by rw [zJ1, if_neg (by omega)]), t3, fun j hj => (t4 j (by omega)).trans (by rw [zJ1, if_neg (by omega)]), fun j h1 h2 => ?_⟩
    · rw [← t1 C r]
      conv => lhs; unfold mX9_take_12
      rw [zqg_75_25, Option.bind_some, h25, if_neg (by rw [zi_le (by omega) (by omega)]; omega), zqg_75_24, Option.bind_some, zqg_75_22, Option.bind_some, show (12 : Int32) = Int32.ofNat 12 from rfl, zi_mul, zi_add, zqa_92 (by omega), Option.bind_some, zqs_94 (by omega), Option.bind_some, zi_l1, zi_add]
    · by_cases c : j = k
      · subst c
        rw [t4 j (by omega), zJ1, if_pos ⟨rfl, rfl⟩]
      · rw [t5 j (by omega) h2, zJ1, if_neg (by omega)]
theorem zj_take (hN : 17 ≤ N) (h12 : s ≤ 12) (hP : zPm M σ) (hO : zOs n s σ) (hp : p < 200) (e : σ p = some (st, l)) : ∃ M', zHM w b (mX9_take N (b + 75) (Int32.ofNat p)) M id M' ∧ zM9 M M' ∧ M'.1 100 27 = M.1 100 27 ∧ (M.1 100 27 = 1 → zNm s M' (some (st, l))) := by
  obtain ⟨o1, o2, o3, o4⟩ := hO p st l e
  obtain ⟨b1, b2, b3⟩ := (hP p hp).2 st l e
  obtain ⟨M1, t1, t2, t3, t4, t5⟩ := zj_take12 (N := N) (w := w) (b := b) (p := p) hp (n := st.length) (by omega) st.length N 0 (zJ M 100 25 (Int32.ofNat st.length)) (by omega) (by omega) rfl
  obtain ⟨M2, s1, s2, s3, s4, s5⟩ := zj_take45 (N := N) (w := w) (b := b) (p := p) hp 16 N 0 M1 (by omega) (by omega)
  have f27 : M2.1 100 27 = M.1 100 27 := (s2 100 27 (by decide)).trans ((t2 100 27 (by decide)).trans rfl)
  refine ⟨M2, fun C r => ?_, ⟨fun o k h => ?_, s3.trans t3⟩, f27, fun h1 => ?_⟩
  · unfold mX9_take mX9_take_0
    rw [zqg_75_21, Option.bind_some, zqa_91 hp, Option.bind_some, b1, zqp_75_25, Option.bind_some, zi_l0, t1 C r]
    exact s1 C r
  · rw [s2 o k (by omega), t2 o k (by omega), zJ1, if_neg (by omega)]
  · refine ⟨f27.trans h1, ?_, ?_, fun k hk => ?_, o3, o2, o4⟩
    · rw [s2 100 25 (by decide), t2 100 25 (by decide)]
      rfl
    · refine b2.trans (zrv_eq fun k hk => ?_)
      rw [s2 24 k (by decide), t5 k (Nat.zero_le k) hk, zJ1, if_neg (by omega)]
    · rw [s5 k (Nat.zero_le k) hk, t2 23 _ (by decide), zJ1, if_neg (by omega)]
      exact b3 k hk
/-- the loops of lead -/
theorem zj_lead86 (hq : q < 200) : ∀ (c fuel k : Nat) (M : zM), k + c = 16 → c < fuel → ∃ M', zHM w b (mX9_lead_86 N fuel (b + 75) (Int32.ofNat q) (Int32.ofNat k)) M id M' ∧ (∀ o j, ¬ (o = 23 ∧ 16 * q + k ≤ j ∧ j < 16 * q + 16) → M'.1 o j = M.1 o j) ∧ M'.2 = M.2 ∧ ∀ j, k ≤ j → j < 16 → M'.1 23 (16 * q + j) = M.1 26 j
  | 0, fuel, k, M, hk, hf => by
    obtain ⟨fuel, rfl⟩ : ∃ g, fuel = g + 1 := ⟨fuel - 1, by omega⟩
    refine ⟨M, fun C r => ?_, fun _ _ _ => rfl, rfl, fun j h1 h2 => by omega⟩
    unfold mX9_lead_86
    rw [if_pos (by rw [zi_l16, zi_le (by omega) (by omega)]; omega)]
    rfl
  | c + 1, fuel, k, M, hk, hf => by
    obtain ⟨fuel, rfl⟩ : ∃ g, fuel = g + 1 := ⟨fuel - 1, by omega⟩
    obtain ⟨M', t1, t2, t3, t5⟩ := zj_lead86 hq c fuel (k + 1) (zJ M 23 (16 * q + k) (M.1 26 k)) (by omega) (by omega)
    refine ⟨M', fun C r => ?_, fun o j e => (t2 o j (by omega)).trans (by rw [zJ1, if_neg (by omega)]), t3, fun j h1 h2 => ?_⟩
    · rw [← t1 C r]
      conv => lhs; unfold mX9_lead_86
      rw [if_neg (by rw [zi_l16, zi_le (by omega) (by omega)]; omega), zqg_75_23, Option.bind_some, zqg_75_26, Option.bind_some, zqa_95 (by omega), Option.bind_some, zi_l16, zi_mul, zi_add, zqs_93 (by omega), Option.bind_some, zi_l1, zi_add]
    · by_cases c : j = k
      · subst c
        rw [t2 23 _ (by omega), zJ1, if_pos ⟨rfl, rfl⟩]
      · rw [t5 j (by omega) h2, zJ1, if_neg (by omega)]
theorem zj_lead53 (hq : q < 200) {n : Nat} (hn : n ≤ 12) : ∀ (c fuel k : Nat) (M : zM), k + c = n → c < fuel → M.1 100 25 = Int32.ofNat n → ∃ M', (∀ (C : zC) (r : zv_X), mX9_lead_53 N fuel (b + 75) (Int32.ofNat q) (Int32.ofNat k) (zc w b C M r) = mX9_lead_86 N N (b + 75) (Int32.ofNat q) 0 (zc w b C M' r)) ∧ (∀ o j, ¬ (o = 22 ∧ 12 * q + k ≤ j ∧ j < 12 * q + n) → M'.1 o j = M.1 o j) ∧ M'.2 = M.2 ∧ ∀ j, k ≤ j → j < n → M'.1 22 (12 * q + j) = M.1 24 j
  | 0, fuel, k, M, hk, hf, h25 => by
    obtain ⟨fuel, rfl⟩ : ∃ g, fuel = g + 1 := ⟨fuel - 1, by omega⟩
    refine ⟨M, fun C r => ?_, fun _ _ _ => rfl, rfl, fun j h1 h2 => by omega⟩
    unfold mX9_lead_53
    rw [zqg_75_25, Option.bind_some, h25, if_pos (by rw [zi_le (by omega) (by omega)]; omega)]
  | c + 1, fuel, k, M, hk, hf, h25 => by
    obtain ⟨fuel, rfl⟩ : ∃ g, fuel = g + 1 := ⟨fuel - 1, by omega⟩
    obtain ⟨M', t1, t2, t3, t5⟩ := zj_lead53 hq hn c fuel (k + 1) (zJ M 22 (12 * q + k) (M.1 24 k)) (by omega) (by omega) h25
    refine ⟨M', fun C r => ?_, fun o j e => (t2 o j (by omega)).trans (by rw [zJ1, if_neg (by omega)]), t3, fun j h1 h2 => ?_⟩
    · rw [← t1 C r]
      conv => lhs; unfold mX9_lead_53
      rw [zqg_75_25, Option.bind_some, h25, if_neg (by rw [zi_le (by omega) (by omega)]; omega), zqg_75_22, Option.bind_some, zqg_75_24, Option.bind_some, zqa_94 (by omega), Option.bind_some, show (12 : Int32) = Int32.ofNat 12 from rfl, zi_mul, zi_add, zqs_92 (by omega), Option.bind_some, zi_l1, zi_add]
    · by_cases c : j = k
      · subst c
        rw [t2 22 _ (by omega), zJ1, if_pos ⟨rfl, rfl⟩]
      · rw [t5 j (by omega) h2, zJ1, if_neg (by omega)]
theorem zj_lead199 (hq : q < 200) : ∀ (c fuel k : Nat) (M : zM), k + c = 16 → c < fuel → ∃ M', zHM w b (mX9_lead_199 N fuel (b + 75) (Int32.ofNat q) (Int32.ofNat k)) M id M' ∧ (∀ o j, ¬ (o = 23 ∧ 16 * q + k ≤ j ∧ j < 16 * q + 16) → ¬ (o = 100 ∧ j = 28) → M'.1 o j = M.1 o j) ∧ M'.2 = M.2 ∧ (∀ j, k ≤ j → j < 16 → M'.1 23 (16 * q + j) = if M.1 23 (16 * q + j) = M.1 26 j ∨ M.1 23 (16 * q + j) = 0 then M.1 23 (16 * q + j) else 0) ∧
    (M'.1 100 28 = M.1 100 28 ∧ (∀ j, k ≤ j → j < 16 → M.1 23 (16 * q + j) = M.1 26 j ∨ M.1 23 (16 * q + j) = 0) ∨ M'.1 100 28 = 1 ∧ ∃ j, k ≤ j ∧ j < 16 ∧ M.1 23 (16 * q + j) ≠ M.1 26 j ∧ M.1 23 (16 * q + j) ≠ 0)
  | 0, fuel, k, M, hk, hf => by
    obtain ⟨fuel, rfl⟩ : ∃ g, fuel = g + 1 := ⟨fuel - 1, by omega⟩
    refine ⟨M, fun C r => ?_, fun _ _ _ _ => rfl, rfl, fun j h1 h2 => by omega, Or.inl ⟨rfl, fun j h1 h2 => by omega⟩⟩
    unfold mX9_lead_199
    rw [if_pos (by rw [zi_l16, zi_le (by omega) (by omega)]; omega)]
    rfl
  | c + 1, fuel, k, M, hk, hf => by
    obtain ⟨fuel, rfl⟩ : ∃ g, fuel = g + 1 := ⟨fuel - 1, by omega⟩
    by_cases d : M.1 23 (16 * q + k) = M.1 26 k ∨ M.1 23 (16 * q + k) = 0
    · obtain ⟨M', t1, t2, t3, t4, t5⟩ := zj_lead199 hq c fuel (k + 1) M (by omega) (by omega)
      refine ⟨M', fun C r => ?_, fun o j e1 e2 => t2 o j (by omega) e2, t3, fun j h1 h2 => ?_, ?_⟩
      · rw [← t1 C r]
        conv => lhs; unfold mX9_lead_199 mX9_lead_252
        rw [if_neg (by rw [zi_l16, zi_le (by omega) (by omega)]; omega), zqg_75_23, Option.bind_some, zi_l16, zi_mul, zi_add, zqa_93 (by omega), Option.bind_some, zqg_75_26, Option.bind_some, zqa_95 (by omega), Option.bind_some, zi_l1, zi_add]
        by_cases d1 : M.1 23 (16 * q + k) = M.1 26 k
        · rw [if_pos d1]
        · rw [if_neg d1, Option.bind_some, Option.bind_some, if_pos (by rcases d with d | d; exact absurd d d1; exact d)]
      · by_cases c : j = k
        · subst c
          rw [t2 23 _ (by omega) (by omega), if_pos d]
        · exact t4 j (by omega) h2
      · rcases t5 with ⟨e1, e2⟩ | ⟨e1, j, e2, e3⟩
        · refine Or.inl ⟨e1, fun j h1 h2 => ?_⟩
          by_cases c : j = k
          · rw [c]; exact d
          · exact e2 j (by omega) h2
        · exact Or.inr ⟨e1, j, by omega, e3⟩
    · obtain ⟨M', t1, t2, t3, t4, t5⟩ := zj_lead199 hq c fuel (k + 1) (zJ (zJ M 23 (16 * q + k) 0) 100 28 1) (by omega) (by omega)
      have d1 : M.1 23 (16 * q + k) ≠ M.1 26 k := fun h => d (Or.inl h)
      have d2 : M.1 23 (16 * q + k) ≠ 0 := fun h => d (Or.inr h)
      refine ⟨M', fun C r => ?_, fun o j e1 e2 => (t2 o j (by omega) e2).trans (by rw [zJ1, if_neg (by omega), zJ1, if_neg (by omega)]), t3, fun j h1 h2 => ?_, Or.inr ⟨?_, k, Nat.le_refl k, by omega, d1, d2⟩⟩
      · rw [← t1 C r]
        conv => lhs; unfold mX9_lead_199 mX9_lead_252
        rw [if_neg (by rw [zi_l16, zi_le (by omega) (by omega)]; omega), zqg_75_23, Option.bind_some, zi_l16, zi_mul, zi_add, zqa_93 (by omega), Option.bind_some, zqg_75_26, Option.bind_some, zqa_95 (by omega), Option.bind_some, if_neg d1, Option.bind_some, Option.bind_some, if_neg d2, Option.bind_some, zqs_93 (by omega), Option.bind_some, zqp_75_28, Option.bind_some, zi_l1, zi_add]
      · by_cases c : j = k
        · subst c
          rw [t2 23 _ (by omega) (by omega), if_neg d, zJ1, if_neg (by omega), zJ1, if_pos ⟨rfl, rfl⟩]
        · rw [t4 j (by omega) h2, zJ1, if_neg (by omega), zJ1, if_neg (by omega), zJ1, if_neg (by omega), zJ1, if_neg (by omega)]
      · rcases t5 with ⟨e1, e2⟩ | ⟨e1, e2⟩
        · exact e1
        · exact e1
theorem zj_lead147 (hq : q < 200) {n : Nat} (hn : n ≤ 12) : ∀ (c fuel k : Nat) (M : zM), k + c = n → c < fuel → M.1 100 25 = Int32.ofNat n → M.1 100 27 = 0 ∨ M.1 100 27 = 1 → ∃ g : Int32, (∀ (C : zC) (r : zv_X), mX9_lead_147 N fuel (b + 75) (Int32.ofNat q) (Int32.ofNat k) (zc w b C M r) = mX9_lead_199 N N (b + 75) (Int32.ofNat q) 0 (zc w b C (zJ M 100 27 g) r)) ∧ (g = 1 ∧ M.1 100 27 = 1 ∧ (∀ j, k ≤ j → j < n → M.1 22 (12 * q + j) = M.1 24 j) ∨ g = 0 ∧ ¬ (M.1 100 27 = 1 ∧ ∀ j, k ≤ j → j < n → M.1 22 (12 * q + j) = M.1 24 j))
  | 0, fuel, k, M, hk, hf, h25, h27 => by
    obtain ⟨fuel, rfl⟩ : ∃ g, fuel = g + 1 := ⟨fuel - 1, by omega⟩
    have ej : zJ M 100 27 (M.1 100 27) = M := Prod.ext (funext fun o => funext fun k => by
      show (if o = 100 ∧ k = 27 then M.1 100 27 else M.1 o k) = M.1 o k
      split
      · next h => rw [h.1, h.2]
      · rfl) rfl
    refine ⟨M.1 100 27, fun C r => ?_, ?_⟩
    · unfold mX9_lead_147 mX9_lead_197
      rw [zqg_75_25, Option.bind_some, h25, if_pos (by rw [zi_le (by omega) (by omega)]; omega), ej]
    · rcases h27 with h | h
      · exact Or.inr ⟨h, fun e => by rw [h] at e; exact absurd e.1 (by decide)⟩
      · exact Or.inl ⟨h, h, fun j h1 h2 => by omega⟩
  | c + 1, fuel, k, M, hk, hf, h25, h27 => by
    obtain ⟨fuel, rfl⟩ : ∃ g, fuel = g + 1 := ⟨fuel - 1, by omega⟩
    have ej : zJ M 100 27 (M.1 100 27) = M := Prod.ext (funext fun o => funext fun k => by
      show (if o = 100 ∧ k = 27 then M.1 100 27 else M.1 o k) = M.1 o k
      split
      · next h => rw [h.1, h.2]
      · rfl) rfl
    have jj : ∀ a c : Int32, zJ (zJ M 100 27 a) 100 27 c = zJ M 100 27 c := fun a c => Prod.ext (funext fun o => funext fun k => by
      show (if o = 100 ∧ k = 27 then c else if o = 100 ∧ k = 27 then a else M.1 o k) = if o = 100 ∧ k = 27 then c else M.1 o k
      split <;> rfl) rfl
    rcases h27 with h | h
    · refine ⟨0, fun C r => ?_, Or.inr ⟨rfl, fun e => by rw [h] at e; exact absurd e.1 (by decide)⟩⟩
      unfold mX9_lead_147 mX9_lead_197
      rw [zqg_75_25, Option.bind_some, h25, if_neg (by rw [zi_le (by omega) (by omega)]; omega), zqg_75_27, Option.bind_some, h, if_pos rfl]
      rw [h] at ej
      rw [ej]
    · have run : ∀ (C : zC) (r : zv_X), mX9_lead_147 N (fuel + 1) (b + 75) (Int32.ofNat q) (Int32.ofNat k) (zc w b C M r) = mX9_lead_147 N fuel (b + 75) (Int32.ofNat q) (Int32.ofNat (k + 1)) (zc w b C (zJ M 100 27 (if M.1 22 (12 * q + k) = M.1 24 k then 1 else 0)) r) := fun C r => by
        conv => lhs; unfold mX9_lead_147 mX9_lead_188
        rw [zqg_75_25, Option.bind_some, h25, if_neg (by rw [zi_le (by omega) (by omega)]; omega), zqg_75_27, Option.bind_some, h, if_neg (by decide), zqg_75_22, Option.bind_some, show (12 : Int32) = Int32.ofNat 12 from rfl, zi_mul, zi_add, zqa_92 (by omega), Option.bind_some, zqg_75_24, Option.bind_some, zqa_94 (by omega), Option.bind_some]
        by_cases d : M.1 22 (12 * q + k) = M.1 24 k
        · rw [if_pos d, if_pos d, if_pos (Or.inr rfl), zqp_75_27, Option.bind_some, zi_l1, zi_add]
        · rw [if_neg d, if_neg d, if_pos (Or.inl rfl), zqp_75_27, Option.bind_some, zi_l1, zi_add]
      by_cases d : M.1 22 (12 * q + k) = M.1 24 k
      · rw [if_pos d] at run
        obtain ⟨g, t1, t2⟩ := zj_lead147 hq hn c fuel (k + 1) (zJ M 100 27 1) (by omega) (by omega) h25 (Or.inr rfl)
        refine ⟨g, fun C r => by rw [run, t1, jj], ?_⟩
        rcases t2 with ⟨a1, a2, a3⟩ | ⟨a1, a2⟩
        · refine Or.inl ⟨a1, h, fun j h1 h2 => ?_⟩
          by_cases c : j = k
          · rw [c]; exact d
          · have := a3 j (by omega) h2
            rwa [zJ1, if_neg (by omega), zJ1, if_neg (by omega)] at this
        · refine Or.inr ⟨a1, fun e => a2 ⟨rfl, fun j h1 h2 => ?_⟩⟩
          rw [zJ1, if_neg (by omega), zJ1, if_neg (by omega)]
          exact e.2 j (by omega) h2
      · rw [if_neg d] at run
        obtain ⟨g, t1, t2⟩ := zj_lead147 hq hn c fuel (k + 1) (zJ M 100 27 0) (by omega) (by omega) h25 (Or.inl rfl)
        refine ⟨g, fun C r => by rw [run, t1, jj], ?_⟩
        rcases t2 with ⟨a1, a2, a3⟩ | ⟨a1, a2⟩
        · exact absurd a2 (by rw [zJ1, if_pos ⟨rfl, rfl⟩]; decide)
        · exact Or.inr ⟨a1, fun e => d (e.2 k (Nat.le_refl k) (by omega))⟩
end ZRL
