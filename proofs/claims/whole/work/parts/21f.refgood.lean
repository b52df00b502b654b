/-! ===== the reference's judge: all of it ===== -/
/-- what holds of the reference between looks -/
def zRd (E : zEn) (m : Nat) (μ : zMu) (M : zM) (σ : zTau) : Prop := zPm M σ ∧ zOs (uLen μ) (uSk μ) σ ∧ (∃ l, σ 0 = some ([], l) ∧ zLe l (zla μ)) ∧ ∀ τ, zgood E m μ τ → zAb σ τ
section ZRG
variable {N w b K nm p : Nat} {F ρ α π : Nat → Nat} {C0 : zC} {M M' : zM} {μs : Nat → zMu} {σ σ' : zTau}
theorem zj_clear : ∀ (c fuel k : Nat) (M : zM), k + c = 200 → c < fuel → (∀ j, j < k → M.1 20 j = 0) → ∃ M', (∀ (C : zC) (r : zv_X), mX9_isGood_2 N fuel (b + 75) (Int32.ofNat nm) (Int32.ofNat k) (zc w b C M r) = mX9_isGood_34 N N (b + 75) (Int32.ofNat nm) 0 (zc w b C (zJ (zJ M' 100 27 1) 100 25 0) r)) ∧ (∀ j, j < 200 → M'.1 20 j = 0) ∧ (∀ o j, o ≠ 20 → M'.1 o j = M.1 o j) ∧ M'.2 = M.2
  | 0, fuel, k, M, hk, hf, h => by
    obtain ⟨fuel, rfl⟩ : ∃ g, fuel = g + 1 := ⟨fuel - 1, by omega⟩
    refine ⟨M, fun C r => ?_, fun j hj => h j (by omega), fun _ _ _ => rfl, rfl⟩
    unfold mX9_isGood_2
    rw [if_pos (show (200 : Int32) ≤ Int32.ofNat k by rw [show (200 : Int32) = Int32.ofNat 200 from rfl, zi_le (by omega) (by omega)]; omega), zqp_75_27, Option.bind_some, zqp_75_25, Option.bind_some]
  | c + 1, fuel, k, M, hk, hf, h => by
    obtain ⟨fuel, rfl⟩ : ∃ g, fuel = g + 1 := ⟨fuel - 1, by omega⟩
    obtain ⟨M', t1, t2, t3, t4⟩ := zj_clear c fuel (k + 1) (zJ M 20 k 0) (by omega) (by omega) (fun j hj => by
      rw [zJ1]
      by_cases d : j = k
      · rw [if_pos ⟨rfl, d⟩]
      · rw [if_neg (fun e => d e.2)]
        exact h j (by omega))
    refine ⟨M', fun C r => ?_, t2, fun o j e => (t3 o j e).trans (by rw [zJ1, if_neg (by omega)]), t4⟩
    rw [← t1 C r]
    conv => lhs; unfold mX9_isGood_2
    rw [if_neg (show ¬ (200 : Int32) ≤ Int32.ofNat k by rw [show (200 : Int32) = Int32.ofNat 200 from rfl, zi_le (by omega) (by omega)]; omega), zqg_75_20, Option.bind_some, zqs_90 (Or.inl rfl) (by omega), Option.bind_some, zi_l1, zi_add]
theorem zj_locals : ∀ (c fuel k : Nat) (M : zM), k + c = 16 → c < fuel → zEm K F ρ α π C0 M nm μs → (∀ j, j < k → M.1 26 j = Int32.ofNat (zla (μs nm) j)) → ∃ M', (∀ (C : zC) (r : zv_X), mX9_isGood_34 N fuel (b + 75) (Int32.ofNat nm) (Int32.ofNat k) (zc w b C M r) = (mX9_lead N (b + 75) (Int32.ofNat nm) 0 (zc w b C M' r)).bind fun o1 => (zm_p o1 (b + 75) 9 28 (.int (1 : Int32))).bind fun x3 => mX9_isGood_87 N N (b + 75) (Int32.ofNat nm) x3) ∧ (∀ j, j < 16 → M'.1 26 j = Int32.ofNat (zla (μs nm) j)) ∧ (∀ o j, o ≠ 26 → M'.1 o j = M.1 o j) ∧ M'.2 = M.2
  | 0, fuel, k, M, hk, hf, hE, h => by
    obtain ⟨fuel, rfl⟩ : ∃ g, fuel = g + 1 := ⟨fuel - 1, by omega⟩
    refine ⟨M, fun C r => ?_, fun j hj => h j (by omega), fun _ _ _ => rfl, rfl⟩
    unfold mX9_isGood_34
    rw [if_pos (show (16 : Int32) ≤ Int32.ofNat k by rw [zi_l16, zi_le (by omega) (by omega)]; omega), if_pos zqk_75]
  | c + 1, fuel, k, M, hk, hf, hE, h => by
    obtain ⟨fuel, rfl⟩ : ∃ g, fuel = g + 1 := ⟨fuel - 1, by omega⟩
    have h20 := hE.2.1
    have h4 : uNa (μs nm) ≤ 4 := hE.ok.2.2.2.2.2.1
    have e12 : M.1 12 nm = Int32.ofNat (uNa (μs nm)) := hE.mt.2.2.2.2.1
    have fr : zM9 M (zJ M 26 k (Int32.ofNat (zla (μs nm) k))) := zM9.J (by omega)
    obtain ⟨M', t1, t2, t3, t4⟩ := zj_locals c fuel (k + 1) (zJ M 26 k (Int32.ofNat (zla (μs nm) k))) (by omega) (by omega) (hE.m9 fr) (fun j hj => by
      rw [zJ1]
      by_cases d : j = k
      · rw [if_pos ⟨rfl, d⟩, d]
      · rw [if_neg (fun e => d e.2)]
        exact h j (by omega))
    refine ⟨M', fun C r => ?_, t2, fun o j e => (t3 o j e).trans (by rw [zJ1, if_neg (by omega)]), t4⟩
    rw [← t1 C r]
    conv => lhs; unfold mX9_isGood_34 mX9_isGood_69
    rw [if_neg (show ¬ (16 : Int32) ≤ Int32.ofNat k by rw [zi_l16, zi_le (by omega) (by omega)]; omega), zqg_75_26, Option.bind_some, zqg_75_12, Option.bind_some, zqa_83 (by omega), Option.bind_some, e12]
    by_cases d : k < uNa (μs nm)
    · have e13 : M.1 13 (4 * nm + k) = Int32.ofNat (uKd (μs nm) k) := hE.mt.2.2.2.2.2.1 k d
      have el : zla (μs nm) k = uKd (μs nm) k := if_pos d
      rw [if_neg (show ¬ Int32.ofNat (uNa (μs nm)) ≤ Int32.ofNat k by rw [zi_le (by omega) (by omega)]; omega), zqg_75_13, Option.bind_some, zi_l4, zi_mul, zi_add, zqa_84 (by omega), Option.bind_some, e13, zqs_95 (by omega), Option.bind_some, zi_l1, zi_add, el]
    · have el : zla (μs nm) k = 0 := if_neg d
      rw [if_pos (show Int32.ofNat (uNa (μs nm)) ≤ Int32.ofNat k by rw [zi_le (by omega) (by omega)]; omega), zqs_95 (by omega), Option.bind_some, zi_l1, zi_add, el]
      rfl
/-- one pass over all places -/
theorem zj_pass (hN : 17 ≤ N) (K87 : Nat → Int32 → zv_X → Option (zv_X × Int32)) (W : Nat) : ∀ (c j fuel : Nat) (M : zM) (σ : zTau), j + c = uLen (μs nm) → c < fuel → zEm K F ρ α π C0 M nm μs → zRd (K, F, ρ, μs) nm (μs nm) M σ → M.1 100 27 = 1 → (M.1 100 28 = 0 ∧ zwt σ ≤ W ∧ (∀ p st l, p < j → σ p = some (st, l) → zloc (K, F, ρ, μs) nm (μs nm) σ p st l) ∨ M.1 100 28 = 1 ∧ zwt σ < W) →
    ∃ M', (∀ (C : zC) (r : zv_X), mX9_isGood_108 K87 N fuel (b + 75) (Int32.ofNat nm) (Int32.ofNat j) (zc w b C M r) = K87 (b + 75) (Int32.ofNat nm) (zc w b C M' r)) ∧ zMx M M' ∧ ((M'.1 100 27 = 0 ∧ ∀ τ, ¬ zgood (K, F, ρ, μs) nm (μs nm) τ) ∨ M'.1 100 27 = 1 ∧ ∃ σ', zRd (K, F, ρ, μs) nm (μs nm) M' σ' ∧ (M'.1 100 28 = 0 ∧ zwt σ' ≤ W ∧ (∀ p st l, σ' p = some (st, l) → zloc (K, F, ρ, μs) nm (μs nm) σ' p st l) ∨ M'.1 100 28 = 1 ∧ zwt σ' < W))
  | 0, j, fuel, M, σ, hj, hf, hE, hR, h1, hm => by
    obtain ⟨fuel, rfl⟩ : ∃ g, fuel = g + 1 := ⟨fuel - 1, by omega⟩
    have h20 := hE.2.1
    have hn : uLen (μs nm) ≤ 200 := hE.ok.1
    have e18 : M.1 18 nm = Int32.ofNat (uLen (μs nm)) := hE.mt.1
    refine ⟨M, fun C r => ?_, zMx.rf, Or.inr ⟨h1, σ, hR, ?_⟩⟩
    · unfold mX9_isGood_108 mX9_isGood_146
      rw [zqg_75_18, Option.bind_some, zqa_89 (by omega), Option.bind_some, e18, if_pos (show Int32.ofNat (uLen (μs nm)) ≤ Int32.ofNat j by rw [zi_le (by omega) (by omega)]; omega)]
    · rcases hm with ⟨a1, a2, a3⟩ | a
      · exact Or.inl ⟨a1, a2, fun p st l e => a3 p st l (by have := (hR.2.1 p st l e).1; omega) e⟩
      · exact Or.inr a
  | c + 1, j, fuel, M, σ, hj, hf, hE, hR, h1, hm => by
    obtain ⟨fuel, rfl⟩ : ∃ g, fuel = g + 1 := ⟨fuel - 1, by omega⟩
    have h20 := hE.2.1
    have hn : uLen (μs nm) ≤ 200 := hE.ok.1
    have e18 : M.1 18 nm = Int32.ofNat (uLen (μs nm)) := hE.mt.1
    have e20 := (hR.1 j (by omega)).1
    cases e : σ j with
    | none =>
      rw [e] at e20
      obtain ⟨M', t1, t2, t3⟩ := zj_pass hN K87 W c (j + 1) fuel M σ (by omega) (by omega) hE hR h1 (by
        rcases hm with ⟨a1, a2, a3⟩ | a
        · refine Or.inl ⟨a1, a2, fun p st l hp ep => ?_⟩
          by_cases d : p = j
          · rw [d, e] at ep; cases ep
          · exact a3 p st l (by omega) ep
        · exact Or.inr a)
      refine ⟨M', fun C r => ?_, t2, t3⟩
      rw [← t1 C r]
      conv => lhs; unfold mX9_isGood_108 mX9_isGood_140
      rw [zqg_75_18, Option.bind_some, zqa_89 (by omega), Option.bind_some, e18, if_neg (show ¬ Int32.ofNat (uLen (μs nm)) ≤ Int32.ofNat j by rw [zi_le (by omega) (by omega)]; omega), zqg_75_27, Option.bind_some, h1, if_neg (show ¬ (1 : Int32) = 0 by decide), zqg_75_20, Option.bind_some, zqa_90 (by omega), Option.bind_some, e20, if_pos (by decide), zi_l1, zi_add]
    | some v =>
      obtain ⟨st, l⟩ := v
      rw [e] at e20
      replace e20 : M.1 20 j = 1 := e20
      obtain ⟨M1, s1, s2, s3⟩ := zj_judge (N := N) (w := w) (b := b) hN hE hR.1 hR.2.1 e h1
      have step : ∀ (C : zC) (r : zv_X), mX9_isGood_108 K87 N (fuel + 1) (b + 75) (Int32.ofNat nm) (Int32.ofNat j) (zc w b C M r) = mX9_isGood_108 K87 N fuel (b + 75) (Int32.ofNat nm) (Int32.ofNat (j + 1)) (zc w b C M1 r) := fun C r => by
        conv => lhs; unfold mX9_isGood_108 mX9_isGood_140
        rw [zqg_75_18, Option.bind_some, zqa_89 (by omega), Option.bind_some, e18, if_neg (show ¬ Int32.ofNat (uLen (μs nm)) ≤ Int32.ofNat j by rw [zi_le (by omega) (by omega)]; omega), zqg_75_27, Option.bind_some, h1, if_neg (show ¬ (1 : Int32) = 0 by decide), zqg_75_20, Option.bind_some, zqa_90 (by omega), Option.bind_some, e20, if_neg (by decide), if_pos zqk_75, s1 C r, Option.bind_some, zi_l1, zi_add]
      cases ez : zlook (K, F, ρ, μs) nm (μs nm) j st l σ with
      | none =>
        rw [ez] at s3
        have r0 : M1.1 100 27 = 0 := s3
        refine ⟨M1, fun C r => ?_, s2, Or.inl ⟨r0, fun τ hg => ?_⟩⟩
        · rw [step C r]
          obtain ⟨fuel, rfl⟩ : ∃ g, fuel = g + 1 := ⟨fuel - 1, by omega⟩
          unfold mX9_isGood_108 mX9_isGood_146
          rw [zqg_75_18, Option.bind_some, zqa_89 (by omega), Option.bind_some, zqg_75_27, Option.bind_some, r0, if_pos rfl, ite_self]
        · obtain ⟨σ2, d1, d2⟩ := zlook_to hE.ok e (hR.2.2.2 τ hg) hg
          rw [ez] at d1
          cases d1
      | some σ2 =>
        rw [ez] at s3
        obtain ⟨q1, q2, q3⟩ := s3
        have hR3 : ∀ a, a ≤ nm → uRs (μs a) ≤ 3 := fun a ha => (hE.2.2.2 a ha).2.2.2.2.2.2.2.2.2.2.2
        obtain ⟨k1, k2, k3, k4⟩ := zlook_ok (E := (K, F, ρ, μs)) hE.ok hR3 hR.2.1 e ez
        have R2 : zRd (K, F, ρ, μs) nm (μs nm) M1 σ2 := by
          refine ⟨q2, k2, ?_, fun τ hg => ?_⟩
          · obtain ⟨l1, a1, a2⟩ := hR.2.2.1
            obtain ⟨l2, b1, b2⟩ := k1 0 [] l1 a1
            exact ⟨l2, b1, b2.tr a2⟩
          · obtain ⟨σ3, d1, d2⟩ := zlook_to hE.ok e (hR.2.2.2 τ hg) hg
            rw [ez] at d1
            injection d1 with d1
            rw [d1]
            exact d2
        obtain ⟨M', t1, t2, t3⟩ := zj_pass hN K87 W c (j + 1) fuel M1 σ2 (by omega) (by omega) (hE.mx s2) R2 q1 (by
          rcases q3 with ⟨c1, c2⟩ | ⟨c1, c2⟩
          · subst c1
            rcases hm with ⟨a1, a2, a3⟩ | ⟨a1, a2⟩
            · refine Or.inl ⟨c2.trans a1, a2, fun p st' l' hp ep => ?_⟩
              by_cases d : p = j
              · subst d
                rw [e] at ep
                injection ep with ep
                injection ep with e1 e2
                subst e1; subst e2
                exact k4
              · exact a3 p st' l' (by omega) ep
            · exact Or.inr ⟨c2.trans a1, a2⟩
          · refine Or.inr ⟨c1, ?_⟩
            rcases hm with ⟨a1, a2, a3⟩ | ⟨a1, a2⟩ <;> omega)
        exact ⟨M', fun C r => (step C r).trans (t1 C r), s2.tr t2, t3⟩
theorem zj_round0 (hN : 201 < N) (hl : 0 < uLen (μs nm)) (W : Nat) (ih : ∀ (fuel : Nat) (M : zM) (σ : zTau), W < fuel → zEm K F ρ α π C0 M nm μs → zRd (K, F, ρ, μs) nm (μs nm) M σ → M.1 100 27 = 1 → M.1 100 28 = 1 → zwt σ < W →
    ∃ M' g, (∀ (C : zC) (r : zv_X), mX9_isGood_87 N fuel (b + 75) (Int32.ofNat nm) (zc w b C M r) = some (zc w b C M' r, g)) ∧ zMx M M' ∧ (g = 1 ∧ (∃ τ, zgood (K, F, ρ, μs) nm (μs nm) τ) ∨ g = 0 ∧ ∀ τ, ¬ zgood (K, F, ρ, μs) nm (μs nm) τ)) (fuel : Nat) (M : zM) (σ : zTau) (hf : W + 1 < fuel) (hE : zEm K F ρ α π C0 M nm μs) (hR : zRd (K, F, ρ, μs) nm (μs nm) M σ) (h1 : M.1 100 27 = 1) (h2 : M.1 100 28 = 1) (hw : zwt σ ≤ W) :
    ∃ M' g, (∀ (C : zC) (r : zv_X), mX9_isGood_87 N fuel (b + 75) (Int32.ofNat nm) (zc w b C M r) = some (zc w b C M' r, g)) ∧ zMx M M' ∧ (g = 1 ∧ (∃ τ, zgood (K, F, ρ, μs) nm (μs nm) τ) ∨ g = 0 ∧ ∀ τ, ¬ zgood (K, F, ρ, μs) nm (μs nm) τ) := by
  obtain ⟨fuel, rfl⟩ : ∃ g, fuel = g + 1 := ⟨fuel - 1, by omega⟩
  have hn : uLen (μs nm) ≤ 200 := hE.ok.1
  have x1 : zMx M (zJ M 100 28 0) := (zMl.J (by omega)).mx
  obtain ⟨M1, t1, t2, t3⟩ := zj_pass (N := N) (w := w) (b := b) (by omega) (mX9_isGood_87 N fuel) W (uLen (μs nm)) 0 N (zJ M 100 28 0) σ (by omega) (by omega) (hE.mx x1) ⟨hR.1.cong fun o k g1 g2 => by rw [zJ1, if_neg (by omega)], hR.2⟩ h1 (Or.inl ⟨rfl, hw, fun p st l hp => by omega⟩)
  have head : ∀ (C : zC) (r : zv_X), mX9_isGood_87 N (fuel + 1) (b + 75) (Int32.ofNat nm) (zc w b C M r) = mX9_isGood_87 N fuel (b + 75) (Int32.ofNat nm) (zc w b C M1 r) := fun C r => by
    rw [← t1 C r]
    conv => lhs; unfold mX9_isGood_87
    rw [zqg_75_28, Option.bind_some, h2, if_neg (show ¬ (1 : Int32) = 0 by decide), zqg_75_27, Option.bind_some, h1, if_neg (show ¬ (1 : Int32) = 0 by decide), zqp_75_28, Option.bind_some, zi_l0]
  rcases t3 with ⟨a1, a2⟩ | ⟨a1, σ', R', a3⟩
  · refine ⟨M1, 0, fun C r => ?_, x1.tr t2, Or.inr ⟨rfl, a2⟩⟩
    obtain ⟨fuel, rfl⟩ : ∃ g, fuel = g + 1 := ⟨fuel - 1, by omega⟩
    rw [head C r]
    unfold mX9_isGood_87 mX9_isGood_149
    rw [zqg_75_28, Option.bind_some, zqg_75_27, Option.bind_some, Option.bind_some, a1, if_pos rfl, if_pos (Or.inl rfl), ite_self]
  · rcases a3 with ⟨b1, b2, b3⟩ | ⟨b1, b2⟩
    · refine ⟨M1, 1, fun C r => ?_, x1.tr t2, Or.inl ⟨rfl, σ', ?_⟩⟩
      · obtain ⟨fuel, rfl⟩ : ∃ g, fuel = g + 1 := ⟨fuel - 1, by omega⟩
        rw [head C r]
        unfold mX9_isGood_87 mX9_isGood_149
        rw [zqg_75_28, Option.bind_some, b1, if_pos rfl, zqg_75_27, Option.bind_some, a1, if_pos (Or.inr rfl)]
      · exact zLv.good (wt := fun _ => false) ⟨R'.2.2.1, fun p st l e => Or.inr (b3 p st l e), R'.2.2.2⟩ hl fun _ => rfl
    · obtain ⟨M2, g, s1, s2, s3⟩ := ih fuel M1 σ' (by omega) ((hE.mx x1).mx t2) R' a1 b1 b2
      exact ⟨M2, g, fun C r => (head C r).trans (s1 C r), (x1.tr t2).tr s2, s3⟩
/-- passes until nothing moves -/
theorem zj_rounds (hN : 201 < N) (hl : 0 < uLen (μs nm)) : ∀ (W fuel : Nat) (M : zM) (σ : zTau), W + 1 < fuel → zEm K F ρ α π C0 M nm μs → zRd (K, F, ρ, μs) nm (μs nm) M σ → M.1 100 27 = 1 → M.1 100 28 = 1 → zwt σ ≤ W →
    ∃ M' g, (∀ (C : zC) (r : zv_X), mX9_isGood_87 N fuel (b + 75) (Int32.ofNat nm) (zc w b C M r) = some (zc w b C M' r, g)) ∧ zMx M M' ∧ (g = 1 ∧ (∃ τ, zgood (K, F, ρ, μs) nm (μs nm) τ) ∨ g = 0 ∧ ∀ τ, ¬ zgood (K, F, ρ, μs) nm (μs nm) τ) := by
  intro W
  induction W with
  | zero =>
    intro fuel M σ hf hE hR h1 h2 hw
    exact zj_round0 hN hl 0 (fun fuel M σ hf hE hR h1 h2 hw => absurd hw (Nat.not_lt_zero _)) fuel M σ hf hE hR h1 h2 hw
  | succ W ih =>
    intro fuel M σ hf hE hR h1 h2 hw
    exact zj_round0 hN hl (W + 1) (fun fuel M σ hf hE hR h1 h2 hw => ih fuel M σ hf hE hR h1 h2 (by omega)) fuel M σ hf hE hR h1 h2 hw
/-- isGood: good just where the kinds can hold together -/
theorem zj_good (hE : zEm K F ρ α π C0 M nm μs) (hN : 3403 ≤ N) : ∃ (M' : zM) (g : Int32), (∀ (C : zC) (r : zv_X), mX9_isGood N (b + 75) (Int32.ofNat nm) (zc w b C M r) = some (zc w b C M' r, g)) ∧ zMx M M' ∧ (g = 1 ∧ (∃ τ, zgood (K, F, ρ, μs) nm (μs nm) τ) ∨ g = 0 ∧ ∀ τ, ¬ zgood (K, F, ρ, μs) nm (μs nm) τ) := by
  obtain ⟨M1, c1, c2, c3, c4⟩ := zj_clear (N := N) (w := w) (b := b) (nm := nm) 200 N 0 M (by omega) (by omega) (fun j hj => by omega)
  have x1 : zMx M (zJ (zJ M1 100 27 1) 100 25 0) := ⟨fun o k e => by rw [zJ1, if_neg (by omega), zJ1, if_neg (by omega), c3 o k (by omega)], c4⟩
  obtain ⟨M2, d1, d2, d3, d4⟩ := zj_locals (N := N) (w := w) (b := b) 16 N 0 (zJ (zJ M1 100 27 1) 100 25 0) (by omega) (by omega) (hE.mx x1) (fun j hj => by omega)
  have x2 : zMx M M2 := x1.tr ⟨fun o k e => d3 o k (by omega), d4⟩
  have hn0 : zNm (uSk (μs nm)) M2 (some ([], zla (μs nm))) := ⟨(d3 100 27 (by decide)).trans rfl, (d3 100 25 (by decide)).trans rfl, rfl, d2, zkS.nil, Nat.zero_le _, zl0_k hE.ok⟩
  have hP0 : zPm M2 (fun _ => none) := fun p hp => by
    refine ⟨?_, fun st l e => by cases e⟩
    rw [d3 20 p (by decide), zJ1, if_neg (by omega), zJ1, if_neg (by omega)]
    exact c2 p hp
  have hO0 : zOs (uLen (μs nm)) (uSk (μs nm)) (fun _ => none) := fun p st l e => by cases e
  obtain ⟨M3, t1, t2, t3, _⟩ := zj_lead (N := N) (w := w) (b := b) (q := ((0 : Nat) : Int)) (by omega) (hE.mx x2) hP0 hO0 hn0 (by omega) (by omega)
  have t1' : ∀ (C : zC) (r : zv_X), mX9_lead N (b + 75) (Int32.ofNat nm) 0 (zc w b C M2 r) = some (zc w b C M3 r) := t1
  have head : ∀ (C : zC) (r : zv_X), mX9_isGood N (b + 75) (Int32.ofNat nm) (zc w b C M r) = mX9_isGood_87 N N (b + 75) (Int32.ofNat nm) (zc w b C (zJ M3 100 28 1) r) := fun C r => by
    unfold mX9_isGood mX9_isGood_0
    refine (c1 C r).trans ((d1 C r).trans ?_)
    rw [t1' C r, Option.bind_some, zqp_75_28, Option.bind_some]
  have x4 : zMx M (zJ M3 100 28 1) := (x2.tr t2.mx).tr (zMl.J (by omega)).mx
  by_cases hl : 0 < uLen (μs nm)
  · have e1 : zlead (uLen (μs nm)) ((0 : Nat) : Int) [] (zla (μs nm)) (fun _ => none) = some (zpu (fun _ => none) 0 ([], zla (μs nm))) := by
      unfold zlead
      rw [if_pos (by omega)]
      rfl
    rw [e1] at t3
    obtain ⟨a1, a2, a3⟩ := t3
    have w0 : zwt (fun _ => none) = 3400 := by
      have : zs (fun _ => 17) 200 = 17 * 200 := by
        have := zs_mul (f := fun _ => 1) 17 200
        rw [zs_one] at this
        exact this
      exact this
    have w1 : zwt (zpu (fun _ => none) 0 ([], zla (μs nm))) ≤ 3400 := by
      rcases a3 with ⟨b1, _⟩ | ⟨_, b2⟩
      · rw [b1, w0]; exact Nat.le_refl _
      · omega
    have k2 := zlead_os e1 hO0 (Nat.zero_le (uSk (μs nm))) zkS.nil (zl0_k hE.ok)
    have R4 : zRd (K, F, ρ, μs) nm (μs nm) (zJ M3 100 28 1) (zpu (fun _ => none) 0 ([], zla (μs nm))) := by
      refine ⟨a2.cong fun o k g1 g2 => by rw [zJ1, if_neg (by omega)], k2, ⟨zla (μs nm), zpu_at, zLe.rf⟩, fun τ hg p st l e => ?_⟩
      by_cases c : p = 0
      · subst c
        rw [zpu_at] at e
        injection e with e
        injection e with e2 e3
        subst e2; subst e3
        obtain ⟨l1, b1, b2⟩ := hg.1
        refine ⟨l1, b1, fun k hk => ?_⟩
        rcases b2 k hk with d | ⟨d1, d2⟩
        · exact Or.inl d
        · right
          show l1 k = if k < uNa (μs nm) then uKd (μs nm) k else 0
          rw [if_pos d1]
          exact d2
      · rw [zpu_ne c] at e
        cases e
    obtain ⟨M5, g, s1, s2, s3⟩ := zj_rounds (N := N) (w := w) (b := b) (by omega) hl 3400 N (zJ M3 100 28 1) _ (by omega) (hE.mx x4) R4 a1 rfl w1
    exact ⟨M5, g, fun C r => (head C r).trans (s1 C r), x4.tr s2, s3⟩
  · have e1 : zlead (uLen (μs nm)) ((0 : Nat) : Int) [] (zla (μs nm)) (fun _ => none) = none := by
      unfold zlead
      rw [if_neg (by omega)]
    rw [e1] at t3
    have t3' : (zJ M3 100 28 1).1 100 27 = 0 := t3
    refine ⟨zJ M3 100 28 1, 0, fun C r => ?_, x4, Or.inr ⟨rfl, fun τ hg => hl hg.2.1⟩⟩
    obtain ⟨g, rfl⟩ : ∃ g, N = g + 1 := ⟨N - 1, by omega⟩
    rw [head C r]
    unfold mX9_isGood_87 mX9_isGood_149
    rw [zqg_75_28, Option.bind_some, show (zJ M3 100 28 1).1 100 28 = 1 from rfl, if_neg (by decide), zqg_75_27, Option.bind_some, t3', if_pos rfl, Option.bind_some, if_pos (Or.inl rfl)]
end ZRG
