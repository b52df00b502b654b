/-! ===== what class and reference have in common between calls: classes of the guest, tape, handlers ===== -/
def zTy (C : zC) (M : zM) (K : Nat) (F ρ α π : Nat → Nat) : Prop :=
  C.1 1 3 = Int32.ofNat K ∧ M.1 100 5 = Int32.ofNat K ∧ 7 ≤ K ∧ K ≤ 30 ∧ M.1 2 0 = -1 ∧ α 0 = 1 ∧
  (∀ k, k < K → C.1 2 k = Int32.ofNat (α k) ∧ C.1 3 k = Int32.ofNat (F k) ∧ C.1 4 k = Int32.ofNat (ρ k) ∧ M.1 3 k = Int32.ofNat (F k) ∧ F k ≤ 8 ∧ ρ k < 2 ^ F k ∧ α k < 2 ^ (k + 1) ∧ ∀ f, f < F k → M.1 4 (8 * k + f) = Int32.ofNat (if (ρ k).testBit f then 3 else 1)) ∧
  ∀ k, 0 < k → k < K → π k < k ∧ M.1 2 k = Int32.ofNat (π k) ∧ α k = α (π k) ||| 2 ^ k
def zDr (C : zC) (M : zM) (K n : Nat) (c : Nat → Nat) (h : Nat) (hs : Nat → Nat) : Prop :=
  C.1 5 2 = Int32.ofNat n ∧ M.1 100 7 = Int32.ofNat n ∧ n ≤ 200 ∧ (∀ i, i < n → c i < 256 ∧ C.1 6 i = (Int8.ofNat (c i)).toInt32 ∧ M.1 6 i = Int32.ofNat (c i)) ∧
  C.1 5 3 = Int32.ofNat h ∧ M.1 100 9 = Int32.ofNat h ∧ h ≤ 8 ∧ (∀ i, i < 4 * h → hs i ≤ 200 ∧ C.1 7 i = Int32.ofNat (hs i) ∧ M.1 8 i = Int32.ofNat (hs i)) ∧ ∀ j, j < h → hs (4 * j + 3) < K
/-- these stores alone are seen -/
theorem zTy.cong {C C' : zC} {M M' : zM} {K : Nat} {F ρ α π : Nat → Nat} (h : zTy C M K F ρ α π) (h1 : C'.1 1 3 = C.1 1 3) (h2 : C'.1 2 = C.1 2) (h3 : C'.1 3 = C.1 3) (h4 : C'.1 4 = C.1 4) (g1 : M'.1 100 5 = M.1 100 5) (g2 : M'.1 2 = M.1 2) (g3 : M'.1 3 = M.1 3) (g4 : M'.1 4 = M.1 4) : zTy C' M' K F ρ α π := by
  unfold zTy
  rw [h1, h2, h3, h4, g1, g2, g3, g4]
  exact h
theorem zDr.cong {C C' : zC} {M M' : zM} {K n h : Nat} {c hs : Nat → Nat} (e : zDr C M K n c h hs) (h1 : C'.1 5 = C.1 5) (h2 : C'.1 6 = C.1 6) (h3 : C'.1 7 = C.1 7) (g1 : M'.1 100 7 = M.1 100 7) (g2 : M'.1 100 9 = M.1 100 9) (g3 : M'.1 6 = M.1 6) (g4 : M'.1 8 = M.1 8) : zDr C' M' K n c h hs := by
  unfold zDr
  rw [h1, h2, h3, g1, g2, g3, g4]
  exact e
section ZRE
variable {N w b K n h : Nat} {C : zC} {M : zM} {r : zv_X} {F ρ α π c hs : Nat → Nat}
/-- the reference throws -/
theorem zn_feed_x (a1 a2 a3 a4 a5 a6 v : Int32) (hv : ¬ v ≤ 0) : zHM w b (fun x => mX9_feed_36 N (b + 75) a1 a2 a3 a4 a5 a6 v (b + 75) x) M (fun x => (x, 0)) (zJ M 100 0 v) := by
  intro C r
  unfold mX9_feed_36
  simp only [zqp_75_0, zqg_75_0, Option.bind_some, zI1, zI2, zL1, zL2, zL3, zV1, zV2, zV3, zJ1, zJ2, zK1, zK2, Nat.reduceEqDiff, and_true, true_and, and_false, false_and, and_self, reduceIte]
  rw [if_neg hv]
/-- feed: class and reference -/
theorem zp_feed (hN : 30 ≤ N) (hD : zDr C M K n c h hs) (a1 a2 a3 a4 a5 a6 : Int32) :
    (∃ (C' : zC) (M' : zM) (n' : Nat) (c' : Nat → Nat), zHC w b (mX8_feed N (b + 0) a1 a2 a3 a4 a5 a6) C r (fun x => (x, .inl (Int32.ofNat n'))) C' r ∧ zHM w b (mX9_feed N (b + 75) a1 a2 a3 a4 a5 a6) M (fun x => (x, Int32.ofNat n')) M' ∧ M'.1 100 0 = 0 ∧ zDr C' M' K n' c' h hs ∧
      C'.2 = C.2 ∧ M'.2 = M.2 ∧ (∀ o k, ¬ (o = 5 ∧ k = 2) → o ≠ 6 → C'.1 o k = C.1 o k) ∧ ∀ o k, ¬ (o = 100 ∧ (k = 7 ∨ k = 0)) → o ≠ 6 → M'.1 o k = M.1 o k) ∨
    (∃ (E : String) (v : Int32), zHC w b (mX8_feed N (b + 0) a1 a2 a3 a4 a5 a6) C r (fun x => (x, .inr E)) C (zv_pad r) ∧ zHM w b (mX9_feed N (b + 75) a1 a2 a3 a4 a5 a6) M (fun x => (x, 0)) (zJ M 100 0 v) ∧ (E = "java/lang/IllegalArgumentException" ∧ v = 1 ∨ E = "java/lang/UnsupportedOperationException" ∧ v = 2)) := by
  obtain ⟨d1, d2, d3, d4, d5, d6, d7, d8, d9⟩ := hD
  by_cases c1 : a6 < (1 : Int32)
  · refine Or.inr ⟨_, 1, fun M0 => ?_, fun C0 r0 => ?_, Or.inl ⟨rfl, rfl⟩⟩
    · unfold mX8_feed mX8_feed_0
      rw [if_pos c1]; rfl
    · unfold mX9_feed mX9_feed_0
      rw [if_pos c1]
      exact zn_feed_x a1 a2 a3 a4 a5 a6 1 (by decide) C0 r0
  · by_cases c2 : a6 ≤ (20 : Int32)
    · obtain ⟨m, rfl, hm⟩ : ∃ m : Nat, a6 = Int32.ofNat m ∧ m < 2 ^ 31 := zi_of (Int32.le_trans (by decide) (zi_nlt.mp c1))
      have c1' := c1
      have c2' := c2
      rw [zi_lit, zi_lt hm (by omega)] at c1'
      rw [zi_lit, zi_le hm (by omega)] at c2'
      have c4 : (Int32.ofNat n + Int32.ofNat m ≤ (200 : Int32)) = (n + m ≤ 200) := by rw [zi_lit, zi_add, zi_le (by omega) (by omega)]
      by_cases c3 : n + m ≤ 200
      · obtain ⟨M', h1, h2, h3, h4, h5⟩ := zn_feed (N := N) (w := w) (b := b) a1 a2 a3 a4 a5 m (by omega) m 0 N n (zJ M 100 0 0) (by omega) (by omega) d2 c3
        obtain ⟨C', k1, k2, k3, k4, k5⟩ := ze_feed (N := N) (w := w) (b := b) (C := C) (r := r) a1 a2 a3 a4 a5 (m := m) (n := n) (by omega) (by omega) (by omega) d1 c3
        refine Or.inl ⟨C', M', n + m, fun i => if i < n then c i else zfb a1 a2 a3 a4 a5 (i - n), k1, fun C0 r0 => ?_, ?_, ⟨k2, h2, c3, fun i hi => ?_, ?_, ?_, d7, fun i hi => ?_, d9⟩, k3, h3, fun o k e1 e2 => k4 o k e1 (by omega), fun o k e1 e2 => ?_⟩
        · unfold mX9_feed mX9_feed_0
          rw [if_neg c1, if_pos c2, zqg_75_7, Option.bind_some, d2, if_pos (c4 ▸ c3)]
          unfold mX9_feed_36
          simp only [zqp_75_0, zqg_75_0, Option.bind_some, zI1, zI2, zL1, zL2, zL3, zV1, zV2, zV3, zJ1, zJ2, zK1, zK2, Nat.reduceEqDiff, and_true, true_and, and_false, false_and, and_self, reduceIte]
          rw [if_pos (by decide)]
          exact h1 C0 r0
        · rw [h4 100 0 (by omega) (by omega)]; rfl
        · by_cases ci : i < n
          · simp only [if_pos ci]
            refine ⟨(d4 i ci).1, ?_, ?_⟩
            · rw [k4 6 i (by omega) (by omega)]; exact (d4 i ci).2.1
            · rw [h4 6 i (by omega) (by omega)]; exact (d4 i ci).2.2
          · simp only [if_neg ci]
            refine ⟨zby_lt _, ?_, ?_⟩
            · have := k5 (i - n) (by omega)
              rwa [show n + (i - n) = i by omega] at this
            · have := h5 (i - n) (by omega)
              rwa [show n + (i - n) = i by omega, Nat.zero_add] at this
        · rw [k4 5 3 (by omega) (by omega)]; exact d5
        · rw [h4 100 9 (by omega) (by omega)]; exact d6
        · rw [k4 7 i (by omega) (by omega), h4 8 i (by omega) (by omega)]; exact d8 i hi
        · rw [h4 o k (by omega) (by omega), zJ1, if_neg (by omega)]
      · refine Or.inr ⟨_, 2, fun M0 => ?_, fun C0 r0 => ?_, Or.inr ⟨rfl, rfl⟩⟩
        · unfold mX8_feed mX8_feed_0
          rw [if_neg c1, if_pos c2, zqg_0_1, Option.bind_some, zqg_5_2, Option.bind_some, d1, if_neg (c4 ▸ c3)]
          rfl
        · unfold mX9_feed mX9_feed_0
          rw [if_neg c1, if_pos c2, zqg_75_7, Option.bind_some, d2, if_neg (c4 ▸ c3)]
          exact zn_feed_x a1 a2 a3 a4 a5 _ 2 (by decide) C0 r0
    · refine Or.inr ⟨_, 1, fun M0 => ?_, fun C0 r0 => ?_, Or.inl ⟨rfl, rfl⟩⟩
      · unfold mX8_feed mX8_feed_0
        rw [if_neg c1, if_neg c2]; rfl
      · unfold mX9_feed mX9_feed_0
        rw [if_neg c1, if_neg c2]
        exact zn_feed_x a1 a2 a3 a4 a5 a6 1 (by decide) C0 r0
end ZRE
