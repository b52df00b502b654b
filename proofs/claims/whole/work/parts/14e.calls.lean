/-! ===== handler, type, count, result, steps: class and reference ===== -/
def zRs (C : zC) (M : zM) : Prop := C.2.1 15 8 = M.2 100 50 ∧ C.1 15 9 = M.1 100 51 ∧ C.1 15 10 = M.1 100 52 ∧ C.1 15 11 = M.1 100 53
section ZCA
variable {N w b K n h : Nat} {C : zC} {M : zM} {r : zv_X} {F ρ α π c hs : Nat → Nat}
theorem zp_result (hR : zRs C M) : zHC w b (mX8_result N (b + 0)) C r (fun x => (x, C.2.1 15 8)) C r ∧ zHM w b (mX9_result N (b + 75)) M (fun x => (x, C.2.1 15 8)) (zJ M 100 0 0) := by
  refine ⟨fun M0 => ?_, fun C0 r0 => ?_⟩
  · unfold mX8_result mX8_result_0
    simp only [zqg_0_4, zqg_15_8, Option.bind_some]
  · unfold mX9_result mX9_result_0
    simp only [zqp_75_0, zqg_75_50, Option.bind_some, hR.1, zJ2]
theorem zp_steps (hR : zRs C M) : zHC w b (mX8_steps N (b + 0)) C r (fun x => (x, C.1 15 9)) C r ∧ zHM w b (mX9_steps N (b + 75)) M (fun x => (x, C.1 15 9)) (zJ M 100 0 0) := by
  refine ⟨fun M0 => ?_, fun C0 r0 => ?_⟩
  · unfold mX8_steps mX8_steps_0
    simp only [zqg_0_4, zqg_15_9, Option.bind_some]
  · unfold mX9_steps mX9_steps_0
    simp only [zqp_75_0, zqg_75_51, Option.bind_some, hR.2.1, zI1, zI2, zL1, zL2, zL3, zV1, zV2, zV3, zJ1, zJ2, zK1, zK2, Nat.reduceEqDiff, and_true, true_and, and_false, false_and, and_self, reduceIte]
theorem zp_count (hR : zRs C M) (h1 : C.1 1 3 = M.1 100 5) (h2 : C.1 8 2 = M.1 100 19) (h3 : C.1 5 2 = M.1 100 7) (a : Int32) :
    (∃ v, zHC w b (mX8_count N (b + 0) a) C r (fun x => (x, .inl v)) C r ∧ zHM w b (mX9_count N (b + 75) a) M (fun x => (x, v)) (zJ M 100 0 0)) ∨
    (zHC w b (mX8_count N (b + 0) a) C r (fun x => (x, .inr "java/lang/IndexOutOfBoundsException")) C (zv_pad r) ∧ zHM w b (mX9_count N (b + 75) a) M (fun x => (x, 0)) (zJ M 100 0 1)) := by
  by_cases c : a < 0 ∨ (4 : Int32) < a
  · refine Or.inr ⟨fun M0 => ?_, fun C0 r0 => ?_⟩
    · unfold mX8_count mX8_count_0
      have g : ∀ k : Int32, 0 ≤ k → k ≤ 4 → a ≠ k := fun k k1 k2 e => by
        subst e
        rcases c with c | c
        · exact absurd k1 (Int32.not_le.mpr c)
        · exact absurd k2 (Int32.not_le.mpr c)
      rw [if_neg (g 0 (by decide) (by decide)), if_neg (g 1 (by decide) (by decide)), if_neg (g 2 (by decide) (by decide)), if_neg (g 3 (by decide) (by decide)), if_neg (g 4 (by decide) (by decide))]
      rfl
    · have key : mX9_count N (b + 75) a (zc w b C0 M r0) = mX9_count_15 N (b + 75) a 1 (b + 75) (zc w b C0 M r0) := by
        unfold mX9_count mX9_count_0 mX9_count_10
        by_cases c1 : a < 0
        · rw [if_pos c1]
        · rw [if_neg c1, if_neg (Int32.not_le.mpr (c.resolve_left c1))]
      rw [key]
      unfold mX9_count_15
      simp only [zqp_75_0, zqg_75_0, Option.bind_some, zI1, zI2, zL1, zL2, zL3, zV1, zV2, zV3, zJ1, zJ2, zK1, zK2, Nat.reduceEqDiff, and_true, true_and, and_false, false_and, and_self, reduceIte]
      rw [if_neg (by decide)]
  · obtain ⟨m, rfl, hm⟩ := zi_between (v := a) (k := 4) (by decide) (fun e => c (Or.inl e)) (fun e => c (Or.inr e))
    have c1 : ¬ Int32.ofNat m < 0 := fun e => c (Or.inl e)
    have c2 : Int32.ofNat m ≤ (4 : Int32) := zi_nlt.mp fun e => c (Or.inr e)
    have key : ∀ C0 r0, mX9_count N (b + 75) (Int32.ofNat m) (zc w b C0 M r0) = mX9_count_15 N (b + 75) (Int32.ofNat m) 0 (b + 75) (zc w b C0 M r0) := fun C0 r0 => by
      unfold mX9_count mX9_count_0
      rw [if_neg c1, if_pos c2]
    have hs5 : m = 0 ∨ m = 1 ∨ m = 2 ∨ m = 3 ∨ m = 4 := by omega
    left
    rcases hs5 with rfl | rfl | rfl | rfl | rfl
    · refine ⟨C.1 1 3, fun M0 => ?_, fun C0 r0 => ?_⟩
      · unfold mX8_count mX8_count_0
        rw [if_pos (by decide), zqg_0_0, Option.bind_some, zqg_1_3, Option.bind_some]
      · rw [key]; unfold mX9_count_15
        simp only [zqp_75_0, zqg_75_0, zqg_75_5, Option.bind_some, zI1, zI2, zL1, zL2, zL3, zV1, zV2, zV3, zJ1, zJ2, zK1, zK2, Nat.reduceEqDiff, and_true, true_and, and_false, false_and, and_self, reduceIte]
        rw [if_pos (by decide), if_pos (by decide), h1]; rfl
    · refine ⟨C.1 8 2, fun M0 => ?_, fun C0 r0 => ?_⟩
      · unfold mX8_count mX8_count_0
        rw [if_neg (by decide), if_pos (by decide), zqg_0_2, Option.bind_some, if_pos zqk_8]
        unfold mJx4a65c_size_8abf5 mJx4a65c_size_8abf5_0
        simp only [zqg_8_2, Option.bind_some]
      · rw [key]; unfold mX9_count_15
        simp only [zqp_75_0, zqg_75_0, zqg_75_19, Option.bind_some, zI1, zI2, zL1, zL2, zL3, zV1, zV2, zV3, zJ1, zJ2, zK1, zK2, Nat.reduceEqDiff, and_true, true_and, and_false, false_and, and_self, reduceIte]
        rw [if_pos (by decide), if_neg (by decide), if_pos (by decide), h2]; rfl
    · refine ⟨C.1 5 2, fun M0 => ?_, fun C0 r0 => ?_⟩
      · unfold mX8_count mX8_count_0
        rw [if_neg (by decide), if_neg (by decide), if_pos (by decide), zqg_0_1, Option.bind_some, zqg_5_2, Option.bind_some]
      · rw [key]; unfold mX9_count_15
        simp only [zqp_75_0, zqg_75_0, zqg_75_7, Option.bind_some, zI1, zI2, zL1, zL2, zL3, zV1, zV2, zV3, zJ1, zJ2, zK1, zK2, Nat.reduceEqDiff, and_true, true_and, and_false, false_and, and_self, reduceIte]
        rw [if_pos (by decide), if_neg (by decide), if_neg (by decide), if_pos (by decide), h3]; rfl
    · refine ⟨C.1 15 10, fun M0 => ?_, fun C0 r0 => ?_⟩
      · unfold mX8_count mX8_count_0
        rw [if_neg (by decide), if_neg (by decide), if_neg (by decide), if_pos (by decide), zqg_0_4, Option.bind_some, zqg_15_10, Option.bind_some]
      · rw [key]; unfold mX9_count_15
        simp only [zqp_75_0, zqg_75_0, zqg_75_52, Option.bind_some, zI1, zI2, zL1, zL2, zL3, zV1, zV2, zV3, zJ1, zJ2, zK1, zK2, Nat.reduceEqDiff, and_true, true_and, and_false, false_and, and_self, reduceIte]
        rw [if_pos (by decide), if_neg (by decide), if_neg (by decide), if_neg (by decide), if_pos (by decide), hR.2.2.1]; rfl
    · refine ⟨C.1 15 11, fun M0 => ?_, fun C0 r0 => ?_⟩
      · unfold mX8_count mX8_count_0
        rw [if_neg (by decide), if_neg (by decide), if_neg (by decide), if_neg (by decide), if_pos (by decide), zqg_0_4, Option.bind_some, zqg_15_11, Option.bind_some]
      · rw [key]; unfold mX9_count_15
        simp only [zqp_75_0, zqg_75_0, zqg_75_53, Option.bind_some, zI1, zI2, zL1, zL2, zL3, zV1, zV2, zV3, zJ1, zJ2, zK1, zK2, Nat.reduceEqDiff, and_true, true_and, and_false, false_and, and_self, reduceIte]
        rw [if_pos (by decide), if_neg (by decide), if_neg (by decide), if_neg (by decide), if_neg (by decide), hR.2.2.2]; rfl
/-- Types.has -/
theorem ze_has (hK : C.1 1 3 = Int32.ofNat K) (a : Int32) : zHC w b (mX7_has N (b + 1) a) C r (fun x => (x, if ¬ a < 0 ∧ a < Int32.ofNat K then 1 else 0)) C r := by
  intro M0
  unfold mX7_has mX7_has_0 mX7_has_16 mX7_has_17
  by_cases c1 : a < 0
  · rw [if_pos c1, if_pos (Or.inl rfl), if_neg (fun e => e.1 c1)]
  · rw [if_neg c1, zqg_1_3, Option.bind_some, hK]
    by_cases c2 : a < Int32.ofNat K
    · rw [if_neg (Int32.not_le.mpr c2), if_pos (Or.inr rfl), if_pos ⟨c1, c2⟩]
    · rw [if_pos (zi_nlt.mp c2), if_pos (Or.inl rfl), if_neg (fun e => c2 e.2)]
/-- the reference throws -/
theorem zn_handler_x (a1 a2 a3 a4 v : Int32) (hv : ¬ v ≤ 0) : zHM w b (fun x => mX9_handler_79 N (b + 75) a1 a2 a3 a4 v (b + 75) x) M (fun x => (x, 0)) (zJ M 100 0 v) := by
  intro C r
  unfold mX9_handler_79
  simp only [zqp_75_0, zqg_75_0, Option.bind_some, zI1, zI2, zL1, zL2, zL3, zV1, zV2, zV3, zJ1, zJ2, zK1, zK2, Nat.reduceEqDiff, and_true, true_and, and_false, false_and, and_self, reduceIte]
  rw [if_neg hv]
theorem zp_handler (hK : K ≤ 30) (hD : zDr C M K n c h hs) (hC : C.1 1 3 = Int32.ofNat K) (hM : M.1 100 5 = Int32.ofNat K) (a1 a2 a3 a4 : Int32) :
    (∃ (C' : zC) (M' : zM) (hs' : Nat → Nat), zHC w b (mX8_handler N (b + 0) a1 a2 a3 a4) C r (fun x => (x, .inl (Int32.ofNat (h + 1)))) C' r ∧ zHM w b (mX9_handler N (b + 75) a1 a2 a3 a4) M (fun x => (x, Int32.ofNat (h + 1))) M' ∧ M'.1 100 0 = 0 ∧ zDr C' M' K n c (h + 1) hs' ∧
      C'.2 = C.2 ∧ M'.2 = M.2 ∧ (∀ o k, ¬ (o = 5 ∧ k = 3) → o ≠ 7 → C'.1 o k = C.1 o k) ∧ ∀ o k, ¬ (o = 100 ∧ (k = 9 ∨ k = 0)) → o ≠ 8 → M'.1 o k = M.1 o k) ∨
    (∃ (E : String) (v : Int32), zHC w b (mX8_handler N (b + 0) a1 a2 a3 a4) C r (fun x => (x, .inr E)) C (zv_pad r) ∧ zHM w b (mX9_handler N (b + 75) a1 a2 a3 a4) M (fun x => (x, 0)) (zJ M 100 0 v) ∧ (E = "java/lang/IllegalArgumentException" ∧ v = 1 ∨ E = "java/lang/UnsupportedOperationException" ∧ v = 2)) := by
  obtain ⟨d1, d2, d3, d4, d5, d6, d7, d8, d9⟩ := hD
  by_cases fit : ¬ a1 < 0 ∧ ¬ a2 ≤ a1 ∧ a2 ≤ (200 : Int32) ∧ ¬ a3 < 0 ∧ a3 ≤ (200 : Int32) ∧ ¬ a4 < 0 ∧ a4 < Int32.ofNat K
  · obtain ⟨f1, f2, f3, f4, f5, f6, f7⟩ := fit
    have fA : ¬ (200 : Int32) < a1 := fun e => f2 (Int32.le_trans f3 (Int32.le_of_lt e))
    obtain ⟨n1, rfl, g1⟩ := zi_of (zi_nlt.mp f1)
    obtain ⟨n3, rfl, g3⟩ := zi_of (zi_nlt.mp f4)
    obtain ⟨n4, rfl, g4⟩ := zi_of (zi_nlt.mp f6)
    obtain ⟨n2, rfl, g2⟩ : ∃ m : Nat, a2 = Int32.ofNat m ∧ m < 2 ^ 31 := zi_of (Int32.le_trans (zi_nlt.mp f1) (Int32.le_of_lt (Int32.not_le.mp f2)))
    have p3 := f3
    have p5 := f5
    have p7 := f7
    have pA := fA
    rw [zi_lit, zi_le (by omega) (by omega)] at p3 p5
    rw [zi_lt (by omega) (by omega)] at p7
    rw [zi_lit, zi_lt (by omega) (by omega)] at pA
    have keyC : ∀ M0, mX8_handler N (b + 0) (Int32.ofNat n1) (Int32.ofNat n2) (Int32.ofNat n3) (Int32.ofNat n4) (zc w b C M0 r) = if Int32.ofNat h = (8 : Int32) then some (zv_pad (zc w b C M0 r), .inr "java/lang/UnsupportedOperationException") else (mX0_appendHandler N (b + 5) (Int32.ofNat n1) (Int32.ofNat n2) (Int32.ofNat n3) (Int32.ofNat n4) (zc w b C M0 r)).bind fun o11 => (zm_R o11 (b + 0) 8 1).bind fun v13 => (zm_I o11 v13 0 3).bind fun v15 => some (o11, .inl v15) := fun M0 => by
      unfold mX8_handler mX8_handler_0
      rw [if_neg f1, if_neg f2, if_pos f3, if_neg f4, if_pos f5, zqg_0_0, Option.bind_some, if_pos zqk_1, ze_has hC _ M0, Option.bind_some]
      simp only [if_pos (And.intro f6 f7), zqg_0_1, zqg_5_3, Option.bind_some, d5]
      rw [if_neg (by decide), if_pos zqk_5]
    have keyM : ∀ C0 r0, mX9_handler N (b + 75) (Int32.ofNat n1) (Int32.ofNat n2) (Int32.ofNat n3) (Int32.ofNat n4) (zc w b C0 M r0) = if Int32.ofNat h = (8 : Int32) then mX9_handler_79 N (b + 75) (Int32.ofNat n1) (Int32.ofNat n2) (Int32.ofNat n3) (Int32.ofNat n4) 2 (b + 75) (zc w b C0 M r0) else mX9_handler_79 N (b + 75) (Int32.ofNat n1) (Int32.ofNat n2) (Int32.ofNat n3) (Int32.ofNat n4) 0 (b + 75) (zc w b C0 M r0) := fun C0 r0 => by
      unfold mX9_handler mX9_handler_0
      rw [if_neg f1, if_neg fA, if_neg f2, if_neg (Int32.not_lt.mpr f3), if_neg f4, if_neg (Int32.not_lt.mpr f5), if_neg f6, zqg_75_5, Option.bind_some, hM, if_neg (Int32.not_le.mpr f7)]
      unfold mX9_handler_53
      rw [if_neg (by decide), zqg_75_9, Option.bind_some, d6]
    by_cases c8 : h = 8
    · subst c8
      refine Or.inr ⟨_, 2, fun M0 => ?_, fun C0 r0 => ?_, Or.inr ⟨rfl, rfl⟩⟩
      · rw [keyC, if_pos (by decide)]; rfl
      · rw [keyM, if_pos (by decide)]
        exact zn_handler_x _ _ _ _ 2 (by decide) C0 r0
    · have c9 : ¬ Int32.ofNat h = (8 : Int32) := by rw [zi_lit, zi_eq (by omega) (by omega)]; exact c8
      refine Or.inl ⟨zI (zI (zI (zI (zI C 7 (4 * h) (Int32.ofNat n1)) 7 (4 * h + 1) (Int32.ofNat n2)) 7 (4 * h + 2) (Int32.ofNat n3)) 7 (4 * h + 3) (Int32.ofNat n4)) 5 3 (Int32.ofNat (h + 1)), zJ (zJ (zJ (zJ (zJ (zJ M 100 0 0) 8 (4 * h) (Int32.ofNat n1)) 8 (4 * h + 1) (Int32.ofNat n2)) 8 (4 * h + 2) (Int32.ofNat n3)) 8 (4 * h + 3) (Int32.ofNat n4)) 100 9 (Int32.ofNat (h + 1)), fun i => if i = 4 * h then n1 else if i = 4 * h + 1 then n2 else if i = 4 * h + 2 then n3 else if i = 4 * h + 3 then n4 else hs i, fun M0 => ?_, fun C0 r0 => ?_, ?_, ⟨?_, ?_, d3, fun i hi => ?_, ?_, ?_, by omega, fun i hi => ?_, fun j hj => ?_⟩, rfl, rfl, fun o k e1 e2 => ?_, fun o k e1 e2 => ?_⟩
      · rw [keyC, if_neg c9]
        unfold mX0_appendHandler mX0_appendHandler_0
        simp (disch := omega) only [zqk_5, zqg_5_0, zqg_5_1, zqg_5_2, zqp_5_2, zqg_5_3, zqp_5_3, zqn_6, zqa_6, zqs_6, zqn_7, zqa_7, zqs_7, zI1, zI2, zL1, zL2, zL3, zV1, zV2, zV3, zJ1, zJ2, zK1, zK2, Nat.reduceEqDiff, and_true, true_and, and_false, false_and, and_self, reduceIte, zqg_0_1, Option.bind_some, d5, zi_lit, zi_mul, zi_add, Nat.mul_comm h 4]
      · rw [keyM, if_neg c9]
        unfold mX9_handler_79
        simp only [zqp_75_0, zqg_75_0, Option.bind_some, zI1, zI2, zL1, zL2, zL3, zV1, zV2, zV3, zJ1, zJ2, zK1, zK2, Nat.reduceEqDiff, and_true, true_and, and_false, false_and, and_self, reduceIte]
        rw [if_pos (by decide)]
        simp (disch := omega) only [zqg_75_8, zqg_75_9, zqp_75_9, zqs_80, Option.bind_some, zI1, zI2, zL1, zL2, zL3, zV1, zV2, zV3, zJ1, zJ2, zK1, zK2, Nat.reduceEqDiff, and_true, true_and, and_false, false_and, and_self, reduceIte, d6, zi_lit, zi_mul, zi_add]
      · simp only [zI1, zI2, zL1, zL2, zL3, zV1, zV2, zV3, zJ1, zJ2, zK1, zK2, Nat.reduceEqDiff, and_true, true_and, and_false, false_and, and_self, reduceIte]
      · simp only [zI1, zI2, zL1, zL2, zL3, zV1, zV2, zV3, zJ1, zJ2, zK1, zK2, Nat.reduceEqDiff, and_true, true_and, and_false, false_and, and_self, reduceIte]; exact d1
      · simp only [zI1, zI2, zL1, zL2, zL3, zV1, zV2, zV3, zJ1, zJ2, zK1, zK2, Nat.reduceEqDiff, and_true, true_and, and_false, false_and, and_self, reduceIte]; exact d2
      · simp only [zI1, zI2, zL1, zL2, zL3, zV1, zV2, zV3, zJ1, zJ2, zK1, zK2, Nat.reduceEqDiff, and_true, true_and, and_false, false_and, and_self, reduceIte]; exact d4 i hi
      · simp only [zI1, zI2, zL1, zL2, zL3, zV1, zV2, zV3, zJ1, zJ2, zK1, zK2, Nat.reduceEqDiff, and_true, true_and, and_false, false_and, and_self, reduceIte]
      · simp only [zI1, zI2, zL1, zL2, zL3, zV1, zV2, zV3, zJ1, zJ2, zK1, zK2, Nat.reduceEqDiff, and_true, true_and, and_false, false_and, and_self, reduceIte]
      · simp only [zI1, zI2, zL1, zL2, zL3, zV1, zV2, zV3, zJ1, zJ2, zK1, zK2, Nat.reduceEqDiff, and_true, true_and, and_false, false_and, and_self, reduceIte]
        by_cases i0 : i = 4 * h ∨ i = 4 * h + 1 ∨ i = 4 * h + 2 ∨ i = 4 * h + 3
        · rcases i0 with rfl | rfl | rfl | rfl <;> simp (disch := omega) only [if_pos, if_neg, if_true, if_false]
          · exact ⟨by omega, trivial, trivial⟩
          · exact ⟨by omega, trivial, trivial⟩
          · exact ⟨by omega, trivial, trivial⟩
          · exact ⟨by omega, trivial, trivial⟩
        · simp (disch := omega) only [if_neg, if_true, if_false]
          exact d8 i (by omega)
      · by_cases j0 : j = h
        · subst j0
          simp (disch := omega) only [if_pos, if_neg, if_true, if_false]
          exact p7
        · simp (disch := omega) only [if_neg, if_true, if_false]
          exact d9 j (by omega)
      · simp (disch := omega) only [zI1, if_neg]
      · simp (disch := omega) only [zJ1, if_neg]
  · refine Or.inr ⟨_, 1, fun M0 => ?_, fun C0 r0 => ?_, Or.inl ⟨rfl, rfl⟩⟩
    · unfold mX8_handler mX8_handler_0 mX8_handler_16 mX8_handler_37
      by_cases f1 : a1 < 0
      · rw [if_pos f1]; rfl
      rw [if_neg f1]
      by_cases f2 : a2 ≤ a1
      · rw [if_pos f2]; rfl
      rw [if_neg f2]
      by_cases f3' : ¬ a2 ≤ (200 : Int32)
      · rw [if_neg f3']; rfl
      have f3 := Decidable.not_not.mp f3'
      rw [if_pos f3]
      by_cases f4 : a3 < 0
      · rw [if_pos f4]; rfl
      rw [if_neg f4]
      by_cases f5' : ¬ a3 ≤ (200 : Int32)
      · rw [if_neg f5']; rfl
      have f5 := Decidable.not_not.mp f5'
      rw [if_pos f5, zqg_0_0, Option.bind_some, if_pos zqk_1, ze_has hC _ M0, Option.bind_some]
      simp only [if_neg (fun e : ¬ a4 < 0 ∧ a4 < Int32.ofNat K => fit ⟨f1, f2, f3, f4, f5, e.1, e.2⟩), if_true]
      rfl
    · have key : mX9_handler N (b + 75) a1 a2 a3 a4 (zc w b C0 M r0) = mX9_handler_79 N (b + 75) a1 a2 a3 a4 1 (b + 75) (zc w b C0 M r0) := by
        have e : mX9_handler_52 N (b + 75) a1 a2 a3 a4 (zc w b C0 M r0) = mX9_handler_79 N (b + 75) a1 a2 a3 a4 1 (b + 75) (zc w b C0 M r0) := by
          unfold mX9_handler_52 mX9_handler_53
          rw [if_pos rfl]
        unfold mX9_handler mX9_handler_0
        rw [e]
        by_cases f1 : a1 < 0
        · rw [if_pos f1]
        rw [if_neg f1]
        by_cases fA : (200 : Int32) < a1
        · rw [if_pos fA]
        rw [if_neg fA]
        by_cases f2 : a2 ≤ a1
        · rw [if_pos f2]
        rw [if_neg f2]
        by_cases f3 : (200 : Int32) < a2
        · rw [if_pos f3]
        rw [if_neg f3]
        by_cases f4 : a3 < 0
        · rw [if_pos f4]
        rw [if_neg f4]
        by_cases f5 : (200 : Int32) < a3
        · rw [if_pos f5]
        rw [if_neg f5]
        by_cases f6 : a4 < 0
        · rw [if_pos f6]
        rw [if_neg f6, zqg_75_5, Option.bind_some, hM]
        rw [if_pos (zi_nlt.mp fun e => fit ⟨f1, f2, zi_nlt.mp f3, f4, zi_nlt.mp f5, f6, e⟩)]
      rw [key]
      exact zn_handler_x _ _ _ _ 1 (by decide) C0 r0
end ZCA
