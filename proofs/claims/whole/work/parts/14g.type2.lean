section ZTZ
variable {N w b K n h : Nat} {C : zC} {M : zM} {r : zv_X} {F ρ α π c hs : Nat → Nat}
theorem zp_type (hN : 30 ≤ N) (hT : zTy C M K F ρ α π) (a1 a2 a3 : Int32) :
    (∃ (C' : zC) (M' : zM) (F' ρ' α' π' : Nat → Nat), zHC w b (mX8_type N (b + 0) a1 a2 a3) C r (fun x => (x, .inl (Int32.ofNat K))) C' r ∧ zHM w b (mX9_type N (b + 75) a1 a2 a3) M (fun x => (x, Int32.ofNat K)) M' ∧ M'.1 100 0 = 0 ∧ zTy C' M' (K + 1) F' ρ' α' π' ∧
      (∀ k, k < K → F' k = F k ∧ ρ' k = ρ k ∧ α' k = α k ∧ π' k = π k) ∧ (π' K < K ∧ F (π' K) ≤ F' K ∧ ∀ f, f < F (π' K) → (ρ' K).testBit f = (ρ (π' K)).testBit f) ∧
      C'.2 = C.2 ∧ M'.2 = M.2 ∧ (∀ o k, ¬ (o = 1 ∧ k = 3) → o ≠ 2 → o ≠ 3 → o ≠ 4 → C'.1 o k = C.1 o k) ∧ ∀ o k, ¬ (o = 100 ∧ (k = 5 ∨ k = 0)) → o ≠ 2 → o ≠ 3 → o ≠ 4 → M'.1 o k = M.1 o k) ∨
    (∃ (E : String) (v : Int32), zHC w b (mX8_type N (b + 0) a1 a2 a3) C r (fun x => (x, .inr E)) C (zv_pad r) ∧ zHM w b (mX9_type N (b + 75) a1 a2 a3) M (fun x => (x, 0)) (zJ M 100 0 v) ∧ (E = "java/lang/IndexOutOfBoundsException" ∧ v = 1 ∨ E = "java/lang/IllegalArgumentException" ∧ v = 2 ∨ E = "java/lang/UnsupportedOperationException" ∧ v = 3)) := by
  have hT' := hT
  obtain ⟨t1, t2, t3, t4, t5, t6, t7, t8⟩ := hT
  by_cases c1 : ¬ a1 < 0 ∧ a1 < Int32.ofNat K
  · obtain ⟨p, rfl, hp0⟩ := zi_of (zi_nlt.mp c1.1)
    have hp := c1.2
    rw [zi_lt hp0 (by omega)] at hp
    obtain ⟨p1, p2, p3, p4, p5, p6, p7, p8⟩ := t7 p hp
    have keyC : ∀ M0, mX8_type N (b + 0) (Int32.ofNat p) a2 a3 (zc w b C M0 r) = if a2 < 0 then some (zv_pad (zc w b C M0 r), .inr "java/lang/IllegalArgumentException") else if a2 ≤ Int32.ofNat (8 - F p) then (if Int32.ofNat K = (30 : Int32) then some (zv_pad (zc w b C M0 r), .inr "java/lang/UnsupportedOperationException") else (mX7_add N (b + 1) (Int32.ofNat p) a2 a3 (zc w b C M0 r)).bind fun o17 => some (o17.1, .inl o17.2)) else some (zv_pad (zc w b C M0 r), .inr "java/lang/IllegalArgumentException") := fun M0 => by
      unfold mX8_type mX8_type_0 mX8_type_41
      rw [zqg_0_0, Option.bind_some, if_pos zqk_1, ze_has t1 _ M0, Option.bind_some]
      simp only [if_pos c1]
      rw [if_neg (by decide)]
      simp (disch := omega) only [zqg_0_0, zqg_1_1, zqg_1_3, zqa_3, Option.bind_some, p2, zi_lit, zi_sub, t1, zqk_1, if_true]
    have keyM : ∀ C0 r0, mX9_type N (b + 75) (Int32.ofNat p) a2 a3 (zc w b C0 M r0) = if a2 < 0 then mX9_type_64 N (b + 75) (Int32.ofNat p) a2 a3 2 (b + 75) (zc w b C0 M r0) else if a2 ≤ Int32.ofNat (8 - F p) then (if Int32.ofNat K = (30 : Int32) then mX9_type_64 N (b + 75) (Int32.ofNat p) a2 a3 3 (b + 75) (zc w b C0 M r0) else mX9_type_64 N (b + 75) (Int32.ofNat p) a2 a3 0 (b + 75) (zc w b C0 M r0)) else mX9_type_64 N (b + 75) (Int32.ofNat p) a2 a3 2 (b + 75) (zc w b C0 M r0) := fun C0 r0 => by
      unfold mX9_type mX9_type_0 mX9_type_17 mX9_type_46
      rw [if_neg c1.1, zqg_75_5, Option.bind_some, t2, if_neg (Int32.not_le.mpr c1.2), if_neg (by decide)]
      simp (disch := omega) only [zqg_75_3, zqg_75_5, zqa_77, Option.bind_some, p4, t2, zi_lit, zi_sub]
    by_cases c2 : a2 < 0
    · refine Or.inr ⟨_, 2, fun M0 => ?_, fun C0 r0 => ?_, Or.inr (Or.inl ⟨rfl, rfl⟩)⟩
      · rw [keyC, if_pos c2]; rfl
      · rw [keyM, if_pos c2]; exact zn_type_x _ _ _ 2 (by decide) C0 r0
    · by_cases c3 : a2 ≤ Int32.ofNat (8 - F p)
      · obtain ⟨m, rfl, hm0⟩ := zi_of (zi_nlt.mp c2)
        have hm := c3
        rw [zi_le hm0 (by omega)] at hm
        by_cases c4 : K = 30
        · subst c4
          refine Or.inr ⟨_, 3, fun M0 => ?_, fun C0 r0 => ?_, Or.inr (Or.inr ⟨rfl, rfl⟩)⟩
          · rw [keyC, if_neg c2, if_pos c3, if_pos (by decide)]; rfl
          · rw [keyM, if_neg c2, if_pos c3, if_pos (by decide)]; exact zn_type_x _ _ _ 3 (by decide) C0 r0
        · have c5 : ¬ Int32.ofNat K = (30 : Int32) := by rw [zi_lit, zi_eq (by omega) (by omega)]; exact c4
          obtain ⟨M1, f1, f2, f3, f4⟩ := zn_type1 (N := N) (w := w) (b := b) (K := K) p (F p) m a3 (by omega) hp (by omega) p5 (F p) 0 N (zJ (zJ M 100 0 0) 2 K (Int32.ofNat p)) (by omega) (by omega) t2
          obtain ⟨M2, g1, g2, g3, g4, g5, g6⟩ := zn_type2 (N := N) (w := w) (b := b) (K := K) (F p) m a3 (by omega) (by omega) m 0 N M1 (by omega) (by omega) (by rw [f3 100 5 (by omega)]; exact t2)
          obtain ⟨b1, b2, b3⟩ := zt_bits (a := ρ p) (m := m) (f := F p) (v := a3.toBitVec.toNat) p6
          refine Or.inl ⟨zI (zI (zI (zI C 2 K (Int32.ofNat (α p ||| 2 ^ K))) 3 K (Int32.ofNat (F p + m))) 4 K (Int32.ofNat (ρ p ||| (a3.toBitVec.toNat % 2 ^ m) <<< F p))) 1 3 (Int32.ofNat (K + 1)), M2, fun k => if k = K then F p + m else F k, fun k => if k = K then ρ p ||| (a3.toBitVec.toNat % 2 ^ m) <<< F p else ρ k, fun k => if k = K then α p ||| 2 ^ K else α k, fun k => if k = K then p else π k, fun M0 => ?_, fun C0 r0 => ?_, ?_, ⟨rfl, g3, by omega, by omega, ?_, ?_, fun k hk => ?_, fun k h0 hk => ?_⟩, fun k hk => ?_, ?_, rfl, by rw [g2, f2]; rfl, fun o k e1 e2 e3 e4 => ?_, fun o k e1 e2 e3 e4 => ?_⟩
          · rw [keyC, if_neg c2, if_pos c3, if_neg c5, ze_add hT' (by omega) hp (by omega) a3 M0, Option.bind_some]
          · rw [keyM, if_neg c2, if_pos c3, if_neg c5]
            unfold mX9_type_64
            simp only [zqp_75_0, zqg_75_0, Option.bind_some, zI1, zI2, zL1, zL2, zL3, zV1, zV2, zV3, zJ1, zJ2, zK1, zK2, Nat.reduceEqDiff, and_true, true_and, and_false, false_and, and_self, reduceIte]
            rw [if_pos (by decide)]
            simp (disch := omega) only [zqg_75_2, zqg_75_3, zqg_75_5, zqa_77, zqs_76, Option.bind_some, zI1, zI2, zL1, zL2, zL3, zV1, zV2, zV3, zJ1, zJ2, zK1, zK2, Nat.reduceEqDiff, and_true, true_and, and_false, false_and, and_self, reduceIte, t2, p4]
            exact (f1 C0 r0).trans (g1 C0 r0)
          · rw [g5 100 0 (by omega) (by omega) (by omega), f3 100 0 (by omega)]; rfl
          · rw [g5 2 0 (by omega) (by omega) (by omega), f3 2 0 (by omega), zJ1, if_neg (by omega)]; exact t5
          · simp (disch := omega) only [if_neg]; exact t6
          · by_cases ck : k = K
            · subst ck
              simp only [zI1, zI2, zL1, zL2, zL3, zV1, zV2, zV3, zJ1, zJ2, zK1, zK2, Nat.reduceEqDiff, and_true, true_and, and_false, false_and, and_self, reduceIte, if_true]
              refine ⟨g4, by omega, b1, ?_, fun f hf => ?_⟩
              · exact Nat.or_lt_two_pow (Nat.lt_of_lt_of_le p7 (Nat.pow_le_pow_right (by decide) (by omega))) (Nat.pow_lt_pow_right (by decide) (by omega))
              · by_cases cf : f < F p
                · rw [g5 4 _ (by omega) (by omega) (by omega), f4 f (by omega) cf, zJ1, if_neg (by omega), zJ1, if_neg (by omega), p8 f cf, b2 f cf]
                · have e := g6 (f - F p) (by omega) (by omega)
                  have e2 := b3 (f - F p) (by omega)
                  rw [show 8 * k + F p + (f - F p) = 8 * k + f by omega] at e
                  rw [show F p + (f - F p) = f by omega] at e2
                  rw [e, e2]
            · obtain ⟨q1, q2, q3, q4, q5, q6, q7, q8⟩ := t7 k (by omega)
              simp (disch := omega) only [zI1, if_neg]
              refine ⟨q1, q2, q3, ?_, q5, q6, q7, fun f hf => ?_⟩
              · rw [g5 3 k (by omega) (by omega) (by omega), f3 3 k (by omega)]; exact q4
              · rw [g5 4 _ (by omega) (by omega) (by omega), f3 4 _ (by omega)]; exact q8 f hf
          · by_cases ck : k = K
            · subst ck
              simp (disch := omega) only [if_true, if_neg]
              refine ⟨hp, ?_, trivial⟩
              rw [g5 2 _ (by omega) (by omega) (by omega), f3 2 _ (by omega), zJ1, if_pos ⟨rfl, rfl⟩]
            · obtain ⟨q1, q2, q3⟩ := t8 k h0 (by omega)
              simp (disch := omega) only [if_neg]
              refine ⟨q1, ?_, q3⟩
              rw [g5 2 _ (by omega) (by omega) (by omega), f3 2 _ (by omega), zJ1, if_neg (by omega)]; exact q2
          · simp (disch := omega) only [if_neg, and_self]
          · simp only [↓reduceIte]
            exact ⟨hp, by omega, fun f hf => b2 f hf⟩
          · simp (disch := omega) only [zI1, if_neg]
          · rw [g5 o k (by omega) (by omega) (by omega), f3 o k (by omega), zJ1, if_neg (by omega), zJ1, if_neg (by omega)]
      · refine Or.inr ⟨_, 2, fun M0 => ?_, fun C0 r0 => ?_, Or.inr (Or.inl ⟨rfl, rfl⟩)⟩
        · rw [keyC, if_neg c2, if_neg c3]; rfl
        · rw [keyM, if_neg c2, if_neg c3]; exact zn_type_x _ _ _ 2 (by decide) C0 r0
  · refine Or.inr ⟨_, 1, fun M0 => ?_, fun C0 r0 => ?_, Or.inl ⟨rfl, rfl⟩⟩
    · unfold mX8_type mX8_type_0
      rw [zqg_0_0, Option.bind_some, if_pos zqk_1, ze_has t1 _ M0, Option.bind_some]
      simp only [if_neg c1, if_true]
      rfl
    · have key : mX9_type N (b + 75) a1 a2 a3 (zc w b C0 M r0) = mX9_type_64 N (b + 75) a1 a2 a3 1 (b + 75) (zc w b C0 M r0) := by
        unfold mX9_type mX9_type_0 mX9_type_16 mX9_type_17
        by_cases f1 : a1 < 0
        · rw [if_pos f1, if_pos rfl]
        · rw [if_neg f1, zqg_75_5, Option.bind_some, t2, if_pos (zi_nlt.mp fun e => c1 ⟨f1, e⟩), if_pos rfl]
      rw [key]
      exact zn_type_x _ _ _ 1 (by decide) C0 r0
end ZTZ
