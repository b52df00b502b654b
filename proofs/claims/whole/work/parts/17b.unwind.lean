/-! ===== both unwind ===== -/
section ZUW
variable {N w b K f0 : Nat} {F ρ α π ra pp mm : Nat → Nat} {C : zC} {M : zM} {r : zv_X} {μs : Nat → zMu}
theorem zd_tag {u : Nat} (hw : w ≤ 400) (hu : u < w / 2) (ha : zha C u < w) : zHC w b (mX2_tag N (b + 16) (Int32.ofNat (u + 1))) C r (fun x => (x, zht C u)) C r := by
  intro M
  have e18 : C.1 18 (u + 1) = Int32.ofNat (zha C u) := (zN_of _).symm
  unfold mX2_tag mX2_tag_0
  rw [zqg_16_1, Option.bind_some, zqg_16_2, Option.bind_some, zqa_18 hw (by omega), Option.bind_some, e18, zqa_17 hw ha, Option.bind_some]
  rfl
theorem zd_isArray {u : Nat} (hw : w ≤ 400) (hu : u < w / 2) (ha : zha C u < w) : zHC w b (mX2_isArray N (b + 16) (Int32.ofNat (u + 1))) C r (fun x => (x, if 0 ≤ zht C u then 0 else 1)) C r := by
  intro M
  have e := zd_tag (N := N) (w := w) (b := b) (C := C) (r := r) hw hu ha M
  unfold mX2_isArray mX2_isArray_0 mX2_isArray_13
  rw [zqk_16, if_pos rfl, e, Option.bind_some]
  by_cases c : 0 ≤ zht C u
  · rw [if_pos c, if_pos (Or.inl rfl), if_pos c]
  · rw [if_neg c, if_pos (Or.inr rfl), if_neg c]
theorem zd_classes {u so cl : Nat} (hw : w ≤ 400) (hT : zTy C M K F ρ α π) (hu : u < w / 2) (ha : zha C u < w) (hso : so = 0 ∨ so = 4 ∨ so = 5 ∨ so = 8 ∨ so = 9 ∨ so = 10 ∨ so = 11 ∨ so = 12) (hcl : cl < K) (hc0 : so ≠ 0 → cl = 0) (ht : zht C u = zTag so cl) : zHC w b (mX2_classes N (b + 16) (Int32.ofNat (u + 1))) C r (fun x => (x, Int32.ofNat (α cl))) C r := by
  intro M0
  have hK := hT.2.2.2.1
  have e := zd_tag (N := N) (w := w) (b := b) (C := C) (r := r) hw hu ha M0
  unfold mX2_classes mX2_classes_0 mX2_classes_23
  rw [zqk_16, if_pos rfl, e, Option.bind_some]
  dsimp only
  unfold zTag at ht
  by_cases c0 : so = 0
  · rw [if_pos c0] at ht
    rw [ht]
    rw [if_pos (show (0 : Int32) ≤ Int32.ofNat cl by rw [zi_p0 (by omega)]; trivial), zqg_16_0, Option.bind_some, zqg_1_0, Option.bind_some]
    show ((zm_aI (zc w b C M0 r) (b + 2) (Int32.ofNat cl)).bind _) = _
    rw [zqa_2 (by omega), Option.bind_some, (hT.2.2.2.2.2.2.1 cl hcl).1]
  · rw [if_neg c0] at ht
    have hneg : ¬ (0 : Int32) ≤ zht C u := by
      rw [ht]
      rcases hso with e | e | e | e | e | e | e | e
      · exact absurd e c0
      · subst e; decide
      · subst e; decide
      · subst e; decide
      · subst e; decide
      · subst e; decide
      · subst e; decide
      · subst e; decide
    rw [if_neg hneg, hc0 c0, hT.2.2.2.2.2.1]
    rfl
def zGf (μs : Nat → zMu) (al : Nat) (pp mm : Nat → Nat) (f : Nat) : Option Nat := zct (μs (mm f)) al (pp f) (uH (μs (mm f))) 0
theorem zct_le {μ : zMu} {a p : Nat} (hK : zMuOk K μ) : ∀ (n j q : Nat), j + n = uH μ → zct μ a p n j = some q → q ≤ 200 ∧ ∃ i, i < uH μ ∧ uHs μ (4 * i) ≤ p ∧ p < uHs μ (4 * i + 1) ∧ q = uHs μ (4 * i + 2)
  | 0, j, q, _, h => by cases h
  | n + 1, j, q, hj, h => by
    have h' : (if (uHs μ (4 * j) ≤ p ∧ p < uHs μ (4 * j + 1)) ∧ a.testBit (uHs μ (4 * j + 3)) = true then some (uHs μ (4 * j + 2)) else zct μ a p n (j + 1)) = some q := h
    by_cases c : (uHs μ (4 * j) ≤ p ∧ p < uHs μ (4 * j + 1)) ∧ a.testBit (uHs μ (4 * j + 3)) = true
    · rw [if_pos c] at h'
      cases h'
      exact ⟨hK.2.2.2.1 _ (by omega), j, by omega, c.1.1, c.1.2, rfl⟩
    · rw [if_neg c] at h'
      exact zct_le hK n (j + 1) q (by omega) h'
theorem zd_u14 {u al : Nat} (hN : 16 < N) (hw : w ≤ 400) (hK30 : K ≤ 30) (hu : u < w / 2) (ha : zha C u < w) (hal : al < 2 ^ 31) (hC : ∀ f, f ≤ f0 → C.1 (f + 100) 4 = Int32.ofNat (pp f) ∧ C.2.2 (f + 100) 3 = .ref (ra (mm f)) ∧ pp f ≤ 200 ∧ zRt b r (ra (mm f)) (μs (mm f)) ∧ zMuOk K (μs (mm f))) (hf0 : f0 < 16) :
    ∀ (n fuel : Nat), n ≤ f0 + 1 → n < fuel → zHC w b (mX4_unwind_14 N fuel (b + 15) (Int32.ofNat (u + 1)) (Int32.ofNat al) (Int32.ofNat n + (-1))) C r id (zuC b C (Int32.ofNat (u + 1)) (zht C u) (zfh (zGf μs al pp mm) n)) r := by
  intro n
  induction n with
  | zero =>
    intro fuel h1 hf M
    obtain ⟨fuel, rfl⟩ : ∃ g, fuel = g + 1 := ⟨fuel - 1, by omega⟩
    have o : ∀ a k, a ≠ 15 → (zI C 15 7 1).1 a k = C.1 a k := fun a k h => by rw [zI1, if_neg (by omega)]
    have ea : zha (zI C 15 7 1) u = zha C u := zha_c (o 18 _ (by decide))
    have et : zht (zI C 15 7 1) u = zht C u := by unfold zht; rw [ea, o 17 _ (by decide)]
    have e := zd_tag (N := N) (w := w) (b := b) (C := zI C 15 7 1) (r := r) hw hu (by rw [ea]; exact ha) M
    rw [et] at e
    unfold mX4_unwind_14
    rw [if_pos (by decide), zqp_15_7, Option.bind_some, zqg_15_2, Option.bind_some, zqk_16, if_pos rfl, e, Option.bind_some, zqp_15_8, Option.bind_some]
    rfl
  | succ n ih =>
    intro fuel h1 hf M
    obtain ⟨fuel, rfl⟩ : ∃ g, fuel = g + 1 := ⟨fuel - 1, by omega⟩
    obtain ⟨c4, c3, c5, cR, cK⟩ := hC n (by omega)
    have e := ih fuel (by omega) (by omega) M
    have hn : n < 16 := by omega
    have pl := ze_place (N := N) (w := w) (C := C) (p := pp n) (al := al) (by omega) cR cK hK30 c5 hal M
    show mX4_unwind_14 N (fuel + 1) (b + 15) (Int32.ofNat (u + 1)) (Int32.ofNat al) (Int32.ofNat (n + 1) + (-1)) (zc w b C M r) = some (id (zc w b (zuC b C (Int32.ofNat (u + 1)) (zht C u) ((zGf μs al pp mm n).elim (zfh (zGf μs al pp mm) n) fun q => some (n, q))) M r))
    rw [zi_pred]
    unfold mX4_unwind_14 mX1_routine mX1_routine_0
    rw [if_neg (by rw [zi_nn (by omega)]; exact id)]
    simp only [zqg_15_4, zqa_23 hn, zqkF hn, zqgF_3 hn c3, zqgF_4 hn, c4, ze_kR cR, pl, Option.bind_some, if_true]
    have eg : zct (μs (mm n)) al (pp n) (uH (μs (mm n))) 0 = zGf μs al pp mm n := rfl
    rw [eg]
    cases hq : zGf μs al pp mm n with
    | none =>
      show (if (-1 : Int32) = -1 then _ else _) = _
      rw [if_pos rfl]
      exact e
    | some q =>
      have hq2 := (zct_le cK (uH (μs (mm n))) 0 q (by omega) hq).1
      show (if Int32.ofNat q = -1 then _ else _) = _
      rw [if_neg (by rw [zi_neg1 (by omega)]; exact id)]
      have cat := zf_catchAt (N := N) (w := w) (b := b) (C := zV (zI C 15 6 (Int32.ofNat n)) 15 5 (.ref (b + (3 * n + 27)))) (r := r) hn (Int32.ofNat q) (Int32.ofNat (u + 1)) M
      rw [zqp_15_6, Option.bind_some]
      simp only [zqg_15_4, zqa_23 hn, Option.bind_some]
      rw [zqp_15_5, Option.bind_some, zqg_15_5 (a := b + (3 * n + 27)) (by rw [zV3, if_pos ⟨rfl, rfl⟩]), Option.bind_some, zqkF hn, if_pos rfl, show ((some q : Option Nat).elim (-1 : Int32) Int32.ofNat) = Int32.ofNat q from rfl, cat, Option.bind_some]
      rfl
theorem zn_h0 {t cl : Nat} (hN : 32 < N) (hT : zTy C M K F ρ α π) (hM : ∀ f, f ≤ f0 → M.1 40 f = Int32.ofNat (mm f) ∧ M.1 41 f = Int32.ofNat (pp f) ∧ pp f ≤ 200 ∧ mm f < 20 ∧ zMt M (mm f) (μs (mm f)) ∧ zMuOk K (μs (mm f))) (hf0 : f0 < 16) (ht : t < 201) (h31 : M.1 31 t = Int32.ofNat cl) (hcl : cl < K) :
    ∀ (n fuel : Nat), n ≤ f0 + 1 → n < fuel → ∀ (C0 : zC) (r0 : zv_X), mX9_hurl_0 N fuel (b + 75) (Int32.ofNat t) (zc w b C0 (zJ M 100 47 (Int32.ofNat n)) r0) = some (zc w b C0 (zuM M t (Int32.ofNat cl) (zfh (zGf μs (α cl) pp mm) n)) r0) := by
  intro n
  induction n with
  | zero =>
    intro fuel h1 hf C0 r0
    obtain ⟨fuel, rfl⟩ : ∃ g, fuel = g + 1 := ⟨fuel - 1, by omega⟩
    have e47 : (zJ M 100 47 (Int32.ofNat 0)).1 100 47 = Int32.ofNat 0 := by rw [zJ1, if_pos ⟨rfl, rfl⟩]
    have e31 : (zJ M 100 47 (Int32.ofNat 0)).1 31 t = Int32.ofNat cl := by rw [zJ1, if_neg (by omega)]; exact h31
    unfold mX9_hurl_0
    rw [zqg_75_47, Option.bind_some, e47, if_pos (by decide), zqg_75_31, Option.bind_some, zqa_98 ht, Option.bind_some, e31, zqp_75_50, Option.bind_some, zqp_75_48, Option.bind_some, zqp_75_49, Option.bind_some]
    rfl
  | succ n ih =>
    intro fuel h1 hf C0 r0
    obtain ⟨fuel, rfl⟩ : ∃ g, fuel = g + 1 := ⟨fuel - 1, by omega⟩
    obtain ⟨m1, m2, m3, m4, m5, m6⟩ := hM n (by omega)
    have e := ih fuel (by omega) (by omega) C0 r0
    have o : ∀ a k, a ≠ 100 → (zJ M 100 47 (Int32.ofNat (n + 1))).1 a k = M.1 a k := fun a k h => by rw [zJ1, if_neg (by omega)]
    have row : ∀ a, a ≠ 100 → (zJ M 100 47 (Int32.ofNat (n + 1))).1 a = M.1 a := fun a h => funext fun k => o a k h
    have e47 : (zJ M 100 47 (Int32.ofNat (n + 1))).1 100 47 = Int32.ofNat (n + 1) := by rw [zJ1, if_pos ⟨rfl, rfl⟩]
    have hT' : zTy C (zJ M 100 47 (Int32.ofNat (n + 1))) K F ρ α π := hT.cong rfl rfl rfl rfl (by rw [zJ1, if_neg (by decide)]) (row 2 (by decide)) (row 3 (by decide)) (row 4 (by decide))
    have hM' : zMt (zJ M 100 47 (Int32.ofNat (n + 1))) (mm n) (μs (mm n)) := by
      unfold zMt at m5 ⊢
      rw [row 18 (by decide), row 17 (by decide), row 11 (by decide), row 10 (by decide), row 12 (by decide), row 13 (by decide), row 14 (by decide), row 15 (by decide), row 16 (by decide)]
      exact m5
    have h24 := zn_h24 (N := N) (w := w) (b := b) (M := zJ M 100 47 (Int32.ofNat (n + 1))) (K0 := mX9_hurl_0 N fuel) (p := pp n) (m := mm n) hN hT' hM' m4 m6 (show n < 16 by omega) e47 (by rw [o 41 _ (by decide)]; exact m2) m3 ht (by rw [o 31 _ (by decide)]; exact h31) hcl (uH (μs (mm n))) N 0 (by omega) (by have := m6.2.2.1; omega) C0 r0
    rw [mX9_hurl_0, zqg_75_47, Option.bind_some, e47, if_neg (by rw [show (0 : Int32) = Int32.ofNat 0 from rfl, zi_le (by omega) (by omega)]; omega)]
    simp only [zqg_75_47, e47, Option.bind_some]
    rw [show (Int32.ofNat (n + 1) - 1 : Int32) = Int32.ofNat n from zi_sub (a := n + 1) (b := 1) (by omega), zqg_75_40, Option.bind_some, zqa_105 (show n < 16 by omega), Option.bind_some, o 40 _ (by decide), m1]
    refine Eq.trans h24 ?_
    show _ = some (zc w b C0 (zuM M t (Int32.ofNat cl) ((zGf μs (α cl) pp mm n).elim (zfh (zGf μs (α cl) pp mm) n) fun q => some (n, q))) r0)
    have eg : zct (μs (mm n)) (α cl) (pp n) (uH (μs (mm n))) 0 = zGf μs (α cl) pp mm n := rfl
    rw [eg]
    cases hq : zGf μs (α cl) pp mm n with
    | none =>
      show mX9_hurl_0 N fuel (b + 75) (Int32.ofNat t) (zc w b C0 (zJ (zJ M 100 47 (Int32.ofNat (n + 1))) 100 47 (Int32.ofNat n)) r0) = _
      rw [zJJ]
      exact e
    | some q => rfl
end ZUW
