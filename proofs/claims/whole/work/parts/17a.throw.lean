/-! ===== who catches ===== -/
def zct (μ : zMu) (a p : Nat) : Nat → Nat → Option Nat
  | 0, _ => none
  | n + 1, j => if (uHs μ (4 * j) ≤ p ∧ p < uHs μ (4 * j + 1)) ∧ a.testBit (uHs μ (4 * j + 3)) = true then some (uHs μ (4 * j + 2)) else zct μ a p n (j + 1)
/-- the first frame from above that catches -/
def zfh (g : Nat → Option Nat) : Nat → Option (Nat × Nat)
  | 0 => none
  | f + 1 => (g f).elim (zfh g f) fun q => some (f, q)
def zuC (b : Nat) (C : zC) (h tag : Int32) : Option (Nat × Nat) → zC
  | none => zL (zI C 15 7 1) 15 8 tag.toInt64
  | some (i, q) => zPR (zI (zI (zV (zI C 15 6 (Int32.ofNat i)) 15 5 (.ref (b + (3 * i + 27)))) (i + 100) 4 (Int32.ofNat q)) (i + 100) 2 (Int32.ofNat (16 + 0))) i 0 h
def zuM (M : zM) (t : Nat) (cl : Int32) : Option (Nat × Nat) → zM
  | none => zJ (zJ (zK (zJ M 100 47 (Int32.ofNat 0)) 100 50 cl.toInt64) 100 48 1) 100 49 1
  | some (i, q) => zJ (zMP (zMD (zJ M 100 47 (Int32.ofNat (i + 1))) i 0) i 0 3 (Int64.ofNat (t + 1))) 41 i (Int32.ofNat q)
section ZTH
variable {N w b K p m : Nat} {F ρ α π ra : Nat → Nat} {C : zC} {M : zM} {r : zv_X} {μ : zMu}
theorem zH_at {a i : Nat} (hR : zRt b r a μ) (hK : zMuOk K μ) (hi : i < 4 * uH μ) : zm_aI (zc w b C M r) (a + 2) (Int32.ofNat i) = some (Int32.ofNat (uHs μ i)) := by
  obtain ⟨ha, cf, hf, r1, r2, r3, r4, r5⟩ := hR
  have h2 : (zc w b C M r).1 (a + 2) = _ := (zc_o (by omega)).trans r3
  have := hK.2.2.1
  rw [zo_aI h2 hi (by omega), r5 i hi]
theorem zH_n {a : Nat} (hR : zRt b r a μ) : zm_n (zc w b C M r) (a + 2) = some (Int32.ofNat (4 * uH μ)) := by
  obtain ⟨ha, cf, hf, r1, r2, r3, r4, r5⟩ := hR
  exact zo_n ((zc_o (by omega)).trans r3) (by decide)
theorem zH_r {a : Nat} (hR : zRt b r a μ) : zm_R (zc w b C M r) a 6 1 = some (a + 2) := by
  obtain ⟨ha, cf, hf, r1, r2, r3, r4, r5⟩ := hR
  unfold zm_R; rw [zo_g ((zc_o ha).trans r1)]; rfl
theorem ze_guards {a j : Nat} (hR : zRt b r a μ) (hK : zMuOk K μ) (hj : j < uH μ) (hp : p ≤ 200) : zHC w b (mX6_guards N a (Int32.ofNat (4 * j)) (Int32.ofNat p)) C r (fun x => (x, if uHs μ (4 * j) ≤ p ∧ p < uHs μ (4 * j + 1) then 1 else 0)) C r := by
  intro M
  have b1 := hK.2.2.2.1 (4 * j) (by omega)
  have b2 := hK.2.2.2.1 (4 * j + 1) (by omega)
  unfold mX6_guards mX6_guards_0 mX6_guards_26 mX6_guards_27
  rw [zH_r hR, Option.bind_some, zH_at hR hK (by omega), Option.bind_some]
  by_cases c1 : uHs μ (4 * j) ≤ p
  · rw [if_neg (by rw [zi_lt (by omega) (by omega)]; omega), Option.bind_some, zi_lit, zi_add, zH_at hR hK (by omega), Option.bind_some]
    by_cases c2 : p < uHs μ (4 * j + 1)
    · rw [if_neg (by rw [zi_le (by omega) (by omega)]; omega), if_pos (Or.inr rfl), if_pos ⟨c1, c2⟩]
    · rw [if_pos (by rw [zi_le (by omega) (by omega)]; omega), if_pos (Or.inl rfl), if_neg (fun q => c2 q.2)]
  · rw [if_pos (by rw [zi_lt (by omega) (by omega)]; omega), if_pos (Or.inl rfl), if_neg (fun q => c1 q.1)]
theorem ze_place2 {a al : Nat} (hR : zRt b r a μ) (hK : zMuOk K μ) (hK30 : K ≤ 30) (hp : p ≤ 200) (hal : al < 2 ^ 31) : ∀ (n fuel j : Nat), j + n = uH μ → n < fuel → zHC w b (mX6_placeToCatch_2 N fuel a (Int32.ofNat p) (Int32.ofNat al) (Int32.ofNat (4 * j))) C r (fun x => (x, (zct μ al p n j).elim (-1) Int32.ofNat)) C r := by
  intro n
  induction n with
  | zero =>
    intro fuel j hj hf M
    obtain ⟨fuel, rfl⟩ : ∃ g, fuel = g + 1 := ⟨fuel - 1, by omega⟩
    have := hK.2.2.1
    unfold mX6_placeToCatch_2
    rw [zH_r hR, Option.bind_some, zH_n hR, Option.bind_some, if_pos (by rw [zi_le (by omega) (by omega)]; omega)]
    rfl
  | succ n ih =>
    intro fuel j hj hf M
    obtain ⟨fuel, rfl⟩ : ∃ g, fuel = g + 1 := ⟨fuel - 1, by omega⟩
    have h8 := hK.2.2.1
    have e := ih fuel (j + 1) (by omega) (by omega) M
    have g := ze_guards (N := N) (w := w) (C := C) hR hK (show j < uH μ by omega) hp M
    have hc := hK.2.2.2.2.1 j (by omega)
    show mX6_placeToCatch_2 N (fuel + 1) a (Int32.ofNat p) (Int32.ofNat al) (Int32.ofNat (4 * j)) (zc w b C M r) = some (zc w b C M r, (if (uHs μ (4 * j) ≤ p ∧ p < uHs μ (4 * j + 1)) ∧ al.testBit (uHs μ (4 * j + 3)) = true then some (uHs μ (4 * j + 2)) else zct μ al p n (j + 1)).elim (-1) Int32.ofNat)
    have nx : mX6_placeToCatch_45 (mX6_placeToCatch_2 N fuel) N a (Int32.ofNat p) (Int32.ofNat al) (Int32.ofNat (4 * j)) (zc w b C M r) = some (zc w b C M r, (zct μ al p n (j + 1)).elim (-1) Int32.ofNat) := by
      unfold mX6_placeToCatch_45
      rw [zi_lit, zi_add, show 4 * j + 4 = 4 * (j + 1) by omega]
      exact e
    unfold mX6_placeToCatch_2
    rw [zH_r hR, Option.bind_some, zH_n hR, Option.bind_some, if_neg (by rw [zi_le (by omega) (by omega)]; omega), ze_kR hR, if_pos rfl, g, Option.bind_some]
    by_cases c1 : uHs μ (4 * j) ≤ p ∧ p < uHs μ (4 * j + 1)
    · rw [if_pos c1, if_neg (show ¬ (1 : Int32) = 0 by decide), zH_r hR, Option.bind_some, show (Int32.ofNat (4 * j) + 3 : Int32) = Int32.ofNat (4 * j + 3) from zi_add _ 3, zH_at hR hK (by omega), Option.bind_some]
      have eb : ((Int32.ofNat al >>> (Int32.ofNat (uHs μ (4 * j + 3)) &&& 31)) &&& (1 : Int32) = (1 : Int32)) = (al.testBit (uHs μ (4 * j + 3)) = true) := by
        show ((Int32.ofNat al >>> (Int32.ofNat (uHs μ (4 * j + 3)) &&& Int32.ofNat 31)) &&& Int32.ofNat 1 = Int32.ofNat 1) = _
        rw [zi_31 (by omega), zi_bitN hal (by omega)]
      by_cases c2 : al.testBit (uHs μ (4 * j + 3)) = true
      · rw [if_pos (by rw [eb]; exact c2), Option.bind_some, show (Int32.ofNat (4 * j) + 2 : Int32) = Int32.ofNat (4 * j + 2) from zi_add _ 2, zH_at hR hK (by omega), Option.bind_some, if_pos ⟨c1, c2⟩]
        rfl
      · rw [if_neg (by rw [eb]; exact c2), if_neg (fun q => c2 q.2)]
        exact nx
    · rw [if_neg c1, if_pos rfl, if_neg (fun q => c1 q.1)]
      exact nx
theorem ze_place {a al : Nat} (hN : 8 < N) (hR : zRt b r a μ) (hK : zMuOk K μ) (hK30 : K ≤ 30) (hp : p ≤ 200) (hal : al < 2 ^ 31) : zHC w b (mX6_placeToCatch N a (Int32.ofNat p) (Int32.ofNat al)) C r (fun x => (x, (zct μ al p (uH μ) 0).elim (-1) Int32.ofNat)) C r := by
  intro M
  have := hK.2.2.1
  exact ze_place2 (N := N) (w := w) (C := C) hR hK hK30 hp hal (uH μ) N 0 (by omega) (by omega) M
/-- the reference asks a class's parents -/
theorem zn_isOf7 (hT : zTy C M K F ρ α π) {ty : Nat} (hty : ty < K) : ∀ (n c fuel : Nat), c ≤ n → c < K → n + 1 < fuel → ∀ (C0 : zC) (r0 : zv_X), mX9_isOf_7 N fuel (b + 75) (Int32.ofNat ty) (Int32.ofNat c) (zc w b C0 M r0) = some (zc w b C0 M r0, if (α c).testBit ty = true then 1 else 0) := by
  have hK := hT.2.2.2.1
  have yes : ∀ (c fuel : Nat), c < K → 0 < fuel → c = ty → ∀ (C0 : zC) (r0 : zv_X), mX9_isOf_7 N fuel (b + 75) (Int32.ofNat ty) (Int32.ofNat c) (zc w b C0 M r0) = some (zc w b C0 M r0, if (α c).testBit ty = true then 1 else 0) := by
    intro c fuel hc hf e C0 r0
    obtain ⟨fuel, rfl⟩ : ∃ g, fuel = g + 1 := ⟨fuel - 1, by omega⟩
    subst e
    have hb : (α c).testBit c = true := by
      by_cases c0 : c = 0
      · rw [c0, hT.2.2.2.2.2.1]; rfl
      · rw [(hT.2.2.2.2.2.2.2 c (by omega) hc).2.2, Nat.testBit_or, Nat.testBit_two_pow_self, Bool.or_true]
    unfold mX9_isOf_7 mX9_isOf_27 mX9_isOf_42
    rw [if_neg (by rw [zi_neg1 (by omega)]; exact id), if_pos rfl, if_pos rfl, if_neg (by rw [zi_neg1 (by omega)]; exact id), if_pos hb, if_pos (Or.inr rfl)]
  intro n
  induction n with
  | zero =>
    intro c fuel h1 h2 hf C0 r0
    have hc0 : c = 0 := by omega
    by_cases e : c = ty
    · exact yes c fuel h2 (by omega) e C0 r0
    · obtain ⟨fuel, rfl⟩ : ∃ g, fuel = g + 2 := ⟨fuel - 2, by omega⟩
      subst hc0
      have hb : ¬ (α 0).testBit ty = true := by
        rw [hT.2.2.2.2.2.1, Nat.testBit_one_eq_true_iff_self_eq_zero]
        omega
      rw [mX9_isOf_7, if_neg (by rw [zi_neg1 (by omega)]; exact id), if_neg (by rw [zi_eq (by omega) (by omega)]; omega), zqg_75_2, Option.bind_some, zqa_76 (by omega), Option.bind_some, hT.2.2.2.2.1, mX9_isOf_7, if_pos rfl]
      unfold mX9_isOf_27 mX9_isOf_41 mX9_isOf_42
      rw [if_neg (fun q => by have := zi_neg1 (n := ty) (by omega); rw [← q] at this; simp at this), if_neg hb, if_pos (Or.inl rfl)]
  | succ n ih =>
    intro c fuel h1 h2 hf C0 r0
    by_cases e : c = ty
    · exact yes c fuel h2 (by omega) e C0 r0
    · by_cases c0 : c = 0
      · exact ih c fuel (by omega) h2 (by omega) C0 r0
      · obtain ⟨fuel, rfl⟩ : ∃ g, fuel = g + 1 := ⟨fuel - 1, by omega⟩
        obtain ⟨p1, p2, p3⟩ := hT.2.2.2.2.2.2.2 c (by omega) h2
        have e1 := ih (π c) fuel (by omega) (by omega) (by omega) C0 r0
        have hb : (α c).testBit ty = (α (π c)).testBit ty := by
          rw [p3, Nat.testBit_or, Nat.testBit_two_pow, decide_eq_false e, Bool.or_false]
        rw [mX9_isOf_7, if_neg (by rw [zi_neg1 (by omega)]; exact id), if_neg (by rw [zi_eq (by omega) (by omega)]; omega), zqg_75_2, Option.bind_some, zqa_76 (by omega), Option.bind_some, p2, e1, hb]
theorem zn_isOf (hN : 32 < N) (hT : zTy C M K F ρ α π) {ty t cl : Nat} (hty : ty < K) (ht : t < 201) (h31 : M.1 31 t = Int32.ofNat cl) (hcl : cl < K) : zHM w b (mX9_isOf N (b + 75) (Int32.ofNat t) (Int32.ofNat ty)) M (fun x => (x, if (α cl).testBit ty = true then 1 else 0)) M := by
  intro C0 r0
  have hK := hT.2.2.2.1
  unfold mX9_isOf mX9_isOf_0
  rw [zqg_75_31, Option.bind_some, zqa_98 ht, Option.bind_some, h31]
  exact zn_isOf7 hT hty cl cl N (Nat.le_refl _) hcl (by omega) C0 r0
theorem zn_h24 {K0 : Nat → Int32 → zv_X → Option zv_X} {f t cl : Nat} (hN : 32 < N) (hT : zTy C M K F ρ α π) (hM : zMt M m μ) (hm : m < 20) (hK : zMuOk K μ) (hf16 : f < 16) (h47 : M.1 100 47 = Int32.ofNat (f + 1)) (h41 : M.1 41 f = Int32.ofNat p) (hp : p ≤ 200) (ht : t < 201) (h31 : M.1 31 t = Int32.ofNat cl) (hcl : cl < K) :
    ∀ (n fuel j : Nat), j + n = uH μ → n < fuel → ∀ (C0 : zC) (r0 : zv_X), mX9_hurl_24 K0 N fuel (b + 75) (Int32.ofNat t) (Int32.ofNat f) (Int32.ofNat m) (Int32.ofNat j) (zc w b C0 M r0) = (zct μ (α cl) p n j).elim (K0 (b + 75) (Int32.ofNat t) (zc w b C0 (zJ M 100 47 (Int32.ofNat f)) r0)) fun q => some (zc w b C0 (zJ (zMP (zMD M f 0) f 0 3 (Int64.ofNat (t + 1))) 41 f (Int32.ofNat q)) r0) := by
  have h8 := hK.2.2.1
  have hK30 := hT.2.2.2.1
  have h11 := hM.2.2.1
  have h10 := hM.2.2.2.1
  intro n
  induction n with
  | zero =>
    intro fuel j hj hf C0 r0
    obtain ⟨fuel, rfl⟩ : ∃ g, fuel = g + 1 := ⟨fuel - 1, by omega⟩
    unfold mX9_hurl_24
    rw [zqg_75_11, Option.bind_some, zqa_82 hm, Option.bind_some, h11, if_pos (by rw [zi_le (by omega) (by omega)]; omega), zqg_75_47, Option.bind_some, h47, show (Int32.ofNat (f + 1) - 1 : Int32) = Int32.ofNat f from zi_sub (a := f + 1) (b := 1) (by omega), zqp_75_47, Option.bind_some]
    rfl
  | succ n ih =>
    intro fuel j hj hf C0 r0
    obtain ⟨fuel, rfl⟩ : ∃ g, fuel = g + 1 := ⟨fuel - 1, by omega⟩
    have e := ih fuel (j + 1) (by omega) (by omega) C0 r0
    have hc := hK.2.2.2.2.1 j (by omega)
    have nx : mX9_hurl_129 K0 (mX9_hurl_24 K0 N fuel) N (b + 75) (Int32.ofNat t) (Int32.ofNat f) (Int32.ofNat m) (Int32.ofNat j) (zc w b C0 M r0) = (zct μ (α cl) p n (j + 1)).elim (K0 (b + 75) (Int32.ofNat t) (zc w b C0 (zJ M 100 47 (Int32.ofNat f)) r0)) fun q => some (zc w b C0 (zJ (zMP (zMD M f 0) f 0 3 (Int64.ofNat (t + 1))) 41 f (Int32.ofNat q)) r0) := by
      unfold mX9_hurl_129
      rw [zi_lit, zi_add]
      exact e
    have i0 : (32 : Int32) * Int32.ofNat m + (4 : Int32) * Int32.ofNat j = Int32.ofNat (32 * m + 4 * j) := by
      show Int32.ofNat 32 * Int32.ofNat m + Int32.ofNat 4 * Int32.ofNat j = _
      rw [zi_mul, zi_mul, zi_add]
    have ar : ∀ (M1 : zM) i, i < 4 → M1.1 10 (32 * m + (4 * j + i)) = Int32.ofNat (uHs μ (4 * j + i)) → zm_aI (zc w b C0 M1 r0) (b + 81) (Int32.ofNat (32 * m + 4 * j) + Int32.ofNat i) = some (Int32.ofNat (uHs μ (4 * j + i))) := fun M1 i hi h => by
      rw [zi_add, zqa_81 (by omega), show 32 * m + 4 * j + i = 32 * m + (4 * j + i) by omega, h]
    have b0 := hK.2.2.2.1 (4 * j) (by omega)
    have b1 := hK.2.2.2.1 (4 * j + 1) (by omega)
    show _ = (if (uHs μ (4 * j) ≤ p ∧ p < uHs μ (4 * j + 1)) ∧ (α cl).testBit (uHs μ (4 * j + 3)) = true then some (uHs μ (4 * j + 2)) else zct μ (α cl) p n (j + 1)).elim _ _
    unfold mX9_hurl_24
    rw [zqg_75_11, Option.bind_some, zqa_82 hm, Option.bind_some, h11, if_neg (by rw [zi_le (by omega) (by omega)]; omega), zqg_75_10, Option.bind_some, i0, zqa_81 (by omega), Option.bind_some, h10 (4 * j) (by omega), zqg_75_41, Option.bind_some, zqa_106 hf16, Option.bind_some, h41]
    by_cases c0 : uHs μ (4 * j) ≤ p
    · rw [if_neg (by rw [zi_lt (by omega) (by omega)]; omega)]
      simp only [Option.bind_some, zqa_106 hf16, h41]
      rw [show ((1 : Int32)) = Int32.ofNat 1 from rfl, ar M 1 (by decide) (h10 (4 * j + 1) (by omega)), Option.bind_some]
      by_cases c1 : p < uHs μ (4 * j + 1)
      · rw [if_neg (by rw [zi_le (by omega) (by omega)]; omega)]
        have eo := zn_isOf (N := N) (w := w) (b := b) hN hT hc ht h31 hcl C0 r0
        rw [show ((3 : Int32)) = Int32.ofNat 3 from rfl, ar M 3 (by decide) (h10 (4 * j + 3) (by omega)), Option.bind_some, zqk_75, if_pos rfl, eo, Option.bind_some]
        by_cases c2 : (α cl).testBit (uHs μ (4 * j + 3)) = true
        · rw [if_pos c2, if_neg (show ¬ (1 : Int32) = 0 by decide), if_pos ⟨⟨c0, c1⟩, c2⟩, zqg_75_42, Option.bind_some, zqs_107 hf16, Option.bind_some, zqk_75, if_pos rfl]
          have ep := zn_push (N := N) (w := w) (b := b) (M := zMD M f 0) (f := f) (t := 0) hf16 (by unfold zMD; rw [zJ1, if_neg (by omega)]; exact h47) (by unfold zMD; rw [zJ1, if_pos ⟨rfl, rfl⟩]) (by decide) 3 (Int64.ofNat (t + 1)) C0 r0
          have et : (Int32.ofNat t).toInt64 + 1 = Int64.ofNat (t + 1) := by rw [zi_l64 (by omega)]; exact zl_add t 1
          rw [et]
          show ((mX9_pushValue N (b + 75) 3 (Int64.ofNat (t + 1)) (zc w b C0 (zMD M f 0) r0)).bind _) = _
          rw [ep, Option.bind_some]
          simp only [id, zqg_75_41, zqg_75_10, Option.bind_some]
          rw [show ((2 : Int32)) = Int32.ofNat 2 from rfl, ar (zMP (zMD M f 0) f 0 3 (Int64.ofNat (t + 1))) 2 (by decide) (by unfold zMP zMD; simp (disch := omega) only [zJ1, zK1, if_neg]; exact h10 (4 * j + 2) (by omega)), Option.bind_some, zqs_106 hf16, Option.bind_some]
          rfl
        · rw [if_neg c2, if_pos rfl, if_neg (fun q => c2 q.2)]
          exact nx
      · rw [if_pos (by rw [zi_le (by omega) (by omega)]; omega), if_neg (fun q => c1 q.1.2)]
        exact nx
    · rw [if_pos (by rw [zi_lt (by omega) (by omega)]; omega), if_neg (fun q => c0 q.1.1)]
      exact nx
end ZTH
