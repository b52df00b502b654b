/-! ===== the reference's stack, methods of both ===== -/
def zpk (kd : Nat → Nat) : Nat → Nat
  | 0 => 0
  | n + 1 => zpk kd n + kd n * 4 ^ n
def zRt (b : Nat) (r : zv_X) (a : Nat) (μ : zMu) : Prop := b + 113 ≤ a ∧ ∃ cf hf : Nat → Int32,
  r.1 a = some (.inr (6, [.ref (a + 1), .ref (a + 2), .int (Int32.ofNat (uNa μ)), .int (Int32.ofNat (zpk (uKd μ) (uNa μ))), .int (Int32.ofNat (uLo μ)), .int (Int32.ofNat (uSk μ)), .int (Int32.ofNat (uRs μ))])) ∧
  r.1 (a + 1) = some (.inl (2, uLen μ, .inl cf)) ∧ r.1 (a + 2) = some (.inl (0, 4 * uH μ, .inl hf)) ∧ (∀ i, i < uLen μ → cf i = (Int8.ofNat (uC μ i)).toInt32) ∧ ∀ i, i < 4 * uH μ → hf i = Int32.ofNat (uHs μ i)
def zMt (M : zM) (m : Nat) (μ : zMu) : Prop := M.1 18 m = Int32.ofNat (uLen μ) ∧ (∀ i, i < uLen μ → M.1 17 (200 * m + i) = Int32.ofNat (uC μ i)) ∧ M.1 11 m = Int32.ofNat (uH μ) ∧ (∀ i, i < 4 * uH μ → M.1 10 (32 * m + i) = Int32.ofNat (uHs μ i)) ∧
  M.1 12 m = Int32.ofNat (uNa μ) ∧ (∀ i, i < uNa μ → M.1 13 (4 * m + i) = Int32.ofNat (uKd μ i)) ∧ M.1 14 m = Int32.ofNat (uLo μ) ∧ M.1 15 m = Int32.ofNat (uSk μ) ∧ M.1 16 m = Int32.ofNat (uRs μ)
theorem zi_byte {c : Nat} (h : c < 256) : (Int8.ofNat c).toInt32 &&& Int32.ofNat 255 = Int32.ofNat c := by
  have : ∀ c, c < 256 → (Int8.ofNat c).toInt32 &&& Int32.ofNat 255 = Int32.ofNat c := by decide +kernel
  exact this c h
theorem zi_sg {c : Nat} (h : c < 256) : (Int8.ofNat c).toInt32 = Int32.ofInt (zsg c) := by
  have : ∀ c, c < 256 → (Int8.ofNat c).toInt32 = Int32.ofInt (zsg c) := by decide +kernel
  exact this c h
section ZOP
variable {N w b f t k p : Nat} {C : zC} {M : zM} {r : zv_X} {K : Nat} {μ : zMu} {a : Nat}
theorem zc_o {q : Nat} (h : b + 113 ≤ q) : (zc w b C M r).1 q = r.1 q := zc_out (Or.inr h)
theorem zn_pop (hf : f < 16) (hF : M.1 100 47 = Int32.ofNat (f + 1)) (ht : M.1 42 f = Int32.ofNat (t + 1)) (h12 : t < 12) : zHM w b (mX9_popValue N (b + 75)) M (fun x => (x, M.2 45 (12 * f + t))) (zMD M f t) := by
  intro C r
  unfold mX9_popValue mX9_popValue_0
  simp (disch := omega) only [zqg_75_47, zqg_75_42, zqg_75_45, Option.bind_some, hF, zi_lit, zi_sub, Nat.add_sub_cancel, zqa_107, zqs_107, ht, zI1, zI2, zL1, zL2, zL3, zV1, zV2, zV3, zJ1, zJ2, zK1, zK2, Nat.reduceEqDiff, and_true, true_and, and_false, false_and, and_self, reduceIte, zi_mul, zi_add, zqa_110]
  rfl
theorem zn_push (hf : f < 16) (hF : M.1 100 47 = Int32.ofNat (f + 1)) (ht : M.1 42 f = Int32.ofNat t) (h12 : t < 12) (tag : Int32) (v : Int64) : zHM w b (mX9_pushValue N (b + 75) tag v) M id (zMP M f t tag v) := by
  intro C r
  unfold mX9_pushValue mX9_pushValue_0
  simp (disch := omega) only [zqg_75_47, zqg_75_42, zqg_75_45, zqg_75_46, Option.bind_some, hF, zi_lit, zi_sub, Nat.add_sub_cancel, zqa_107, zqs_107, ht, zI1, zI2, zL1, zL2, zL3, zV1, zV2, zV3, zJ1, zJ2, zK1, zK2, Nat.reduceEqDiff, and_true, true_and, and_false, false_and, and_self, reduceIte, zi_mul, zi_add, zqs_110, zqs_111]
  rfl
theorem zn_peek (hf : f < 16) (hF : M.1 100 47 = Int32.ofNat (f + 1)) (ht : M.1 42 f = Int32.ofNat t) (h12 : t ≤ 12) (hk : k < t) : zHM w b (mX9_peek N (b + 75) (Int32.ofNat k)) M (fun x => (x, M.2 45 (12 * f + (t - 1 - k)))) M := by
  intro C r
  unfold mX9_peek mX9_peek_0
  simp (disch := omega) only [zqg_75_47, zqg_75_42, zqg_75_45, Option.bind_some, hF, zi_lit, zi_sub, Nat.add_sub_cancel, zqa_107, ht, zi_mul, zi_add, zqa_110]
  rw [show 12 * f + t - 1 - k = 12 * f + (t - 1 - k) by omega]
theorem zn_code (hm : k < 20) (hM : zMt M k μ) (hl : uLen μ ≤ 200) (hp : p < uLen μ) : zHM w b (mX9_code N (b + 75) (Int32.ofNat k) (Int32.ofNat p)) M (fun x => (x, Int32.ofNat (uC μ p))) M := by
  intro C r
  unfold mX9_code mX9_code_0
  simp (disch := omega) only [zqg_75_17, Option.bind_some, zi_lit, zi_mul, zi_add, zqa_88, hM.2.1 p hp]
/-- Routine.at -/
theorem ze_at (hR : zRt b r a μ) (hK : zMuOk K μ) (hp : p < uLen μ) : zHC w b (mX6_at N a (Int32.ofNat p)) C r (fun x => (x, Int32.ofNat (uC μ p))) C r := by
  intro M
  obtain ⟨ha, cf, hf, r1, r2, r3, r4, r5⟩ := hR
  have h1 : (zc w b C M r).1 a = _ := (zc_o ha).trans r1
  have h2 : (zc w b C M r).1 (a + 1) = _ := (zc_o (by omega)).trans r2
  unfold mX6_at mX6_at_0
  have e1 : zm_R (zc w b C M r) a 6 0 = some (a + 1) := by unfold zm_R; rw [zo_g h1]; rfl
  rw [e1, Option.bind_some, zo_aB (Or.inl rfl) h2 hp (by have := hK.1; omega), Option.bind_some, r4 p hp, zi_lit, zi_byte (hK.2.1 p hp)]
theorem ze_kR (hR : zRt b r a μ) : zm_k (zc w b C M r) a 6 = true := by
  obtain ⟨ha, cf, hf, r1, r2, r3, r4, r5⟩ := hR
  exact zo_k ((zc_o ha).trans r1)
theorem zi_pair {x y : Nat} (hx : x < 256) (hy : y < 256) : ((Int8.ofNat x).toInt32 <<< Int32.ofNat 8) ||| Int32.ofNat y = Int32.ofInt (zsg x * 256 + y) := by
  have h1 : ∀ x, x < 256 → (Int8.ofNat x).toInt32 <<< Int32.ofNat 8 = Int32.ofInt (zsg x * 256) := by decide +kernel
  have h2 : ∀ x, x < 256 → (Int32.ofInt (zsg x * 256)).toBitVec.toNat % 256 = 0 := by decide +kernel
  rw [h1 x hx]
  have h3 := h2 x hx
  apply Int32.toBitVec_inj.mp
  rw [Int32.toBitVec_or]
  apply BitVec.eq_of_toNat_eq
  have e1 : Int32.ofInt (zsg x * 256 + y) = Int32.ofInt (zsg x * 256) + Int32.ofNat y := by
    rw [Int32.ofInt_add]; rfl
  rw [e1, Int32.toBitVec_add, BitVec.toNat_or, BitVec.toNat_add]
  generalize hA : (Int32.ofInt (zsg x * 256)).toBitVec.toNat = A at *
  have hA2 : A < 2 ^ 32 := by rw [← hA]; exact BitVec.isLt _
  have hy2 : (Int32.ofNat y).toBitVec.toNat = y := by
    show (BitVec.ofNat 32 y).toNat = y
    rw [BitVec.toNat_ofNat]; omega
  rw [hy2]
  have e2 : A ||| y = A + y := by
    have := Nat.two_pow_add_eq_or_of_lt (i := 8) (b := y) (by omega) (A / 256)
    rw [show 2 ^ 8 * (A / 256) = A by omega] at this
    exact this.symm
  rw [e2]
  omega
theorem ze_pairAt (hR : zRt b r a μ) (hK : zMuOk K μ) (hp : p + 1 < uLen μ) : zHC w b (mX6_pairAt N a (Int32.ofNat p)) C r (fun x => (x, Int32.ofInt (zsg (uC μ p) * 256 + uC μ (p + 1)))) C r := by
  intro M
  obtain ⟨ha, cf, hf, r1, r2, r3, r4, r5⟩ := hR
  have h1 : (zc w b C M r).1 a = _ := (zc_o ha).trans r1
  have h2 : (zc w b C M r).1 (a + 1) = _ := (zc_o (by omega)).trans r2
  have e1 : zm_R (zc w b C M r) a 6 0 = some (a + 1) := by unfold zm_R; rw [zo_g h1]; rfl
  unfold mX6_pairAt mX6_pairAt_0
  have hl := hK.1
  simp only [e1, Option.bind_some, zi_lit, zi_add]
  rw [zo_aB (Or.inl rfl) h2 (show p < uLen μ by omega) (by omega), Option.bind_some, zo_aB (Or.inl rfl) h2 hp (by omega), Option.bind_some, r4 p (by omega), r4 (p + 1) hp, zi_byte (hK.2.1 _ hp), zi_31 (by decide), zi_pair (hK.2.1 _ (by omega)) (hK.2.1 _ hp)]
variable (hf : f < 16) (hR : zRt b r a μ) (hK : zMuOk K μ) (hr : C.2.2 (f + 100) 3 = .ref a) (hp : C.1 (f + 100) 4 = Int32.ofNat p)
theorem ze_opcode (hf : f < 16) (hR : zRt b r a μ) (hK : zMuOk K μ) (hr : C.2.2 (f + 100) 3 = .ref a) (hp : C.1 (f + 100) 4 = Int32.ofNat p) (hl : p < uLen μ) : zHC w b (mX1_opcode N (b + (3 * f + 27))) C r (fun x => (x, Int32.ofNat (uC μ p))) C r := by
  intro M
  unfold mX1_opcode mX1_opcode_0
  rw [zqgF_3 hf hr, Option.bind_some, zqgF_4 hf, Option.bind_some, hp, if_pos (ze_kR hR), ze_at hR hK hl M, Option.bind_some]
theorem ze_operand (hf : f < 16) (hR : zRt b r a μ) (hK : zMuOk K μ) (hr : C.2.2 (f + 100) 3 = .ref a) (hp : C.1 (f + 100) 4 = Int32.ofNat p) (hl : p + k < uLen μ) : zHC w b (mX1_operand N (b + (3 * f + 27)) (Int32.ofNat k)) C r (fun x => (x, Int32.ofNat (uC μ (p + k)))) C r := by
  intro M
  unfold mX1_operand mX1_operand_0
  rw [zqgF_3 hf hr, Option.bind_some, zqgF_4 hf, Option.bind_some, hp, if_pos (ze_kR hR), zi_add, ze_at hR hK hl M, Option.bind_some]
theorem ze_pair (hf : f < 16) (hR : zRt b r a μ) (hK : zMuOk K μ) (hr : C.2.2 (f + 100) 3 = .ref a) (hp : C.1 (f + 100) 4 = Int32.ofNat p) (hl : p + 2 < uLen μ) : zHC w b (mX1_pair N (b + (3 * f + 27))) C r (fun x => (x, Int32.ofInt (zsg (uC μ (p + 1)) * 256 + uC μ (p + 2)))) C r := by
  intro M
  unfold mX1_pair mX1_pair_0
  rw [zqgF_3 hf hr, Option.bind_some, zqgF_4 hf, Option.bind_some, hp, if_pos (ze_kR hR), zi_lit, zi_add, ze_pairAt hR hK hl M, Option.bind_some]
end ZOP
