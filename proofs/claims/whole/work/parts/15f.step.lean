/-! ===== a step of both: what comes first ===== -/
theorem zk_length : ∀ op, op < 256 → pX9_length (Int32.ofNat op) = some (Int32.ofNat (zsh op).1) := by decide +kernel
theorem zk_len3 : ∀ op, op < 256 → (zsh op).1 ≤ 3 := by decide +kernel
theorem zJJ {M : zM} {o k : Nat} {v u : Int32} : zJ (zJ M o k v) o k u = zJ M o k u := Prod.ext (funext fun p => funext fun q => by
  show (if p = o ∧ q = k then u else if p = o ∧ q = k then v else M.1 p q) = if p = o ∧ q = k then u else M.1 p q
  by_cases h : p = o ∧ q = k
  · rw [if_pos h, if_pos h]
  · rw [if_neg h, if_neg h, if_neg h]) rfl
theorem zJsame {M : zM} {o k : Nat} {v : Int32} (h : M.1 o k = v) : zJ M o k v = M := Prod.ext (funext fun p => funext fun q => by
  show (if p = o ∧ q = k then v else M.1 p q) = M.1 p q
  by_cases e : p = o ∧ q = k
  · rw [if_pos e, e.1, e.2, h]
  · rw [if_neg e]) rfl
theorem zMDD {M : zM} {f t t' : Nat} : zMD (zMD M f t) f t' = zMD M f t' := zJJ
/-- the frame under way of both -/
def zCur (b K : Nat) (D : Nat → Nat → Prop) (C : zC) (M : zM) (r : zv_X) (ra : Nat → Nat) (f t p m : Nat) (lt st : Nat → Nat) (μ : zMu) : Prop :=
  f < 16 ∧ C.2.2 15 5 = .ref (b + (3 * f + 27)) ∧ M.1 100 47 = Int32.ofNat (f + 1) ∧ M.1 100 49 = 0 ∧ M.1 100 54 = 0 ∧ zFr D C M ra f t p m lt st ∧ m < 20 ∧ zRt b r (ra m) μ ∧ zMt M m μ ∧ zMuOk K μ ∧ 0 < (zsh (uC μ p)).1 ∧ p + (zsh (uC μ p)).1 ≤ uLen μ
section ZSP
variable {N w b K f t p m : Nat} {D : Nat → Nat → Prop} {C : zC} {M : zM} {r : zv_X} {ra lt st : Nat → Nat} {μ : zMu}
/-- the reference's step up to its switch -/
theorem zn_step (h : zCur b K D C M r ra f t p m lt st μ) {op n x y : Nat} (hop : uC μ p = op) (hn : (zsh op).1 = n) (hx : x = if n ≤ 1 then 0 else uC μ (p + 1)) (hy : y = if n ≤ 2 then 0 else uC μ (p + 2)) (C0 : zC) (r0 : zv_X) :
    mX9_step N (b + 75) (zc w b C0 M r0) = mX9_step_74 N (b + 75) (Int32.ofNat f) (Int32.ofNat m) (Int32.ofNat p) (Int32.ofNat op) (Int32.ofNat n) (Int32.ofNat x) (Int32.ofNat y) (zc w b C0 M r0) := by
  obtain ⟨h1, h2, h3, h4, h5, ⟨a1, a2, a3, a4, a5, a6, a7, a8, a9⟩, h7, h8, h9, h10, h11, h12⟩ := h
  have hl := h10.1
  have hb := h10.2.1 p (by omega)
  rw [hop] at h11 h12 hb
  rw [hn] at h11 h12
  have e1 := zn_code (N := N) (w := w) (b := b) h7 h9 hl (show p < uLen μ by omega) C0 r0
  rw [hop] at e1
  unfold mX9_step mX9_step_0
  simp (disch := omega) only [zqg_75_47, zqg_75_40, zqg_75_41, zqk_75, Option.bind_some, h3, zi_lit, zi_sub, Nat.add_sub_cancel, zqa_105, zqa_106, a5, a7, if_true, e1, qX9_length, zk_length op hb, Option.map_some, hn, zi_le]
  unfold mX9_step_54
  by_cases c1 : n ≤ 1
  · simp (disch := omega) only [if_pos c1, zi_lit, zi_le, if_pos]
    rw [hx, hy, if_pos c1, if_pos (by omega)]
  · have e2 := zn_code (N := N) (w := w) (b := b) h7 h9 hl (show p + 1 < uLen μ by omega) C0 r0
    simp (disch := omega) only [if_neg c1, zi_lit, zi_add, zi_le, e2, Option.bind_some, zqk_75, if_true]
    by_cases c2 : n ≤ 2
    · rw [if_pos c2, hx, hy, if_neg c1, if_pos c2]
    · have e3 := zn_code (N := N) (w := w) (b := b) h7 h9 hl (show p + 2 < uLen μ by omega) C0 r0
      simp (disch := omega) only [if_neg c2, zi_add, e3, Option.bind_some, zqk_75, if_true]
      rw [hx, hy, if_neg c1, if_neg c2]
/-- the reference's step behind its switch: the place moves -/
theorem zn_on {M : zM} {f p n : Nat} (hf : f < 16) (h4 : M.1 100 49 = 0) (h5 : M.1 100 54 = 0) : zHM w b (mX9_step_327 N (b + 75) (Int32.ofNat f) (Int32.ofNat p) (Int32.ofNat n)) M id (zJ M 41 f (Int32.ofNat (p + n))) := by
  intro C r
  unfold mX9_step_327 mX9_step_351
  simp (disch := omega) only [zqg_75_49, zqg_75_54, zqp_75_54, zqg_75_41, zqs_106, Option.bind_some, h4, h5, if_true, zi_add]
  rw [zJsame (M := zJ M 41 f (Int32.ofNat (p + n))) (by simp only [zI1, zI2, zL1, zL2, zL3, zV1, zV2, zV3, zJ1, zJ2, zK1, zK2, Nat.reduceEqDiff, and_true, true_and, and_false, false_and, and_self, reduceIte]; exact h5)]
  rfl
/-- the class's step up to its switch -/
theorem ze_step0 (h : zCur b K D C M r ra f t p m lt st μ) {op : Nat} (hop : uC μ p = op) (M0 : zM) : mX1_opcode N (b + (3 * f + 27)) (zc w b C M0 r) = some (zc w b C M0 r, Int32.ofNat op) := by
  obtain ⟨h1, h2, h3, h4, h5, ⟨a1, a2, a3, a4, a5, a6, a7, a8, a9⟩, h7, h8, h9, h10, h11, h12⟩ := h
  have := ze_opcode (N := N) (w := w) (b := b) (C := C) (r := r) h1 h8 h10 a6 a4 (by omega) M0
  rw [hop] at this
  exact this
end ZSP
