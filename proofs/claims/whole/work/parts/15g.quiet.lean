/-! ===== steps that touch nothing but the frame under way ===== -/
def zTop (f : Nat) (C C' : zC) : Prop := (∀ o k, o ≠ f + 100 → o ≠ f + 140 → C'.1 o k = C.1 o k) ∧ (∀ o k, o ≠ f + 120 → C'.2.1 o k = C.2.1 o k) ∧ C'.2.2 = C.2.2
def zTopM (f : Nat) (M M' : zM) : Prop := (∀ o k, ¬ (k = f ∧ (o = 41 ∨ o = 42)) → ¬ (o = 44 ∧ 16 * f ≤ k ∧ k < 16 * f + 16) → ¬ (o = 46 ∧ 12 * f ≤ k ∧ k < 12 * f + 12) → M'.1 o k = M.1 o k) ∧ ∀ o k, ¬ (o = 43 ∧ 16 * f ≤ k ∧ k < 16 * f + 16) → ¬ (o = 45 ∧ 12 * f ≤ k ∧ k < 12 * f + 12) → M'.2 o k = M.2 o k
section ZQT
variable {f t : Nat} {C C1 : zC} {M M1 : zM}
theorem zTop.rf : zTop f C C := ⟨fun _ _ _ _ => rfl, fun _ _ _ => rfl, rfl⟩
theorem zTop.i2 (h : zTop f C C1) {k : Nat} {v : Int32} : zTop f C (zI C1 (f + 100) k v) := ⟨fun o q h1 h2 => by rw [zI1, if_neg (by omega)]; exact h.1 o q h1 h2, h.2.1, h.2.2⟩
theorem zTop.i4 (h : zTop f C C1) {k : Nat} {v : Int32} : zTop f C (zI C1 (f + 140) k v) := ⟨fun o q h1 h2 => by rw [zI1, if_neg (by omega)]; exact h.1 o q h1 h2, h.2.1, h.2.2⟩
theorem zTop.l (h : zTop f C C1) {k : Nat} {v : Int64} : zTop f C (zL C1 (f + 120) k v) := ⟨h.1, fun o q h1 => by rw [zL2, if_neg (by omega)]; exact h.2.1 o q h1, h.2.2⟩
theorem zTop.pn (h : zTop f C C1) {v : Int64} : zTop f C (zPN C1 f t v) := by unfold zPN zSN; exact h.l.i4.i2
theorem zTop.pr (h : zTop f C C1) {v : Int32} : zTop f C (zPR C1 f t v) := by unfold zPR; exact h.i4.i2
theorem zTopM.rf : zTopM f M M := ⟨fun _ _ _ _ _ => rfl, fun _ _ _ _ => rfl⟩
theorem zTopM.d (h : zTopM f M M1) : zTopM f M (zMD M1 f t) := ⟨fun o k h1 h2 h3 => by unfold zMD; rw [zJ1, if_neg (by omega)]; exact h.1 o k h1 h2 h3, h.2⟩
theorem zTopM.go (h : zTopM f M M1) {v : Int32} : zTopM f M (zJ M1 41 f v) := ⟨fun o k h1 h2 h3 => by rw [zJ1, if_neg (by omega)]; exact h.1 o k h1 h2 h3, h.2⟩
theorem zTopM.p (h : zTopM f M M1) (h12 : t < 12) {tag : Int32} {v : Int64} : zTopM f M (zMP M1 f t tag v) := by
  unfold zMP
  exact ⟨fun o k h1 h2 h3 => by rw [zJ1, if_neg (by omega), zJ1, if_neg (by omega)]; exact h.1 o k h1 h2 h3, fun o k h1 h2 => by rw [zJ2, zJ2, zK2, if_neg (by omega)]; exact h.2 o k h1 h2⟩
theorem zTopM.sl (h : zTopM f M M1) {a : Nat} (ha : a < 16) {tag : Int32} {v : Int64} : zTopM f M (zK (zJ M1 44 (16 * f + a) tag) 43 (16 * f + a) v) :=
  ⟨fun o k h1 h2 h3 => by rw [zK1, zJ1, if_neg (by omega)]; exact h.1 o k h1 h2 h3, fun o k h1 h2 => by rw [zK2, if_neg (by omega), zJ2]; exact h.2 o k h1 h2⟩
/-- what a stack must hold for an instruction -/
theorem zpop0 {st : Nat → Nat} {t : Nat} {s : List Nat} (h : zpop [] (zrv st t) = some s) : s = zrv st t := (Option.some.inj h).symm
theorem zpopc {st : Nat → Nat} {t i : Nat} {is s : List Nat} (h : zpop (i :: is) (zrv st t) = some s) : ∃ t', t = t' + 1 ∧ st t' = i ∧ zpop is (zrv st t') = some s := by
  cases t with
  | zero => cases h
  | succ t' =>
    have h' : (if st t' = i then zpop is (zrv st t') else none) = some s := h
    obtain ⟨c, h2⟩ := zg h'
    exact ⟨t', rfl, c, h2⟩
end ZQT
def zQ (w b N : Nat) (D : Nat → Nat → Prop) (C : zC) (M : zM) (r : zv_X) (ra : Nat → Nat) (f m t' p' : Nat) (lt' st' : Nat → Nat) : Prop :=
  ∃ C' M', zHC w b (mX4_step N (b + 15)) C r (fun x => (x, 0)) C' r ∧ zHM w b (mX9_step N (b + 75)) M id M' ∧ zFr D C' M' ra f t' p' m lt' st' ∧ zTop f C C' ∧ zTopM f M M'
section ZQP
variable {f t : Nat} {C : zC}
theorem zp4_I2 {v : Int32} : (zI C (f + 100) 2 v).1 (f + 100) 4 = C.1 (f + 100) 4 := by simp (disch := omega) only [zI1, if_neg]
theorem zp4_PN {v : Int64} : (zPN C f t v).1 (f + 100) 4 = C.1 (f + 100) 4 := by unfold zPN zSN; simp (disch := omega) only [zI1, zL1, if_neg]
theorem zp4_PR {v : Int32} : (zPR C f t v).1 (f + 100) 4 = C.1 (f + 100) 4 := by unfold zPR; simp (disch := omega) only [zI1, if_neg]
theorem zp4_CS {i g j : Nat} : (zCS C f i g j).1 (f + 100) 4 = C.1 (f + 100) 4 := by unfold zCS; simp (disch := omega) only [zI1, zL1, if_neg]
theorem zp2_I2 {v : Int32} : (zI C (f + 100) 2 v).1 (f + 100) 2 = v := by simp only [zI1, zI2, zL1, zL2, zL3, zV1, zV2, zV3, zJ1, zJ2, zK1, zK2, Nat.reduceEqDiff, and_true, true_and, and_false, false_and, and_self, reduceIte]
theorem zp2_PN {v : Int64} : (zPN C f t v).1 (f + 100) 2 = Int32.ofNat (16 + (t + 1)) := by unfold zPN zSN; simp only [zI1, zI2, zL1, zL2, zL3, zV1, zV2, zV3, zJ1, zJ2, zK1, zK2, Nat.reduceEqDiff, and_true, true_and, and_false, false_and, and_self, reduceIte]
end ZQP
