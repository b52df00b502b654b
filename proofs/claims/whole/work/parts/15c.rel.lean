/-! ===== slots and frames: class against reference ===== -/
def zRf (D : Nat → Nat → Prop) (re : Int32) (v : Int64) : Prop := (re = 0 ∧ v = 0) ∨ ∃ h t, D h t ∧ re = Int32.ofNat h ∧ v = Int64.ofNat (t + 1)
/-- a slot: tag and value there, number and handle here -/
def zSl (D : Nat → Nat → Prop) (tag : Nat) (v nu : Int64) (re : Int32) : Prop := (tag = 3 ∧ zRf D re v) ∨ (tag ≠ 3 ∧ re = 0 ∧ (tag ≠ 0 → nu = v) ∧ (tag = 1 → v = v.toInt32.toInt64))
/-- frame f: t on its stack, place p, method m, tags of locals and stack -/
def zFr (D : Nat → Nat → Prop) (C : zC) (M : zM) (ra : Nat → Nat) (f t p m : Nat) (lt st : Nat → Nat) : Prop :=
  C.1 (f + 100) 2 = Int32.ofNat (16 + t) ∧ M.1 42 f = Int32.ofNat t ∧ t ≤ 12 ∧ C.1 (f + 100) 4 = Int32.ofNat p ∧ M.1 41 f = Int32.ofNat p ∧ C.2.2 (f + 100) 3 = .ref (ra m) ∧ M.1 40 f = Int32.ofNat m ∧
  (∀ k, k < 16 → M.1 44 (16 * f + k) = Int32.ofNat (lt k) ∧ lt k ≤ 3 ∧ zSl D (lt k) (M.2 43 (16 * f + k)) (C.2.1 (f + 120) k) (C.1 (f + 140) k)) ∧
  ∀ k, k < t → M.1 46 (12 * f + k) = Int32.ofNat (st k) ∧ 1 ≤ st k ∧ st k ≤ 3 ∧ zSl D (st k) (M.2 45 (12 * f + k)) (C.2.1 (f + 120) (16 + k)) (C.1 (f + 140) (16 + k))
/-- kinds of a stack, the top first -/
def zrv (st : Nat → Nat) : Nat → List Nat
  | 0 => []
  | n + 1 => st n :: zrv st n
theorem zrv_len (st : Nat → Nat) : ∀ n, (zrv st n).length = n
  | 0 => rfl
  | n + 1 => by show (zrv st n).length + 1 = n + 1; rw [zrv_len st n]
theorem zrv_set (st : Nat → Nat) (a k : Nat) : ∀ n, n ≤ a → zrv (zset st a k) n = zrv st n
  | 0, _ => rfl
  | n + 1, h => by
    show zset st a k n :: zrv (zset st a k) n = st n :: zrv st n
    rw [zrv_set st a k n (by omega)]
    unfold zset
    rw [if_neg (by omega)]
theorem zrv_push (st : Nat → Nat) (t k : Nat) : zrv (zset st t k) (t + 1) = k :: zrv st t := by
  show zset st t k t :: zrv (zset st t k) t = k :: zrv st t
  rw [zrv_set st t k t (Nat.le_refl t)]
  unfold zset
  rw [if_pos rfl]
theorem zrv_cons {st : Nat → Nat} {t k : Nat} {l : List Nat} (h : zrv st t = k :: l) : ∃ t', t = t' + 1 ∧ st t' = k ∧ zrv st t' = l := by
  cases t with
  | zero => cases h
  | succ t' => exact ⟨t', rfl, (List.cons.inj h).1, (List.cons.inj h).2⟩
section ZRL
variable {D : Nat → Nat → Prop} {C : zC} {M : zM} {ra : Nat → Nat} {f t p m : Nat} {lt st : Nat → Nat}
theorem zSl.num {tag : Nat} {v nu : Int64} {re : Int32} (h : zSl D tag v nu re) (ht : tag = 1 ∨ tag = 2) : nu = v ∧ re = 0 := by
  rcases h with h | h
  · omega
  · exact ⟨h.2.2.1 (by omega), h.2.1⟩
theorem zSl.int {v nu : Int64} {re : Int32} (h : zSl D 1 v nu re) : v = v.toInt32.toInt64 := by
  rcases h with h | h
  · omega
  · exact h.2.2.2 rfl
theorem zSl.ref {v nu : Int64} {re : Int32} (h : zSl D 3 v nu re) : zRf D re v := by
  rcases h with h | h
  · exact h.2
  · exact absurd rfl h.1
theorem zSl.mk1 (v : Int32) : zSl D 1 v.toInt64 v.toInt64 0 := Or.inr ⟨by decide, rfl, fun _ => rfl, fun _ => by rw [Int32.toInt32_toInt64]⟩
theorem zSl.mk2 (v : Int64) : zSl D 2 v v 0 := Or.inr ⟨by decide, rfl, fun _ => rfl, fun h => absurd h (by decide)⟩
theorem zSl.mk3 {v nu : Int64} {re : Int32} (h : zRf D re v) : zSl D 3 v nu re := Or.inl ⟨rfl, h⟩
/-- a push there -/
def zMP (M : zM) (f t : Nat) (tag : Int32) (v : Int64) : zM := zJ (zJ (zK M 45 (12 * f + t) v) 46 (12 * f + t) tag) 42 f (Int32.ofNat (t + 1))
def zMD (M : zM) (f t : Nat) : zM := zJ M 42 f (Int32.ofNat t)
/-- a number is pushed -/
theorem zFr.pushN (h : zFr D C M ra f t p m lt st) (h12 : t < 12) {tag : Nat} {v : Int64} (hs : zSl D tag v v 0) (ht : tag = 1 ∨ tag = 2) : zFr D (zPN C f t v) (zMP M f t (Int32.ofNat tag) v) ra f (t + 1) p m lt (zset st t tag) := by
  obtain ⟨a1, a2, a3, a4, a5, a6, a7, a8, a9⟩ := h
  unfold zPN zSN zMP
  refine ⟨?_, ?_, by omega, ?_, ?_, ?_, ?_, fun k hk => ?_, fun k hk => ?_⟩
  · simp only [zI1, zI2, zL1, zL2, zL3, zV1, zV2, zV3, zJ1, zJ2, zK1, zK2, Nat.reduceEqDiff, and_true, true_and, and_false, false_and, and_self, reduceIte]
  · simp only [zI1, zI2, zL1, zL2, zL3, zV1, zV2, zV3, zJ1, zJ2, zK1, zK2, Nat.reduceEqDiff, and_true, true_and, and_false, false_and, and_self, reduceIte]
  · simp (disch := omega) only [zI1, zL1, if_neg]; exact a4
  · simp (disch := omega) only [zJ1, zK1, if_neg]; exact a5
  · exact a6
  · simp (disch := omega) only [zJ1, zK1, if_neg]; exact a7
  · simp (disch := omega) only [zI1, zI2, zL1, zL2, zJ1, zJ2, zK1, zK2, if_neg]
    exact a8 k hk
  · by_cases c : k = t
    · subst c
      simp (disch := omega) only [zI1, zI2, zL1, zL2, zJ1, zJ2, zK1, zK2, zset, if_neg, if_pos, and_self, if_true]
      exact ⟨trivial, by omega, by omega, hs⟩
    · simp (disch := omega) only [zI1, zI2, zL1, zL2, zJ1, zJ2, zK1, zK2, zset, if_neg]
      exact a9 k (by omega)
/-- a reference is pushed -/
theorem zFr.pushR (h : zFr D C M ra f t p m lt st) (h12 : t < 12) {v : Int64} {re : Int32} (hs : zRf D re v) : zFr D (zPR C f t re) (zMP M f t (Int32.ofNat 3) v) ra f (t + 1) p m lt (zset st t 3) := by
  obtain ⟨a1, a2, a3, a4, a5, a6, a7, a8, a9⟩ := h
  unfold zPR zMP
  refine ⟨?_, ?_, by omega, ?_, ?_, ?_, ?_, fun k hk => ?_, fun k hk => ?_⟩
  · simp only [zI1, zI2, zL1, zL2, zL3, zV1, zV2, zV3, zJ1, zJ2, zK1, zK2, Nat.reduceEqDiff, and_true, true_and, and_false, false_and, and_self, reduceIte]
  · simp only [zI1, zI2, zL1, zL2, zL3, zV1, zV2, zV3, zJ1, zJ2, zK1, zK2, Nat.reduceEqDiff, and_true, true_and, and_false, false_and, and_self, reduceIte]
  · simp (disch := omega) only [zI1, zL1, if_neg]; exact a4
  · simp (disch := omega) only [zJ1, zK1, if_neg]; exact a5
  · exact a6
  · simp (disch := omega) only [zJ1, zK1, if_neg]; exact a7
  · simp (disch := omega) only [zI1, zI2, zJ1, zJ2, zK1, zK2, if_neg]
    exact a8 k hk
  · by_cases c : k = t
    · subst c
      simp (disch := omega) only [zI1, zI2, zJ1, zJ2, zK1, zK2, zset, if_neg, if_pos, and_self, if_true]
      exact ⟨trivial, by omega, by omega, zSl.mk3 hs⟩
    · simp (disch := omega) only [zI1, zI2, zJ1, zJ2, zK1, zK2, zset, if_neg]
      exact a9 k (by omega)
/-- some are dropped -/
theorem zFr.drop (h : zFr D C M ra f t p m lt st) {t' : Nat} (ht : t' ≤ t) : zFr D (zI C (f + 100) 2 (Int32.ofNat (16 + t'))) (zMD M f t') ra f t' p m lt st := by
  obtain ⟨a1, a2, a3, a4, a5, a6, a7, a8, a9⟩ := h
  unfold zMD
  refine ⟨?_, ?_, by omega, ?_, ?_, a6, ?_, fun k hk => ?_, fun k hk => ?_⟩
  · simp only [zI1, zI2, zL1, zL2, zL3, zV1, zV2, zV3, zJ1, zJ2, zK1, zK2, Nat.reduceEqDiff, and_true, true_and, and_false, false_and, and_self, reduceIte]
  · simp only [zI1, zI2, zL1, zL2, zL3, zV1, zV2, zV3, zJ1, zJ2, zK1, zK2, Nat.reduceEqDiff, and_true, true_and, and_false, false_and, and_self, reduceIte]
  · simp (disch := omega) only [zI1, if_neg]; exact a4
  · simp (disch := omega) only [zJ1, if_neg]; exact a5
  · simp (disch := omega) only [zJ1, if_neg]; exact a7
  · simp (disch := omega) only [zI1, zI2, zJ1, zJ2, if_neg]; exact a8 k hk
  · simp (disch := omega) only [zI1, zI2, zJ1, zJ2, if_neg]; exact a9 k (by omega)
/-- the place moves -/
theorem zFr.go (h : zFr D C M ra f t p m lt st) (p' : Nat) : zFr D (zI C (f + 100) 4 (Int32.ofNat p')) (zJ M 41 f (Int32.ofNat p')) ra f t p' m lt st := by
  obtain ⟨a1, a2, a3, a4, a5, a6, a7, a8, a9⟩ := h
  refine ⟨?_, ?_, a3, ?_, ?_, a6, ?_, fun k hk => ?_, fun k hk => ?_⟩
  · simp (disch := omega) only [zI1, if_neg]; exact a1
  · simp (disch := omega) only [zJ1, if_neg]; exact a2
  · simp only [zI1, zI2, zL1, zL2, zL3, zV1, zV2, zV3, zJ1, zJ2, zK1, zK2, Nat.reduceEqDiff, and_true, true_and, and_false, false_and, and_self, reduceIte]
  · simp only [zI1, zI2, zL1, zL2, zL3, zV1, zV2, zV3, zJ1, zJ2, zK1, zK2, Nat.reduceEqDiff, and_true, true_and, and_false, false_and, and_self, reduceIte]
  · simp (disch := omega) only [zJ1, if_neg]; exact a7
  · simp (disch := omega) only [zI1, zI2, zJ1, zJ2, if_neg]; exact a8 k hk
  · simp (disch := omega) only [zI1, zI2, zJ1, zJ2, if_neg]; exact a9 k hk
/-- a local takes what a slot has -/
theorem zFr.setL (h : zFr D C M ra f t p m lt st) {a tag : Nat} {v nu : Int64} {re : Int32} (ha : a < 16) (ht : tag ≤ 3) (hs : zSl D tag v nu re) : zFr D (zI (zL C (f + 120) a nu) (f + 140) a re) (zK (zJ M 44 (16 * f + a) (Int32.ofNat tag)) 43 (16 * f + a) v) ra f t p m (zset lt a tag) st := by
  obtain ⟨a1, a2, a3, a4, a5, a6, a7, a8, a9⟩ := h
  refine ⟨?_, ?_, a3, ?_, ?_, a6, ?_, fun k hk => ?_, fun k hk => ?_⟩
  · simp (disch := omega) only [zI1, zL1, if_neg]; exact a1
  · simp (disch := omega) only [zJ1, zK1, if_neg]; exact a2
  · simp (disch := omega) only [zI1, zL1, if_neg]; exact a4
  · simp (disch := omega) only [zJ1, zK1, if_neg]; exact a5
  · simp (disch := omega) only [zJ1, zK1, if_neg]; exact a7
  · by_cases c : k = a
    · subst c
      simp (disch := omega) only [zI1, zI2, zL1, zL2, zJ1, zJ2, zK1, zK2, zset, if_neg, if_pos, and_self, if_true]
      exact ⟨trivial, ht, hs⟩
    · simp (disch := omega) only [zI1, zI2, zL1, zL2, zJ1, zJ2, zK1, zK2, zset, if_neg]; exact a8 k hk
  · simp (disch := omega) only [zI1, zI2, zL1, zL2, zJ1, zJ2, zK1, zK2, if_neg]; exact a9 k hk
end ZRL
