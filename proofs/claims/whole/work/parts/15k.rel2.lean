/-! ===== more of frames: copies, swaps, locals ===== -/
theorem zJcomm {M : zM} {o k o' k' : Nat} {v u : Int32} (h : ¬ (o = o' ∧ k = k')) : zJ (zJ M o k v) o' k' u = zJ (zJ M o' k' u) o k v := Prod.ext (funext fun p => funext fun q => by
  show (if p = o' ∧ q = k' then u else if p = o ∧ q = k then v else M.1 p q) = if p = o ∧ q = k then v else if p = o' ∧ q = k' then u else M.1 p q
  by_cases e : p = o' ∧ q = k'
  · rw [if_pos e, if_neg (by omega), if_pos e]
  · rw [if_neg e]
    by_cases e2 : p = o ∧ q = k
    · rw [if_pos e2, if_pos e2]
    · rw [if_neg e2, if_neg e2, if_neg e]) rfl
section ZRM2
variable {D : Nat → Nat → Prop} {C : zC} {M : zM} {ra : Nat → Nat} {f t p m : Nat} {lt st : Nat → Nat}
theorem zFr.pushS (h : zFr D C M ra f t p m lt st) (h12 : t < 12) {tag : Nat} {v nu : Int64} {re : Int32} (hs : zSl D tag v nu re) (ht : 1 ≤ tag ∧ tag ≤ 3) : zFr D (zI (zI (zL C (f + 120) (16 + t) nu) (f + 140) (16 + t) re) (f + 100) 2 (Int32.ofNat (16 + (t + 1)))) (zMP M f t (Int32.ofNat tag) v) ra f (t + 1) p m lt (zset st t tag) := by
  obtain ⟨a1, a2, a3, a4, a5, a6, a7, a8, a9⟩ := h
  unfold zMP
  refine ⟨?_, ?_, by omega, ?_, ?_, ?_, ?_, fun k hk => ?_, fun k hk => ?_⟩
  · simp only [zI1, zI2, zL1, zL2, zL3, zV1, zV2, zV3, zJ1, zJ2, zK1, zK2, Nat.reduceEqDiff, and_true, true_and, and_false, false_and, and_self, reduceIte]
  · simp only [zI1, zI2, zL1, zL2, zL3, zV1, zV2, zV3, zJ1, zJ2, zK1, zK2, Nat.reduceEqDiff, and_true, true_and, and_false, false_and, and_self, reduceIte]
  · simp (disch := omega) only [zI1, zL1, if_neg]; exact a4
  · simp (disch := omega) only [zJ1, zK1, if_neg]; exact a5
  · exact a6
  · simp (disch := omega) only [zJ1, zK1, if_neg]; exact a7
  · simp (disch := omega) only [zI1, zI2, zL1, zL2, zJ1, zJ2, zK1, zK2, if_neg]
    exact a8 k hk
  · by_cases c : k = t
    · subst c
      simp (disch := omega) only [zI1, zI2, zL1, zL2, zJ1, zJ2, zK1, zK2, zset, if_neg, if_pos, and_self, if_true]
      exact ⟨trivial, ht.1, ht.2, hs⟩
    · simp (disch := omega) only [zI1, zI2, zL1, zL2, zJ1, zJ2, zK1, zK2, zset, if_neg]
      exact a9 k (by omega)
/-- the two on top change places -/
theorem zFr.swap (h : zFr D C M ra f (t + 2) p m lt st) : zFr D (zSW C f (t + 2)) (zJ (zK (zJ (zK M 45 (12 * f + (t + 1)) (M.2 45 (12 * f + t))) 46 (12 * f + (t + 1)) (M.1 46 (12 * f + t))) 45 (12 * f + t) (M.2 45 (12 * f + (t + 1)))) 46 (12 * f + t) (M.1 46 (12 * f + (t + 1)))) ra f (t + 2) p m lt (zset (zset st (t + 1) (st t)) t (st (t + 1))) := by
  obtain ⟨a1, a2, a3, a4, a5, a6, a7, a8, a9⟩ := h
  have b1 := a9 (t + 1) (by omega)
  have b0 := a9 t (by omega)
  unfold zSW zCS
  rw [show 14 + (t + 2) = 16 + t by omega, show 15 + (t + 2) = 16 + (t + 1) by omega]
  refine ⟨?_, ?_, by omega, ?_, ?_, ?_, ?_, fun k hk => ?_, fun k hk => ?_⟩
  · simp (disch := omega) only [zI1, zL1, if_neg]; exact a1
  · simp (disch := omega) only [zJ1, zK1, if_neg]; exact a2
  · simp (disch := omega) only [zI1, zL1, if_neg]; exact a4
  · simp (disch := omega) only [zJ1, zK1, if_neg]; exact a5
  · exact a6
  · simp (disch := omega) only [zJ1, zK1, if_neg]; exact a7
  · simp (disch := omega) only [zI1, zI2, zL1, zL2, zJ1, zJ2, zK1, zK2, if_neg]
    exact a8 k hk
  · by_cases c : k = t
    · subst c
      simp (disch := omega) only [zI1, zI2, zL1, zL2, zJ1, zJ2, zK1, zK2, zset, if_neg, if_pos, and_self, if_true]
      exact b1
    · by_cases c2 : k = t + 1
      · subst c2
        simp (disch := omega) only [zI1, zI2, zL1, zL2, zJ1, zJ2, zK1, zK2, zset, if_neg, if_pos, and_self, if_true]
        exact b0
      · simp (disch := omega) only [zI1, zI2, zL1, zL2, zJ1, zJ2, zK1, zK2, zset, if_neg]
        exact a9 k (by omega)
/-- a local that is an int changes -/
theorem zFr.incL (h : zFr D C M ra f t p m lt st) {a : Nat} (ha : a < 16) (hl : lt a = 1) (v : Int32) : zFr D (zL C (f + 120) a v.toInt64) (zK M 43 (16 * f + a) v.toInt64) ra f t p m lt st := by
  obtain ⟨a1, a2, a3, a4, a5, a6, a7, a8, a9⟩ := h
  have b0 := a8 a ha
  refine ⟨a1, a2, a3, a4, a5, a6, a7, fun k hk => ?_, fun k hk => ?_⟩
  · by_cases c : k = a
    · subst c
      simp (disch := omega) only [zL1, zL2, zK1, zK2, if_pos, and_self, if_true]
      refine ⟨b0.1, b0.2.1, ?_⟩
      rw [hl] at b0 ⊢
      have := b0.2.2.num (Or.inl rfl)
      exact Or.inr ⟨by decide, this.2, fun _ => rfl, fun _ => by rw [Int32.toInt32_toInt64]⟩
    · simp (disch := omega) only [zL1, zL2, zK1, zK2, if_neg]; exact a8 k hk
  · simp (disch := omega) only [zL1, zL2, zK1, zK2, if_neg]; exact a9 k hk
end ZRM2
