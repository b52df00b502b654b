/-! ===== what things hold is written ===== -/
def zSE (C : zC) (a so k : Nat) (v : Int64) : zC :=
  if so = 4 then zI C 17 (a + k / 4) (zsb 8 (C.1 17 (a + k / 4)) (k % 4 * 8) (v.toInt32 &&& 1))
  else if so = 8 then zI C 17 (a + k / 4) (zsb 8 (C.1 17 (a + k / 4)) (k % 4 * 8) v.toInt32)
  else if so = 5 ∨ so = 9 then zI C 17 (a + k / 2) (zsb 16 (C.1 17 (a + k / 2)) (k % 2 * 16) v.toInt32)
  else if so = 11 then zI (zI C 17 (a + 2 * k) (Int64.toInt32 (v >>> (Int32.toInt64 (32 : Int32) &&& 63)))) 17 (a + 2 * k + 1) v.toInt32
  else zI C 17 (a + k) v.toInt32
def zmv (so : Nat) (v : Int64) : Int64 := if so = 4 then v &&& 1 else if so = 8 then Int32.toInt64 ((Int32.toInt8 (Int64.toInt32 v)).toInt32) else if so = 5 then Int32.toInt64 ((Int32.toUInt32 (Int64.toInt32 v) % 65536).toInt32) else if so = 9 then Int32.toInt64 ((Int32.toInt16 (Int64.toInt32 v)).toInt32) else v
section ZWR
variable {N w b K S f0 t p m : Nat} {F ρ α π lt st : Nat → Nat} {D : Nat → Nat → Prop} {C C' : zC} {M M' : zM} {r : zv_X} {Q : zQo} {φ : Nat → zFd}
theorem zSE_o {a so k o j : Nat} {v : Int64} (h : o ≠ 17) : (zSE C a so k v).1 o j = C.1 o j := by
  unfold zSE
  split
  · rw [zI1, if_neg (fun q => h q.1)]
  · split
    · rw [zI1, if_neg (fun q => h q.1)]
    · split
      · rw [zI1, if_neg (fun q => h q.1)]
      · split
        · rw [zI1, if_neg (fun q => h q.1), zI1, if_neg (fun q => h q.1)]
        · rw [zI1, if_neg (fun q => h q.1)]
theorem zSE_2 {a so k : Nat} {v : Int64} : (zSE C a so k v).2 = C.2 := by
  unfold zSE
  split
  · rfl
  · split
    · rfl
    · split
      · rfl
      · split <;> rfl
theorem zSE_out {a so k n j : Nat} {v : Int64} (hk : k < n) (h : j < a ∨ a + (zwd so n - 2) ≤ j) : (zSE C a so k v).1 17 j = C.1 17 j := by
  unfold zwd at h
  unfold zSE
  by_cases c1 : so = 4
  · rw [if_pos (Or.inl c1)] at h
    rw [if_pos c1, zI1, if_neg (by omega)]
  · rw [if_neg c1]
    by_cases c2 : so = 8
    · rw [if_pos (Or.inr c2)] at h
      rw [if_pos c2, zI1, if_neg (by omega)]
    · rw [if_neg (by omega)] at h
      rw [if_neg c2]
      by_cases c3 : so = 5 ∨ so = 9
      · rw [if_pos c3] at h
        rw [if_pos c3, zI1, if_neg (by omega)]
      · rw [if_neg c3] at h
        rw [if_neg c3]
        by_cases c4 : so = 11
        · rw [if_pos c4] at h
          rw [if_pos c4, zI1, if_neg (by omega), zI1, if_neg (by omega)]
        · rw [if_neg c4] at h
          rw [if_neg c4, zI1, if_neg (by omega)]
/-- the elements behind a store -/
theorem zSE_el {a so k k' : Nat} {v : Int64} (hs : so = 4 ∨ so = 5 ∨ so = 8 ∨ so = 9 ∨ so = 10 ∨ so = 11) (h10 : so = 10 → v = v.toInt32.toInt64) : zel so (fun j => (zSE C a so k v).1 17 (a + j)) k' = if k' = k then zmv so v else zel so (fun j => C.1 17 (a + j)) k' := by
  by_cases ck : k' = k
  · rw [if_pos ck]
    subst ck
    rcases hs with e | e | e | e | e | e <;> subst e
    · unfold zel zSE zmv
      simp (decide := true) only [reduceIte]
      rw [zI1, if_pos ⟨rfl, rfl⟩, ze8 (c := v.toInt32 &&& 1) fun i hi => zsb_self _ _ (by omega) (by decide) hi]
      exact zj4 v
    · unfold zel zSE zmv
      simp (decide := true) only [reduceIte]
      rw [zI1, if_pos ⟨rfl, rfl⟩, zeu (c := v.toInt32) fun i hi => zsb_self _ _ (by omega) (by decide) hi]
    · unfold zel zSE zmv
      simp (decide := true) only [reduceIte]
      rw [zI1, if_pos ⟨rfl, rfl⟩, ze8 (c := v.toInt32) fun i hi => zsb_self _ _ (by omega) (by decide) hi]
    · unfold zel zSE zmv
      simp (decide := true) only [reduceIte]
      rw [zI1, if_pos ⟨rfl, rfl⟩, ze16 (c := v.toInt32) fun i hi => zsb_self _ _ (by omega) (by decide) hi]
    · unfold zel zSE zmv
      simp (decide := true) only [reduceIte]
      rw [zI1, if_pos ⟨rfl, rfl⟩]
      exact (h10 rfl).symm
    · unfold zel zSE zmv
      simp (decide := true) only [reduceIte]
      rw [zI1, if_neg (by omega), zI1, if_pos ⟨rfl, rfl⟩, zI1, if_pos ⟨rfl, by omega⟩]
      exact zj11 v
  · rw [if_neg ck]
    rcases hs with e | e | e | e | e | e <;> subst e
    · unfold zel zSE
      simp (decide := true) only [reduceIte]
      rw [zI1]
      by_cases c : k' / 4 = k / 4
      · rw [if_pos ⟨rfl, by omega⟩, c, ze8 (c := C.1 17 (a + k / 4) >>> Int32.ofNat (k' % 4 * 8)) fun i hi => zsb_other _ _ (by omega) (by omega) (by decide) (by omega) hi]
      · rw [if_neg (by omega)]
    · unfold zel zSE
      simp (decide := true) only [reduceIte]
      rw [zI1]
      by_cases c : k' / 2 = k / 2
      · rw [if_pos ⟨rfl, by omega⟩, c, zeu (c := C.1 17 (a + k / 2) >>> Int32.ofNat (k' % 2 * 16)) fun i hi => zsb_other _ _ (by omega) (by omega) (by decide) (by omega) hi]
      · rw [if_neg (by omega)]
    · unfold zel zSE
      simp (decide := true) only [reduceIte]
      rw [zI1]
      by_cases c : k' / 4 = k / 4
      · rw [if_pos ⟨rfl, by omega⟩, c, ze8 (c := C.1 17 (a + k / 4) >>> Int32.ofNat (k' % 4 * 8)) fun i hi => zsb_other _ _ (by omega) (by omega) (by decide) (by omega) hi]
      · rw [if_neg (by omega)]
    · unfold zel zSE
      simp (decide := true) only [reduceIte]
      rw [zI1]
      by_cases c : k' / 2 = k / 2
      · rw [if_pos ⟨rfl, by omega⟩, c, ze16 (c := C.1 17 (a + k / 2) >>> Int32.ofNat (k' % 2 * 16)) fun i hi => zsb_other _ _ (by omega) (by omega) (by decide) (by omega) hi]
      · rw [if_neg (by omega)]
    · unfold zel zSE
      simp (decide := true) only [reduceIte]
      rw [zI1, if_neg (by omega)]
    · unfold zel zSE
      simp (decide := true) only [reduceIte]
      rw [zI1, if_neg (by omega), zI1, if_neg (by omega), zI1, if_neg (by omega), zI1, if_neg (by omega)]
/-- the class sets an element -/
theorem zd_setElement {u tt so cl n k : Nat} {v : Int64} (hw : w ≤ 400) (h : zPk w K F ρ D C M u tt so cl n) (h0 : so ≠ 0) (hk : k < n) : zHC w b (mX2_setElement N (b + 16) (Int32.ofNat (u + 1)) (Int32.ofNat k) v) C r id (zSE C (zha C u + 2) so k v) r := by
  intro M0
  obtain ⟨k1, k2, k3, k4, k5, k6, k7, k8, k9, k10, k11, k12, k13, k14, k15, k16, k17, k18⟩ := h
  have e1 := zd_tag (N := N) (w := w) (b := b) (C := C) (r := r) hw k1 k16 M0
  have e18 : C.1 18 (u + 1) = Int32.ofNat (zha C u) := (zN_of _).symm
  have et : zht C u = -Int32.ofNat so := by rw [k12]; unfold zTag; rw [if_neg h0]
  rw [et] at e1
  have a2 : (Int32.ofNat (zha C u) + 2 : Int32) = Int32.ofNat (zha C u + 2) := zi_add _ 2
  have d4 : (Int32.ofNat k / 4 : Int32) = Int32.ofNat (k / 4) := zi_div (b := 4) (by omega) (by decide)
  have d2 : (Int32.ofNat k / 2 : Int32) = Int32.ofNat (k / 2) := zi_div (b := 2) (by omega) (by decide)
  have s4 : ((Int32.ofNat k - Int32.ofNat (k / 4) * 4) * 8 : Int32) = Int32.ofNat (k % 4 * 8) := by
    rw [show (Int32.ofNat (k / 4) * 4 : Int32) = Int32.ofNat (k / 4 * 4) from zi_mul _ 4, zi_sub (by omega), show k - k / 4 * 4 = k % 4 by omega]
    exact zi_mul _ 8
  have s2 : ((Int32.ofNat k - Int32.ofNat (k / 2) * 2) * 16 : Int32) = Int32.ofNat (k % 2 * 16) := by
    rw [show (Int32.ofNat (k / 2) * 2 : Int32) = Int32.ofNat (k / 2 * 2) from zi_mul _ 2, zi_sub (by omega), show k - k / 2 * 2 = k % 2 by omega]
    exact zi_mul _ 16
  have m2 : ((2 : Int32) * Int32.ofNat k) = Int32.ofNat (2 * k) := zi_mul 2 k
  have sb : ∀ i s mm vv, zha C u + 2 + i < w → s < 32 → mX2_setBits N (b + 16) (Int32.ofNat (zha C u + 2) + Int32.ofNat i) (Int32.ofNat s) (Int32.ofNat (2 ^ mm - 1)) vv (zc w b C M0 r) = some (zc w b (zI C 17 (zha C u + 2 + i) (zsb mm (C.1 17 (zha C u + 2 + i)) s vv)) M0 r) := fun i s mm vv hi hs => by
    unfold mX2_setBits mX2_setBits_0 zsb
    rw [zi_add, zqg_16_1, Option.bind_some, Option.bind_some, zqa_17 hw hi, Option.bind_some, zqs_17 hw hi, Option.bind_some, show (Int32.ofNat s &&& 31 : Int32) = Int32.ofNat s from zi_31 hs]
  have st : ∀ CX i vv, zha C u + 2 + i < w → zm_sI (zc w b CX M0 r) (b + 17) (Int32.ofNat (zha C u + 2) + Int32.ofNat i) vv = some (zc w b (zI CX 17 (zha C u + 2 + i) vv) M0 r) := fun CX i vv hi => by rw [zi_add, zqs_17 hw hi]
  unfold mX2_setElement mX2_setElement_0 mX2_setElement_114 mX2_setElement_171 mX2_setElement_182
  rw [zqg_16_2, Option.bind_some, zqa_18 hw (by omega), Option.bind_some, e18, zqk_16, if_pos rfl, e1, Option.bind_some]
  simp only [zi_neg_neg, a2]
  unfold zwd at k14
  unfold zSE
  rcases k8 with e | e | e | e | e | e | e | e <;> subst e
  · exact absurd rfl h0
  · rw [if_pos (Or.inl rfl)] at k14
    have e := sb (k / 4) (k % 4 * 8) 8 (v.toInt32 &&& 1) (by omega) (by omega)
    have e : mX2_setBits N (b + 16) (Int32.ofNat (zha C u + 2) + Int32.ofNat (k / 4)) (Int32.ofNat (k % 4 * 8)) 255 (v.toInt32 &&& 1) (zc w b C M0 r) = _ := e
    simp (decide := true) only [Int32.reduceLT, Int32.reduceLE, Int32.reduceAdd, Int32.reduceSub, Int32.reduceMul, Int32.reduceDiv, Int32.reduceMod, ↓reduceIte, Option.bind_some, zqk_16, d4, s4, e, id]
  · rw [if_neg (by decide), if_pos (Or.inl rfl)] at k14
    have e := sb (k / 2) (k % 2 * 16) 16 v.toInt32 (by omega) (by omega)
    have e : mX2_setBits N (b + 16) (Int32.ofNat (zha C u + 2) + Int32.ofNat (k / 2)) (Int32.ofNat (k % 2 * 16)) 65535 v.toInt32 (zc w b C M0 r) = _ := e
    simp (decide := true) only [Int32.reduceLT, Int32.reduceLE, Int32.reduceAdd, Int32.reduceSub, Int32.reduceMul, Int32.reduceDiv, Int32.reduceMod, ↓reduceIte, Option.bind_some, zqk_16, d2, s2, e, id]
  · rw [if_pos (Or.inr rfl)] at k14
    have e := sb (k / 4) (k % 4 * 8) 8 v.toInt32 (by omega) (by omega)
    have e : mX2_setBits N (b + 16) (Int32.ofNat (zha C u + 2) + Int32.ofNat (k / 4)) (Int32.ofNat (k % 4 * 8)) 255 v.toInt32 (zc w b C M0 r) = _ := e
    simp (decide := true) only [Int32.reduceLT, Int32.reduceLE, Int32.reduceAdd, Int32.reduceSub, Int32.reduceMul, Int32.reduceDiv, Int32.reduceMod, ↓reduceIte, Option.bind_some, zqk_16, d4, s4, e, id]
  · rw [if_neg (by decide), if_pos (Or.inr rfl)] at k14
    have e := sb (k / 2) (k % 2 * 16) 16 v.toInt32 (by omega) (by omega)
    have e : mX2_setBits N (b + 16) (Int32.ofNat (zha C u + 2) + Int32.ofNat (k / 2)) (Int32.ofNat (k % 2 * 16)) 65535 v.toInt32 (zc w b C M0 r) = _ := e
    simp (decide := true) only [Int32.reduceLT, Int32.reduceLE, Int32.reduceAdd, Int32.reduceSub, Int32.reduceMul, Int32.reduceDiv, Int32.reduceMod, ↓reduceIte, Option.bind_some, zqk_16, d2, s2, e, id]
  · rw [if_neg (by decide), if_neg (by decide), if_neg (by decide)] at k14
    simp (decide := true) only [Int32.reduceLT, Int32.reduceLE, Int32.reduceAdd, Int32.reduceSub, Int32.reduceMul, Int32.reduceDiv, Int32.reduceMod, ↓reduceIte, Option.bind_some, zqg_16_1, st C k v.toInt32 (by omega), id]
  · rw [if_neg (by decide), if_neg (by decide), if_pos rfl] at k14
    have a3 : (Int32.ofNat (zha C u + 2) + Int32.ofNat (2 * k) + 1 : Int32) = Int32.ofNat (zha C u + 2) + Int32.ofNat (2 * k + 1) := by
      rw [zi_add, zi_add]
      exact zi_add _ 1
    simp (decide := true) only [Int32.reduceLT, Int32.reduceLE, Int32.reduceAdd, Int32.reduceSub, Int32.reduceMul, Int32.reduceDiv, Int32.reduceMod, ↓reduceIte, Option.bind_some, zqg_16_1, m2, a3, st C (2 * k) _ (by omega), st (zI C 17 (zha C u + 2 + 2 * k) (Int64.toInt32 (v >>> (Int32.toInt64 (32 : Int32) &&& 63)))) (2 * k + 1) v.toInt32 (by omega), id]
    rfl
  · rw [if_neg (by decide), if_neg (by decide), if_neg (by decide)] at k14
    simp (decide := true) only [Int32.reduceLT, Int32.reduceLE, Int32.reduceAdd, Int32.reduceSub, Int32.reduceMul, Int32.reduceDiv, Int32.reduceMod, ↓reduceIte, Option.bind_some, zqg_16_1, st C k v.toInt32 (by omega), id]
/-- one pair's content has changed -/
theorem zHp.wr (hw : w ≤ 400) (hT : zTy C M K F ρ α π) (h : zHp w K F ρ D C M S) {u tt : Nat} (hd : D (u + 1) tt) (hC : ∀ o k, 16 ≤ o → o ≤ 22 → ¬ (o = 17 ∧ zha C u + 2 ≤ k ∧ k < zha C u + zhW C u) → C'.1 o k = C.1 o k) (hM : ∀ o k, 29 ≤ o → o ≤ 39 → M'.1 o k = M.1 o k) (h36 : M'.1 100 36 = M.1 100 36) (h38 : M'.1 100 38 = M.1 100 38) (h37 : ∀ k, ¬ (zgb M tt ≤ k ∧ k < zgb M tt + zgz M tt) → M'.2 37 k = M.2 37 k)
    (hp : zPr w K F ρ D C M (u + 1) tt → ∀ so cl n, zPk w K F ρ D C M u tt so cl n → ∀ k, k < n → if so = 12 ∨ so = 0 ∧ (ρ cl).testBit k = true then zRf D (C'.1 17 (zha C u + 2 + k)) (M'.2 37 (zgb M tt + k)) else M'.2 37 (zgb M tt + k) = zel so (fun j => C'.1 17 (zha C u + 2 + j)) k) : zHp w K F ρ D C' M' S := by
  obtain ⟨so, cl, n, hk⟩ := h.pk hw hT hd
  have hk' := hk
  obtain ⟨q1, q2, q3, q4, q5, q6, q7, q8, q9, q10, q11, q12, q13, q14, q15, q16, q17, q18⟩ := hk
  obtain ⟨a1, ⟨ω, us, tp, a2, a2'⟩, ⟨ν, c, ce, a3⟩, a4, a5⟩ := h
  have rc : ∀ o, 16 ≤ o → o ≤ 22 → o ≠ 17 → C'.1 o = C.1 o := fun o h1 h2 h3 => funext fun k => hC o k h1 h2 (by omega)
  have rm : ∀ o, 29 ≤ o → o ≤ 39 → M'.1 o = M.1 o := fun o h1 h2 => funext fun k => hM o k h1 h2
  have e1 : zha C' = zha C := funext fun t => by unfold zha; rw [rc 18 (by decide) (by decide) (by decide)]
  have e2 : zhW C' = zhW C := funext fun t => by unfold zhW; rw [rc 19 (by decide) (by decide) (by decide)]
  have e4 : zgb M' = zgb M := funext fun t => by unfold zgb; rw [rm 34 (by decide) (by decide)]
  have hz : zgz M tt = n := by unfold zgz; rw [q5, zN_nat (by omega)]
  have hzw := zwd_sz so n
  refine ⟨a1, ⟨ω, us, tp, a2.cong (hC _ _ (by decide) (by decide) (by omega)) (hC _ _ (by decide) (by decide) (by omega)) (rc 21 (by decide) (by decide) (by decide)) (rc 18 (by decide) (by decide) (by decide)) (rc 19 (by decide) (by decide) (by decide)), a2'⟩, ⟨ν, c, ce, a3.cong h36 h38 (rm 35 (by decide) (by decide)) (rm 29 (by decide) (by decide)) (rm 34 (by decide) (by decide)) (rm 33 (by decide) (by decide))⟩, fun x t' hd' => ?_, ?_⟩
  · have hb := a1.1 _ _ hd'
    obtain ⟨u', rfl⟩ : ∃ u', x = u' + 1 := ⟨x - 1, by omega⟩
    obtain ⟨b1, b2, b3⟩ := a4 _ t' hd'
    refine ⟨by rw [rm 29 (by decide) (by decide)]; exact b1, b2, ?_⟩
    by_cases cu : u' = u
    · subst cu
      have := a1.2.1 _ _ _ hd' hd
      subst this
      have hcont := hp b3 so cl n hk'
      refine ⟨u', so, cl, n, rfl, q1, by rw [rm 32 (by decide) (by decide)]; exact q3, by rw [rm 31 (by decide) (by decide)]; exact q4, by rw [rm 33 (by decide) (by decide)]; exact q5, q6, q7, q8, q9, q10, by rw [e2]; exact q11, ?_, ?_, fun k hk => ?_⟩
      · unfold zht
        rw [e1, hC 17 _ (by decide) (by decide) (by omega)]
        exact q12
      · rw [e1, hC 17 _ (by decide) (by decide) (by omega)]
        exact q13
      · rw [e1, e4]
        exact hcont k hk
    · have hne : t' ≠ tt := fun e => by
        rw [e] at hd'
        have := a1.2.2 _ _ _ hd' hd
        omega
      refine b3.keep a1 hT ⟨by rw [e2], fun e he => ?_⟩ ⟨by rw [rm 31 (by decide) (by decide)], by rw [rm 32 (by decide) (by decide)], by rw [rm 33 (by decide) (by decide)], fun e he => ?_⟩ (fun _ _ _ _ _ h => h)
      · rw [e1]
        refine hC 17 _ (by decide) (by decide) fun q => ?_
        obtain ⟨i, hi, ei⟩ := a2' _ _ hd
        obtain ⟨i', hi', ei'⟩ := a2' _ _ hd'
        have ew : ω i = u := by omega
        have ew' : ω i' = u' := by omega
        obtain ⟨c1, c2, c3, c4, c5, c6, c7, c8⟩ := a2
        have f1 := (c7 i hi).1
        have f2 := (c7 i' hi').1
        have g1 : zs (fun j => zhW C (ω j)) (i + 1) = zs (fun j => zhW C (ω j)) i + zhW C (ω i) := rfl
        have g2 : zs (fun j => zhW C (ω j)) (i' + 1) = zs (fun j => zhW C (ω j)) i' + zhW C (ω i') := rfl
        rw [ew] at f1 g1
        rw [ew'] at f2 g2
        by_cases cl : i < i'
        · have := zs_mono (f := fun j => zhW C (ω j)) (n := i + 1) (m := i') (by omega)
          omega
        · have hii : i ≠ i' := fun q => cu (by rw [← ew, ← ew', q])
          have := zs_mono (f := fun j => zhW C (ω j)) (n := i' + 1) (m := i) (by omega)
          omega
      · rw [e4]
        refine h37 _ fun q => ?_
        obtain ⟨c1, c2, c3, c4, c5, c6, c7, c8, c9, c10⟩ := a3
        obtain ⟨i, hi, ei⟩ := c7 tt q2 (a4 _ _ hd).1
        obtain ⟨i', hi', ei'⟩ := c7 t' b2 b1
        have f1 := c9 i hi
        have f2 := c9 i' hi'
        have g1 : zs (fun j => zgz M (ν j)) (i + 1) = zs (fun j => zgz M (ν j)) i + zgz M (ν i) := rfl
        have g2 : zs (fun j => zgz M (ν j)) (i' + 1) = zs (fun j => zgz M (ν j)) i' + zgz M (ν i') := rfl
        rw [ei] at f1 g1
        rw [ei'] at f2 g2
        by_cases cl : i < i'
        · have := zs_mono (f := fun j => zgz M (ν j)) (n := i + 1) (m := i') (by omega)
          omega
        · have hii : i ≠ i' := fun q => hne (by rw [← ei, ← ei', q])
          have := zs_mono (f := fun j => zgz M (ν j)) (n := i' + 1) (m := i) (by omega)
          omega
  · unfold zHq at a5 ⊢
    rw [hC 16 9 (by decide) (by decide) (by omega), rc 20 (by decide) (by decide) (by decide)]
    exact a5
/-- the frame under way and a thing have changed -/
theorem zRn.wr {t' p' : Nat} {lt' st' : Nat → Nat} (hR : zRn w b K F ρ α π r Q D C M S f0 φ) (hO : zOn C M) (hφ : φ f0 = (t, p, m, lt, st)) (q3 : zFr D C' M' Q.2.1 f0 t' p' m lt' st') (qC : ∀ o k, o ≠ f0 + 100 → o ≠ f0 + 140 → o ≠ 17 → C'.1 o k = C.1 o k) (qL : ∀ o k, o ≠ f0 + 120 → C'.2.1 o k = C.2.1 o k) (qV : C'.2.2 = C.2.2)
    (qM : ∀ o k, ¬ (k = f0 ∧ (o = 41 ∨ o = 42)) → ¬ (o = 44 ∧ 16 * f0 ≤ k ∧ k < 16 * f0 + 16) → ¬ (o = 46 ∧ 12 * f0 ≤ k ∧ k < 12 * f0 + 12) → M'.1 o k = M.1 o k) (qN : ∀ o k, o ≠ 37 → ¬ (o = 43 ∧ 16 * f0 ≤ k ∧ k < 16 * f0 + 16) → ¬ (o = 45 ∧ 12 * f0 ≤ k ∧ k < 12 * f0 + 12) → M'.2 o k = M.2 o k) (hH : zHp w K F ρ D C' M' S) (ht : ∃ l', Q.2.2.2 m p' = some (zrv st' t', l') ∧ zLe l' lt') : zSC C C' ∧ zSM M M' ∧ ∃ φ', zRn w b K F ρ α π r Q D C' M' S f0 φ' ∧ zOn C' M' := by
  obtain ⟨r1, r2, r3, r4, r5, r6, r7, r8, r9, r10, r11, r12, t1, t2, t3⟩ := hR
  obtain ⟨n1, n2, n3, n4, n5, n6⟩ := hO
  have sc : zSC C C' := ⟨fun o k h => qC o k (by omega) (by omega) (by omega), fun o k h => by rw [qV], qC _ _ (by omega) (by omega) (by omega), qC _ _ (by omega) (by omega) (by omega)⟩
  have sm : zSM M M' := ⟨fun o k h => qM o k (by omega) (by omega) (by omega), fun k h => qM _ _ (by omega) (by omega) (by omega), fun k => qN _ _ (by omega) (by omega) (by omega)⟩
  have hm : (φ f0).2.2.1 = m := by rw [hφ]
  refine ⟨sc, sm, fun f => if f = f0 then (t', p', m, lt', st') else φ f, ⟨r1.sc sc sm, hH, r3.sc sc sm, r4, (qC _ _ (by omega) (by omega) (by omega)).trans r5, by rw [qV]; exact r6, (qM _ _ (by omega) (by omega) (by omega)).trans r7, (qC _ _ (by omega) (by omega) (by omega)).trans r8, (qM _ _ (by omega) (by omega) (by omega)).trans r9, ?_, ?_, fun f hf => ?_, fun f hf => ?_, ?_, fun f hf => ?_⟩, ?_⟩
  · rw [qC _ _ (by omega) (by omega) (by omega), qM _ _ (by omega) (by omega) (by omega)]; exact r10
  · rw [qC _ _ (by omega) (by omega) (by omega), qM _ _ (by omega) (by omega) (by omega)]; exact r11
  · show zFa D C' M' Q.2.1 f (if f = f0 then _ else φ f)
    by_cases c : f = f0
    · rw [if_pos c, c]; exact q3
    · rw [if_neg c]
      exact (r12 f hf).low (f := f0) (by omega) r4 (fun o k h1 h2 h3 => qC o k h1 h2 (by omega)) (fun o k h _ => qL o k h) (fun o k _ => by rw [qV]) (Or.inr ⟨fun o k h1 h2 h3 h4 h5 => qM o k h3 h4 h5, fun o k h1 h2 h3 h4 => qN o k (by omega) h3 h4⟩)
  · show (if f = f0 then ((t', p', m, lt', st') : zFd) else φ f).2.2.1 < Q.1
    by_cases c : f = f0
    · rw [if_pos c]
      have := t1 f0 (Nat.le_refl _)
      rw [hm] at this
      exact this
    · rw [if_neg c]; exact t1 f hf
  · show zT0 Q (if f0 = f0 then ((t', p', m, lt', st') : zFd) else φ f0)
    rw [if_pos rfl]
    exact ht
  · show zT1 Q (if f = f0 then _ else φ f) (if f + 1 = f0 then ((t', p', m, lt', st') : zFd) else φ (f + 1)).2.2.1
    rw [if_neg (by omega)]
    have h := t3 f hf
    by_cases c : f + 1 = f0
    · rw [if_pos c]
      rw [c, hm] at h
      exact h
    · rw [if_neg c]; exact h
  · exact ⟨(qC _ _ (by omega) (by omega) (by omega)).trans n1, (qM _ _ (by omega) (by omega) (by omega)).trans n2, (qM _ _ (by omega) (by omega) (by omega)).trans n3, (qM _ _ (by omega) (by omega) (by omega)).trans n4, (qL _ _ (by omega)).trans n5, (qN _ _ (by omega) (by omega) (by omega)).trans n6⟩
end ZWR
