/-! ===== what holds between two calls of the law ===== -/
def zTI (w b t : Nat) (C : zC) (M : zM) (r : zv_X) : Prop := ∃ (K : Nat) (F ρ α π : Nat → Nat) (n : Nat) (c : Nat → Nat) (h : Nat) (hs : Nat → Nat) (Q : zQo) (S : Nat), zTy C M K F ρ α π ∧ zDr C M K n c h hs ∧ zMe b K F ρ r C M Q ∧ zHr w C S ∧ S ≤ 20000 * t ∧ zRs C M ∧ C.1 15 3 = Int32.ofNat w ∧ M.1 100 1 = Int32.ofNat w ∧ M.1 100 54 = 0 ∧ (∀ k, k < 7 → F k = 0) ∧ zInh K F ρ π
/-- how the memory behind the fixed cells goes on -/
def zRg (b : Nat) (r r' : zv_X) : Prop := zRr b r' ∧ r.2.1 ≤ r'.2.1 ∧ r'.2.1 ≤ r.2.1 + 4 ∧ r'.2.2.1 ≤ r.2.2.1 + 261 ∧ r'.2.2.2 = r.2.2.2
/-- a call of both: the same answer, or the same refusal -/
def zBo (w b t : Nat) (mC : zv_X → Option (zv_X × (Int32 ⊕ String))) (mM : zv_X → Option (zv_X × Int32)) (cd : String → Int32 → Prop) (C : zC) (M : zM) (r : zv_X) : Prop :=
  (∃ (C' : zC) (M' : zM) (r' : zv_X) (v : Int32), zHC w b mC C r (fun x => (x, .inl v)) C' r' ∧ zHM w b mM M (fun x => (x, v)) M' ∧ M'.1 100 0 = 0 ∧ M'.2 99 0 = M.2 99 0 ∧ zRg b r r' ∧ zTI w b (t + 1) C' M' r') ∨
  ∃ (E : String) (v : Int32), zHC w b mC C r (fun x => (x, .inr E)) C (zv_pad r) ∧ zHM w b mM M (fun x => (x, 0)) (zJ M 100 0 v) ∧ cd E v
section ZTP
variable {N w b t : Nat} {C C' : zC} {M M' : zM} {r : zv_X}
theorem zRg.rf (h : zRr b r) : zRg b r r := ⟨h, Nat.le_refl _, by omega, by omega, rfl⟩
theorem zTI.pad (h : zTI w b t C M r) : zTI w b t C M (zv_pad r) := h
theorem zTI.sz {sz : Nat} (h : zTI w b t C M r) : zTI w b t C M (zv_sz r sz) := h
/-- the reference's other numbers -/
theorem zTI.ref (h : zTI w b t C M r) (h1 : ∀ o k, ¬ (o = 100 ∧ k = 0) → M'.1 o k = M.1 o k) (h2 : ∀ k, M'.2 100 k = M.2 100 k) : zTI w b (t + 1) C M' r := by
  obtain ⟨K, F, ρ, α, π, n, c, h, hs, Q, S, a1, a2, a3, a4, a5, a6, a7, a8, a9, a10, a11⟩ := h
  refine ⟨K, F, ρ, α, π, n, c, h, hs, Q, S, a1.cong rfl rfl rfl rfl (h1 100 5 (by omega)) (funext fun k => h1 2 k (by omega)) (funext fun k => h1 3 k (by omega)) (funext fun k => h1 4 k (by omega)), a2.cong rfl rfl rfl (h1 100 7 (by omega)) (h1 100 9 (by omega)) (funext fun k => h1 6 k (by omega)) (funext fun k => h1 8 k (by omega)), ⟨a3.1, (h1 100 19 (by omega)).trans a3.2.1, a3.2.2.1, fun m hm => ⟨(a3.2.2.2 m hm).1, (a3.2.2.2 m hm).2.1.cong fun o k e => h1 o k (by omega), (a3.2.2.2 m hm).2.2⟩⟩, a4, by omega, ?_, a7, (h1 100 1 (by omega)).trans a8, (h1 100 54 (by omega)).trans a9, a10, a11⟩
  unfold zRs at a6 ⊢
  rw [h2 50, h1 100 51 (by omega), h1 100 52 (by omega), h1 100 53 (by omega)]
  exact a6
theorem zTI.out (h : zTI w b t C M r) (v : Int64) : zTI w b t C (zK M 99 0 v) r := by
  obtain ⟨K, F, ρ, α, π, n, c, h, hs, Q, S, a1, a2, a3, a4, a5, a6, a7⟩ := h
  refine ⟨K, F, ρ, α, π, n, c, h, hs, Q, S, a1, a2, a3, a4, a5, ?_, a7⟩
  unfold zRs at a6 ⊢
  rw [zK2, if_neg (by omega)]
  exact a6
theorem zMuOk.up {K K' : Nat} {μ : zMu} (h : zMuOk K μ) (hK : K ≤ K') : zMuOk K' μ := by
  obtain ⟨a1, a2, a3, a4, a5, a6⟩ := h
  exact ⟨a1, a2, a3, a4, fun j hj => Nat.lt_of_lt_of_le (a5 j hj) hK, a6⟩
/-- feed -/
theorem zq_feed (hN : 30 ≤ N) (hT : zTI w b t C M r) (hr : zRr b r) (a1 a2 a3 a4 a5 a6 : Int32) : zBo w b t (mX8_feed N (b + 0) a1 a2 a3 a4 a5 a6) (mX9_feed N (b + 75) a1 a2 a3 a4 a5 a6) (fun E v => E = "java/lang/IllegalArgumentException" ∧ v = 1 ∨ E = "java/lang/UnsupportedOperationException" ∧ v = 2) C M r := by
  obtain ⟨K, F, ρ, α, π, n, c, h, hs, Q, S, b1, b2, b3, b4, b5, b6, b7, b8, b9, b10, b11⟩ := hT
  rcases zp_feed (N := N) (w := w) (b := b) (r := r) hN b2 a1 a2 a3 a4 a5 a6 with ⟨C', M', n', c', t1, t2, t3, t4, t5, t6, t7, t8⟩ | ⟨E, v, t1, t2, t3⟩
  · refine Or.inl ⟨C', M', r, _, t1, t2, t3, by rw [t6], zRg.rf hr, K, F, ρ, α, π, n', c', h, hs, Q, S, b1.cong (t7 1 3 (by omega) (by omega)) (funext fun k => t7 2 k (by omega) (by omega)) (funext fun k => t7 3 k (by omega) (by omega)) (funext fun k => t7 4 k (by omega) (by omega)) (t8 100 5 (by omega) (by omega)) (funext fun k => t8 2 k (by omega) (by omega)) (funext fun k => t8 3 k (by omega) (by omega)) (funext fun k => t8 4 k (by omega) (by omega)), t4, ⟨b3.1, (t8 100 19 (by omega) (by omega)).trans b3.2.1, ?_, fun m hm => ⟨(b3.2.2.2 m hm).1, ?_, (b3.2.2.2 m hm).2.2⟩⟩, ?_, by omega, ?_, (t7 15 3 (by omega) (by omega)).trans b7, (t8 100 1 (by omega) (by omega)).trans b8, (t8 100 54 (by omega) (by omega)).trans b9, b10, b11⟩
    · have := b3.2.2.1
      unfold zLst at this ⊢
      rw [t7 8 2 (by omega) (by omega), t5]
      exact this
    · have row : ∀ a, 10 ≤ a → a < 20 → M'.1 a = M.1 a := fun a _ _ => funext fun k => t8 a k (by omega) (by omega)
      have := (b3.2.2.2 m hm).2.1
      unfold zMt at this ⊢
      rw [row 18 (by decide) (by decide), row 17 (by decide) (by decide), row 11 (by decide) (by decide), row 10 (by decide) (by decide), row 12 (by decide) (by decide), row 13 (by decide) (by decide), row 14 (by decide) (by decide), row 15 (by decide) (by decide), row 16 (by decide) (by decide)]
      exact this
    · unfold zHr zHq at b4 ⊢
      have r21 : C'.1 21 = C.1 21 := funext fun k => t7 21 k (by omega) (by omega)
      have r20 : C'.1 20 = C.1 20 := funext fun k => t7 20 k (by omega) (by omega)
      rw [r21, r20, t7 16 9 (by omega) (by omega)]
      exact b4
    · unfold zRs at b6 ⊢
      rw [t5, t6, t7 15 9 (by omega) (by omega), t7 15 10 (by omega) (by omega), t7 15 11 (by omega) (by omega), t8 100 51 (by omega) (by omega), t8 100 52 (by omega) (by omega), t8 100 53 (by omega) (by omega)]
      exact b6
  · exact Or.inr ⟨E, v, t1, t2, t3⟩
/-- what stays when the draft, the types and the methods alone change -/
theorem zHr.cg {S : Nat} (h : zHr w C S) (hC : ∀ o k, 15 ≤ o → o < 23 → C'.1 o k = C.1 o k) : zHr w C' S := by
  unfold zHr zHq at h ⊢
  have r21 : C'.1 21 = C.1 21 := funext fun k => hC 21 k (by decide) (by decide)
  have r20 : C'.1 20 = C.1 20 := funext fun k => hC 20 k (by decide) (by decide)
  rw [r21, r20, hC 16 9 (by decide) (by decide)]
  exact h
theorem zRs.cg (h : zRs C M) (hC : ∀ o k, 15 ≤ o → o < 23 → C'.1 o k = C.1 o k) (hL : C'.2.1 = C.2.1) (hM : ∀ k, 51 ≤ k → k < 54 → M'.1 100 k = M.1 100 k) (hM2 : M'.2 = M.2) : zRs C' M' := by
  unfold zRs at h ⊢
  rw [hL, hM2, hC 15 9 (by decide) (by decide), hC 15 10 (by decide) (by decide), hC 15 11 (by decide) (by decide), hM 51 (by decide) (by decide), hM 52 (by decide) (by decide), hM 53 (by decide) (by decide)]
  exact h
theorem zMe.cg {K K' : Nat} {F F' ρ ρ' : Nat → Nat} {Q : zQo} (h : zMe b K F ρ r C M Q) (hK : K ≤ K') (hF : ∀ a, a < K → F' a = F a ∧ ρ' a = ρ a) (h82 : C'.1 8 2 = C.1 8 2) (h81 : C'.2.2 8 1 = C.2.2 8 1) (h19 : M'.1 100 19 = M.1 100 19) (hM : ∀ o k, 10 ≤ o → o < 20 → M'.1 o k = M.1 o k) : zMe b K' F' ρ' r C' M' Q := by
  obtain ⟨a1, a2, a3, a4⟩ := h
  refine ⟨a1, h19.trans a2, ?_, fun m hm => ?_⟩
  · unfold zLst at a3 ⊢
    rw [h82, h81]
    exact a3
  · obtain ⟨c1, c2, c3, c4⟩ := a4 m hm
    refine ⟨c1, ?_, c3.up hK, c4.ext hK hF fun _ _ => rfl⟩
    have row : ∀ a, 10 ≤ a → a < 20 → M'.1 a = M.1 a := fun a h1 h2 => funext fun k => hM a k h1 h2
    unfold zMt at c2 ⊢
    rw [row 18 (by decide) (by decide), row 17 (by decide) (by decide), row 11 (by decide) (by decide), row 10 (by decide) (by decide), row 12 (by decide) (by decide), row 13 (by decide) (by decide), row 14 (by decide) (by decide), row 15 (by decide) (by decide), row 16 (by decide) (by decide)]
    exact c2
/-- handler -/
theorem zq_handler (hT : zTI w b t C M r) (hr : zRr b r) (a1 a2 a3 a4 : Int32) : zBo w b t (mX8_handler N (b + 0) a1 a2 a3 a4) (mX9_handler N (b + 75) a1 a2 a3 a4) (fun E v => E = "java/lang/IllegalArgumentException" ∧ v = 1 ∨ E = "java/lang/UnsupportedOperationException" ∧ v = 2) C M r := by
  obtain ⟨K, F, ρ, α, π, n, c, h, hs, Q, S, b1, b2, b3, b4, b5, b6, b7, b8, b9, b10, b11⟩ := hT
  rcases zp_handler (N := N) (w := w) (b := b) (r := r) b1.2.2.2.1 b2 b1.1 b1.2.1 a1 a2 a3 a4 with ⟨C', M', hs', t1, t2, t3, t4, t5, t6, t7, t8⟩ | ⟨E, v, t1, t2, t3⟩
  · have cc : ∀ o k, 15 ≤ o → o < 23 → C'.1 o k = C.1 o k := fun o k e1 e2 => t7 o k (by omega) (by omega)
    refine Or.inl ⟨C', M', r, _, t1, t2, t3, by rw [t6], zRg.rf hr, K, F, ρ, α, π, n, c, h + 1, hs', Q, S, b1.cong (t7 1 3 (by omega) (by omega)) (funext fun k => t7 2 k (by omega) (by omega)) (funext fun k => t7 3 k (by omega) (by omega)) (funext fun k => t7 4 k (by omega) (by omega)) (t8 100 5 (by omega) (by omega)) (funext fun k => t8 2 k (by omega) (by omega)) (funext fun k => t8 3 k (by omega) (by omega)) (funext fun k => t8 4 k (by omega) (by omega)), t4, b3.cg (Nat.le_refl K) (fun _ _ => ⟨rfl, rfl⟩) (t7 8 2 (by omega) (by omega)) (by rw [t5]) (t8 100 19 (by omega) (by omega)) (fun o k e1 e2 => t8 o k (by omega) (by omega)), b4.cg cc, by omega, b6.cg cc (by rw [t5]) (fun k e1 e2 => t8 100 k (by omega) (by omega)) t6, (t7 15 3 (by omega) (by omega)).trans b7, (t8 100 1 (by omega) (by omega)).trans b8, (t8 100 54 (by omega) (by omega)).trans b9, b10, b11⟩
  · exact Or.inr ⟨E, v, t1, t2, t3⟩
/-- type -/
theorem zq_type (hN : 30 ≤ N) (hT : zTI w b t C M r) (hr : zRr b r) (a1 a2 a3 : Int32) : zBo w b t (mX8_type N (b + 0) a1 a2 a3) (mX9_type N (b + 75) a1 a2 a3) (fun E v => E = "java/lang/IndexOutOfBoundsException" ∧ v = 1 ∨ E = "java/lang/IllegalArgumentException" ∧ v = 2 ∨ E = "java/lang/UnsupportedOperationException" ∧ v = 3) C M r := by
  obtain ⟨K, F, ρ, α, π, n, c, h, hs, Q, S, b1, b2, b3, b4, b5, b6, b7, b8, b9, b10, b11⟩ := hT
  rcases zp_type (N := N) (w := w) (b := b) (r := r) hN b1 a1 a2 a3 with ⟨C', M', F', ρ', α', π', t1, t2, t3, t4, t5, ⟨p1, p2, p3⟩, t6, t7, t8, t9⟩ | ⟨E, v, t1, t2, t3⟩
  · have cc : ∀ o k, 15 ≤ o → o < 23 → C'.1 o k = C.1 o k := fun o k e1 e2 => t8 o k (by omega) (by omega) (by omega) (by omega)
    have h7 : 7 ≤ K := b1.2.2.1
    refine Or.inl ⟨C', M', r, _, t1, t2, t3, by rw [t7], zRg.rf hr, K + 1, F', ρ', α', π', n, c, h, hs, Q, S, t4, ?_, b3.cg (Nat.le_succ K) (fun a ha => ⟨(t5 a ha).1, (t5 a ha).2.1⟩) (t8 8 2 (by omega) (by omega) (by omega) (by omega)) (by rw [t6]) (t9 100 19 (by omega) (by omega) (by omega) (by omega)) (fun o k e1 e2 => t9 o k (by omega) (by omega) (by omega) (by omega)), b4.cg cc, by omega, b6.cg cc (by rw [t6]) (fun k e1 e2 => t9 100 k (by omega) (by omega) (by omega) (by omega)) t7, (t8 15 3 (by omega) (by omega) (by omega) (by omega)).trans b7, (t9 100 1 (by omega) (by omega) (by omega) (by omega)).trans b8, (t9 100 54 (by omega) (by omega) (by omega) (by omega)).trans b9, fun k hk => (t5 k (by omega)).1.trans (b10 k hk), fun k h1 h2 => ?_⟩
    · have := b2.cong (C' := C') (M' := M') (funext fun k => t8 5 k (by omega) (by omega) (by omega) (by omega)) (funext fun k => t8 6 k (by omega) (by omega) (by omega) (by omega)) (funext fun k => t8 7 k (by omega) (by omega) (by omega) (by omega)) (t9 100 7 (by omega) (by omega) (by omega) (by omega)) (t9 100 9 (by omega) (by omega) (by omega) (by omega)) (funext fun k => t9 6 k (by omega) (by omega) (by omega) (by omega)) (funext fun k => t9 8 k (by omega) (by omega) (by omega) (by omega))
      obtain ⟨d1, d2, d3, d4, d5, d6, d7, d8, d9⟩ := this
      exact ⟨d1, d2, d3, d4, d5, d6, d7, d8, fun j hj => Nat.lt_succ_of_lt (d9 j hj)⟩
    · by_cases e : k = K
      · subst e
        rw [(t5 (π' k) p1).1, (t5 (π' k) p1).2.1]
        exact ⟨p2, p3⟩
      · have hk : k < K := by omega
        have hπ := (b1.2.2.2.2.2.2.2 k h1 hk).1
        rw [(t5 k hk).2.2.2, (t5 (π k) (by omega)).1, (t5 (π k) (by omega)).2.1, (t5 k hk).1, (t5 k hk).2.1]
        exact b11 k h1 hk
  · exact Or.inr ⟨E, v, t1, t2, t3⟩
/-- method -/
theorem zq_method (hN : 3403 ≤ N) (hT : zTI w b t C M r) (hr : zRr b r) (a1 a2 a3 a4 : Int32) : zBo w b t (mX8_method N (b + 0) a1 a2 a3 a4) (mX9_method N (b + 75) a1 a2 a3 a4) (fun E v => E = "java/lang/IllegalArgumentException" ∧ v = 1 ∨ E = "java/lang/UnsupportedOperationException" ∧ v = 2) C M r := by
  obtain ⟨K, F, ρ, α, π, n, c, h, hs, Q, S, b1, b2, b3, b4, b5, b6, b7, b8, b9, b10, b11⟩ := hT
  rcases zp_method (N := N) (w := w) (b := b) (r := r) hN b1 b2 b3 hr a1 a2 a3 a4 with ⟨C', M', r', v, Q', t1, t2, t3, t4, t5, t6, t7, t8, t9, t10, t11, t12, t13, t14, t15⟩ | ⟨E, v, t1, t2, t3⟩
  · have cc : ∀ o k, 15 ≤ o → o < 23 → C'.1 o k = C.1 o k := fun o k e1 e2 => t11 o k (by omega)
    refine Or.inl ⟨C', M', r', v, t1, t2, t3, by rw [t15], ⟨t6, t7, t8, t9, t10⟩, K, F, ρ, α, π, 0, c, 0, hs, Q', S, b1.cong (t11 1 3 (by omega)) (funext fun k => t11 2 k (by omega)) (funext fun k => t11 3 k (by omega)) (funext fun k => t11 4 k (by omega)) (t14 100 5 (by omega) (by omega)) (funext fun k => t14 2 k (by omega) (by omega)) (funext fun k => t14 3 k (by omega) (by omega)) (funext fun k => t14 4 k (by omega) (by omega)), t5, t4, b4.cg cc, by omega, b6.cg cc t12 (fun k e1 e2 => t14 100 k (by omega) (by omega)) t15, (t11 15 3 (by omega)).trans b7, (t14 100 1 (by omega) (by omega)).trans b8, (t14 100 54 (by omega) (by omega)).trans b9, b10, b11⟩
  · exact Or.inr ⟨E, v, t1, t2, t3⟩
/-- run -/
theorem zq_run (hN : 20002 < N) (hw : w ≤ 400) (ht : t ≤ 600) (hT : zTI w b t C M r) (hr : zRr b r) (a1 : Int32) (va vc : Int64) (a4 : Int32) : zBo w b t (mX8_run N (b + 0) a1 va vc a4) (mX9_run N (b + 75) a1 va vc a4) (fun E v => E = "java/lang/IndexOutOfBoundsException" ∧ v = 1 ∨ E = "java/lang/IllegalArgumentException" ∧ v = 2) C M r := by
  obtain ⟨K, F, ρ, α, π, n, c, h, hs, Q, S, b1, b2, b3, b4, b5, b6, b7, b8, b9, b10, b11⟩ := hT
  rcases zp_run (N := N) (w := w) (b := b) hN hw b10 b11 b1 b3 b4 (by omega) b7 b8 b9 a1 va vc a4 with ⟨C', M', o, S', t1, t2, t3, t4, t5, t6, t7⟩ | ⟨E, v, t1, t2, t3⟩
  · have m1 : ∀ o k, o < 29 → M'.1 o k = M.1 o k := fun o k e => (t5.1 o k e).trans (by rw [zJ1, if_neg (by omega)])
    have m2 : ∀ k, 0 < k → k < 29 → M'.1 100 k = M.1 100 k := fun k e1 e2 => (t5.2.1 k e2).trans (by rw [zJ1, if_neg (by omega)])
    refine Or.inl ⟨C', M', r, _, t1, t2, t3, (t5.2.2 0).trans rfl, zRg.rf hr, K, F, ρ, α, π, n, c, h, hs, Q, S', b1.cong (t4.1 1 3 (by decide)) (funext fun k => t4.1 2 k (by decide)) (funext fun k => t4.1 3 k (by decide)) (funext fun k => t4.1 4 k (by decide)) (m2 5 (by decide) (by decide)) (funext fun k => m1 2 k (by decide)) (funext fun k => m1 3 k (by decide)) (funext fun k => m1 4 k (by decide)), b2.cong (funext fun k => t4.1 5 k (by decide)) (funext fun k => t4.1 6 k (by decide)) (funext fun k => t4.1 7 k (by decide)) (m2 7 (by decide) (by decide)) (m2 9 (by decide) (by decide)) (funext fun k => m1 6 k (by decide)) (funext fun k => m1 8 k (by decide)), b3.cg (Nat.le_refl K) (fun _ _ => ⟨rfl, rfl⟩) (t4.1 8 2 (by decide)) (t4.2.1 8 1 (by decide)) (m2 19 (by decide) (by decide)) (fun o k e1 e2 => m1 o k (by omega)), t7.2.2, by omega, t7.1, t4.2.2.trans b7, (m2 1 (by decide) (by decide)).trans b8, t7.2.1, b10, b11⟩
  · exact Or.inr ⟨E, v, t1, t2, t3⟩
/-- count -/
theorem zq_count (hT : zTI w b t C M r) (hr : zRr b r) (a : Int32) : zBo w b t (mX8_count N (b + 0) a) (mX9_count N (b + 75) a) (fun E v => E = "java/lang/IndexOutOfBoundsException" ∧ v = 1) C M r := by
  have hT' := hT
  obtain ⟨K, F, ρ, α, π, n, c, h, hs, Q, S, b1, b2, b3, b4, b5, b6, b7, b8, b9, b10, b11⟩ := hT
  rcases zp_count (N := N) (w := w) (b := b) (r := r) b6 (b1.1.trans b1.2.1.symm) (b3.2.2.1.1.trans b3.2.1.symm) (b2.1.trans b2.2.1.symm) a with ⟨v, t1, t2⟩ | ⟨t1, t2⟩
  · exact Or.inl ⟨C, zJ M 100 0 0, r, v, t1, t2, rfl, rfl, zRg.rf hr, hT'.ref (fun o k e => by rw [zJ1, if_neg e]) (fun _ => rfl)⟩
  · exact Or.inr ⟨_, 1, t1, t2, rfl, rfl⟩
end ZTP
