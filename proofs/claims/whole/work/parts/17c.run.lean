/-! ===== a run under way in both ===== -/
abbrev zFd : Type := Nat × Nat × Nat × (Nat → Nat) × (Nat → Nat)
def zFa (D : Nat → Nat → Prop) (C : zC) (M : zM) (ra : Nat → Nat) (f : Nat) (d : zFd) : Prop := zFr D C M ra f d.1 d.2.1 d.2.2.1 d.2.2.2.1 d.2.2.2.2
def zLe (l' l : Nat → Nat) : Prop := ∀ k, k < 16 → l' k = 0 ∨ l' k = l k
/-- methods: how many, addresses, what they are, their kinds -/
abbrev zQo : Type := Nat × (Nat → Nat) × (Nat → zMu) × (Nat → zTau)
def zLst (b : Nat) (C : zC) (r : zv_X) (nm : Nat) (ra : Nat → Nat) : Prop := C.1 8 2 = Int32.ofNat nm ∧ ∃ a, C.2.2 8 1 = .ref a ∧ (nm = 0 ∧ a = r.2.2.2.1 ∧ r.1 a = none ∧ (a < b ∨ b + 113 ≤ a) ∨ ∃ cap g, r.1 a = some (.inl (4, cap, .inr (.inr (.inr (.inr g))))) ∧ b + 113 ≤ a ∧ (cap = 10 ∨ cap = 15 ∨ cap = 22) ∧ nm ≤ cap ∧ ∀ i, i < nm → g i = some (ra i))
def zMe (b K : Nat) (F ρ : Nat → Nat) (r : zv_X) (C : zC) (M : zM) (Q : zQo) : Prop := Q.1 ≤ 20 ∧ M.1 100 19 = Int32.ofNat Q.1 ∧ zLst b C r Q.1 Q.2.1 ∧ ∀ m, m < Q.1 → zRt b r (Q.2.1 m) (Q.2.2.1 m) ∧ zMt M m (Q.2.2.1 m) ∧ zMuOk K (Q.2.2.1 m) ∧ zgood (K, F, ρ, Q.2.2.1) m (Q.2.2.1 m) (Q.2.2.2 m)
def zT0 (Q : zQo) (d : zFd) : Prop := ∃ l', Q.2.2.2 d.2.2.1 d.2.1 = some (zrv d.2.2.2.2 d.1, l') ∧ zLe l' d.2.2.2.1
def zT1 (Q : zQo) (d : zFd) (a : Nat) : Prop := uC (Q.2.2.1 d.2.2.1) d.2.1 = 184 ∧ uC (Q.2.2.1 d.2.2.1) (d.2.1 + 1) = a ∧ ∃ st0 l', Q.2.2.2 d.2.2.1 d.2.1 = some (st0, l') ∧ zLe l' d.2.2.2.1 ∧ zpop (zargs (uKd (Q.2.2.1 a)) (uNa (Q.2.2.1 a))) st0 = some (zrv d.2.2.2.2 d.1)
def zTp (Q : zQo) (f0 : Nat) (φ : Nat → zFd) : Prop := (∀ f, f ≤ f0 → (φ f).2.2.1 < Q.1) ∧ zT0 Q (φ f0) ∧ ∀ f, f < f0 → zT1 Q (φ f) (φ (f + 1)).2.2.1
def zRn (w b K : Nat) (F ρ α π : Nat → Nat) (r : zv_X) (Q : zQo) (D : Nat → Nat → Prop) (C : zC) (M : zM) (S f0 : Nat) (φ : Nat → zFd) : Prop :=
  zTy C M K F ρ α π ∧ zHp w K F ρ D C M S ∧ zMe b K F ρ r C M Q ∧ f0 < 16 ∧ C.1 15 6 = Int32.ofNat f0 ∧ C.2.2 15 5 = .ref (b + (3 * f0 + 27)) ∧ M.1 100 47 = Int32.ofNat (f0 + 1) ∧ C.1 15 3 = Int32.ofNat w ∧ M.1 100 1 = Int32.ofNat w ∧ C.1 15 10 = M.1 100 52 ∧ C.1 15 11 = M.1 100 53 ∧ (∀ f, f ≤ f0 → zFa D C M Q.2.1 f (φ f)) ∧ zTp Q f0 φ
def zOn (C : zC) (M : zM) : Prop := C.1 15 7 = -1 ∧ M.1 100 48 = 0 ∧ M.1 100 49 = 0 ∧ M.1 100 54 = 0 ∧ C.2.1 15 8 = 0 ∧ M.2 100 50 = 0
def zEd (w : Nat) (C : zC) (M : zM) (S : Nat) : Prop := ∃ o, (o = 0 ∨ o = 1 ∨ o = 3) ∧ C.1 15 7 = Int32.ofNat o ∧ M.1 100 48 = Int32.ofNat o ∧ M.1 100 49 = 1 ∧ M.1 100 54 = 0 ∧ C.2.1 15 8 = (if o = 3 then 0 else M.2 100 50) ∧ C.1 15 10 = M.1 100 52 ∧ C.1 15 11 = M.1 100 53 ∧ zHr w C S
/-- stores that a run leaves alone -/
def zSC (C C' : zC) : Prop := (∀ o k, o < 15 → C'.1 o k = C.1 o k) ∧ (∀ o k, o < 15 → C'.2.2 o k = C.2.2 o k) ∧ C'.1 15 3 = C.1 15 3 ∧ C'.1 15 9 = C.1 15 9
def zSM (M M' : zM) : Prop := (∀ o k, o < 29 → M'.1 o k = M.1 o k) ∧ (∀ k, k < 29 ∨ k = 51 → M'.1 100 k = M.1 100 k) ∧ ∀ k, M'.2 99 k = M.2 99 k
def zOut (w b K : Nat) (F ρ α π : Nat → Nat) (r : zv_X) (Q : zQo) (C : zC) (M : zM) (S : Nat) (C' : zC) (M' : zM) : Prop := zSC C C' ∧ zSM M M' ∧ ∃ S', S' ≤ S + 1 ∧ ((∃ D' f' φ', zRn w b K F ρ α π r Q D' C' M' S' f' φ' ∧ zOn C' M') ∨ zEd w C' M' S')
section ZRN
variable {N w b K S f0 : Nat} {F ρ α π : Nat → Nat} {D D' : Nat → Nat → Prop} {C C' : zC} {M M' : zM} {r : zv_X} {Q : zQo} {φ : Nat → zFd}
theorem zSC.rf : zSC C C := ⟨fun _ _ _ => rfl, fun _ _ _ => rfl, rfl, rfl⟩
theorem zSM.rf : zSM M M := ⟨fun _ _ _ => rfl, fun _ _ => rfl, fun _ => rfl⟩
theorem zSC.tr {C1 C2 : zC} (h : zSC C C1) (h' : zSC C1 C2) : zSC C C2 := ⟨fun o k e => (h'.1 o k e).trans (h.1 o k e), fun o k e => (h'.2.1 o k e).trans (h.2.1 o k e), h'.2.2.1.trans h.2.2.1, h'.2.2.2.trans h.2.2.2⟩
theorem zSM.tr {M1 M2 : zM} (h : zSM M M1) (h' : zSM M1 M2) : zSM M M2 := ⟨fun o k e => (h'.1 o k e).trans (h.1 o k e), fun k e => (h'.2.1 k e).trans (h.2.1 k e), fun k => (h'.2.2 k).trans (h.2.2 k)⟩
theorem zAC.sc (h : zAC C C') : zSC C C' := ⟨fun o k e => h.1 o k (Or.inl e), fun o k _ => by rw [h.2], h.1 15 3 (by decide), h.1 15 9 (by decide)⟩
theorem zAM.sm (h : zAM M M') : zSM M M' := ⟨fun o k e => h.1 o k (Or.inl e) (by omega), fun k e => h.1 100 k (Or.inr (by decide)) (by omega), fun k => h.2 99 k (by decide)⟩
theorem zTy.sc (h : zTy C M K F ρ α π) (hC : zSC C C') (hM : zSM M M') : zTy C' M' K F ρ α π :=
  h.cong (hC.1 1 3 (by decide)) (funext fun k => hC.1 2 k (by decide)) (funext fun k => hC.1 3 k (by decide)) (funext fun k => hC.1 4 k (by decide)) (hM.2.1 5 (by decide)) (funext fun k => hM.1 2 k (by decide)) (funext fun k => hM.1 3 k (by decide)) (funext fun k => hM.1 4 k (by decide))
theorem zMt.sm {m : Nat} {μ : zMu} (h : zMt M m μ) (hM : zSM M M') : zMt M' m μ := by
  have row : ∀ a, a < 29 → M'.1 a = M.1 a := fun a h => funext fun k => hM.1 a k h
  unfold zMt at h ⊢
  rw [row 18 (by decide), row 17 (by decide), row 11 (by decide), row 10 (by decide), row 12 (by decide), row 13 (by decide), row 14 (by decide), row 15 (by decide), row 16 (by decide)]
  exact h
theorem zMe.sc (h : zMe b K F ρ r C M Q) (hC : zSC C C') (hM : zSM M M') : zMe b K F ρ r C' M' Q := by
  obtain ⟨h1, h2, h3, h4⟩ := h
  refine ⟨h1, (hM.2.1 19 (by decide)).trans h2, ?_, fun m hm => ?_⟩
  · unfold zLst at h3 ⊢
    rw [hC.1 8 2 (by decide), hC.2.1 8 1 (by decide)]
    exact h3
  · obtain ⟨a1, a2, a3, a4⟩ := h4 m hm
    exact ⟨a1, a2.sm hM, a3, a4⟩
theorem zHp.cong (h : zHp w K F ρ D C M S) (hC : ∀ o k, 16 ≤ o → o ≤ 22 → C'.1 o k = C.1 o k) (hM : ∀ o k, 29 ≤ o → o ≤ 39 → M'.1 o k = M.1 o k) (h36 : M'.1 100 36 = M.1 100 36) (h38 : M'.1 100 38 = M.1 100 38) (h37 : ∀ k, M'.2 37 k = M.2 37 k) : zHp w K F ρ D C' M' S := by
  obtain ⟨a1, ⟨ω, u, tp, a2, a2'⟩, ⟨ν, c, ce, a3⟩, a4, a5⟩ := h
  have rc : ∀ o, 16 ≤ o → o ≤ 22 → C'.1 o = C.1 o := fun o h1 h2 => funext fun k => hC o k h1 h2
  have rm : ∀ o, 29 ≤ o → o ≤ 39 → M'.1 o = M.1 o := fun o h1 h2 => funext fun k => hM o k h1 h2
  have e1 : zha C' = zha C := funext fun t => by unfold zha; rw [rc 18 (by decide) (by decide)]
  have e2 : zhW C' = zhW C := funext fun t => by unfold zhW; rw [rc 19 (by decide) (by decide)]
  have e3 : zht C' = zht C := funext fun t => by unfold zht; rw [rc 17 (by decide) (by decide), e1]
  have e4 : zgb M' = zgb M := funext fun t => by unfold zgb; rw [rm 34 (by decide) (by decide)]
  have e5 : M'.2 37 = M.2 37 := funext h37
  refine ⟨a1, ⟨ω, u, tp, a2.cong (hC _ _ (by decide) (by decide)) (hC _ _ (by decide) (by decide)) (rc 21 (by decide) (by decide)) (rc 18 (by decide) (by decide)) (rc 19 (by decide) (by decide)), a2'⟩, ⟨ν, c, ce, a3.cong h36 h38 (rm 35 (by decide) (by decide)) (rm 29 (by decide) (by decide)) (rm 34 (by decide) (by decide)) (rm 33 (by decide) (by decide))⟩, fun x t hd => ?_, ?_⟩
  · obtain ⟨b1, b2, b3⟩ := a4 x t hd
    refine ⟨by rw [rm 29 (by decide) (by decide)]; exact b1, b2, ?_⟩
    unfold zPr at b3 ⊢
    rw [rm 32 (by decide) (by decide), rm 31 (by decide) (by decide), rm 33 (by decide) (by decide), e1, e2, e3, e4, e5, rc 17 (by decide) (by decide)]
    exact b3
  · unfold zHq at a5 ⊢
    rw [hC 16 9 (by decide) (by decide), rc 20 (by decide) (by decide)]
    exact a5
theorem zHr.cong (h : zHr w C S) (hC : ∀ o k, 16 ≤ o → o ≤ 22 → C'.1 o k = C.1 o k) : zHr w C' S := by
  have rc : ∀ o, 16 ≤ o → o ≤ 22 → C'.1 o = C.1 o := fun o h1 h2 => funext fun k => hC o k h1 h2
  unfold zHr zHq at h ⊢
  rw [hC 16 9 (by decide) (by decide), rc 20 (by decide) (by decide), rc 21 (by decide) (by decide)]
  exact h
theorem zFr.mv2 {ra : Nat → Nat} {j t p m : Nat} {lt st : Nat → Nat} (h : zFr D C M ra j t p m lt st) (c1 : C'.1 (j + 100) 2 = C.1 (j + 100) 2) (c2 : C'.1 (j + 100) 4 = C.1 (j + 100) 4) (c3 : C'.2.2 (j + 100) 3 = C.2.2 (j + 100) 3) (c4 : ∀ k, C'.2.1 (j + 120) k = C.2.1 (j + 120) k) (c5 : ∀ k, C'.1 (j + 140) k = C.1 (j + 140) k)
    (m1 : M'.1 42 j = M.1 42 j) (m2 : M'.1 41 j = M.1 41 j) (m3 : M'.1 40 j = M.1 40 j) (m4 : ∀ k, k < 16 → M'.1 44 (16 * j + k) = M.1 44 (16 * j + k) ∧ M'.2 43 (16 * j + k) = M.2 43 (16 * j + k)) (m5 : ∀ k, k < 12 → M'.1 46 (12 * j + k) = M.1 46 (12 * j + k) ∧ M'.2 45 (12 * j + k) = M.2 45 (12 * j + k)) : zFr D C' M' ra j t p m lt st := by
  obtain ⟨a1, a2, a3, a4, a5, a6, a7, a8, a9⟩ := h
  refine ⟨c1.trans a1, m1.trans a2, a3, c2.trans a4, m2.trans a5, c3.trans a6, m3.trans a7, fun k hk => ?_, fun k hk => ?_⟩
  · rw [(m4 k hk).1, (m4 k hk).2, c4, c5]; exact a8 k hk
  · rw [(m5 k (by omega)).1, (m5 k (by omega)).2, c4, c5]; exact a9 k hk
/-- the frames below one that alone changes -/
theorem zFr.low {ra : Nat → Nat} {f j t p m : Nat} {lt st : Nat → Nat} (h : zFr D C M ra j t p m lt st) (hj : j < f) (hf : f < 16) (hC : ∀ o k, o ≠ f + 100 → o ≠ f + 140 → 100 ≤ o → C'.1 o k = C.1 o k) (hL : ∀ o k, o ≠ f + 120 → 100 ≤ o → C'.2.1 o k = C.2.1 o k) (hV : ∀ o k, 100 ≤ o → C'.2.2 o k = C.2.2 o k) (hM : zTopM f M M' ∨ ((∀ o k, 40 ≤ o → o ≤ 46 → ¬ (k = f ∧ (o = 41 ∨ o = 42)) → ¬ (o = 44 ∧ 16 * f ≤ k ∧ k < 16 * f + 16) → ¬ (o = 46 ∧ 12 * f ≤ k ∧ k < 12 * f + 12) → M'.1 o k = M.1 o k) ∧ ∀ o k, 43 ≤ o → o ≤ 45 → ¬ (o = 43 ∧ 16 * f ≤ k ∧ k < 16 * f + 16) → ¬ (o = 45 ∧ 12 * f ≤ k ∧ k < 12 * f + 12) → M'.2 o k = M.2 o k)) : zFr D C' M' ra j t p m lt st := by
  have hM' : ((∀ o k, 40 ≤ o → o ≤ 46 → ¬ (k = f ∧ (o = 41 ∨ o = 42)) → ¬ (o = 44 ∧ 16 * f ≤ k ∧ k < 16 * f + 16) → ¬ (o = 46 ∧ 12 * f ≤ k ∧ k < 12 * f + 12) → M'.1 o k = M.1 o k) ∧ ∀ o k, 43 ≤ o → o ≤ 45 → ¬ (o = 43 ∧ 16 * f ≤ k ∧ k < 16 * f + 16) → ¬ (o = 45 ∧ 12 * f ≤ k ∧ k < 12 * f + 12) → M'.2 o k = M.2 o k) := by
    rcases hM with hM | hM
    · exact ⟨fun o k _ _ => hM.1 o k, fun o k _ _ => hM.2 o k⟩
    · exact hM
  refine h.mv2 (hC _ _ (by omega) (by omega) (by omega)) (hC _ _ (by omega) (by omega) (by omega)) (hV _ _ (by omega)) (fun k => hL _ _ (by omega) (by omega)) (fun k => hC _ _ (by omega) (by omega) (by omega)) (hM'.1 _ _ (by omega) (by omega) (by omega) (by omega) (by omega)) (hM'.1 _ _ (by omega) (by omega) (by omega) (by omega) (by omega)) (hM'.1 _ _ (by omega) (by omega) (by omega) (by omega) (by omega)) (fun k hk => ⟨hM'.1 _ _ (by omega) (by omega) (by omega) (by omega) (by omega), hM'.2 _ _ (by omega) (by omega) (by omega) (by omega)⟩) (fun k hk => ⟨hM'.1 _ _ (by omega) (by omega) (by omega) (by omega) (by omega), hM'.2 _ _ (by omega) (by omega) (by omega) (by omega)⟩)
theorem zfh_some {g : Nat → Option Nat} {i q : Nat} : ∀ {n : Nat}, zfh g n = some (i, q) → i < n ∧ g i = some q
  | 0, h => by cases h
  | n + 1, h => by
    have h' : (g n).elim (zfh g n) (fun q => some (n, q)) = some (i, q) := h
    cases hq : g n with
    | none =>
      rw [hq] at h'
      obtain ⟨h1, h2⟩ := zfh_some (n := n) h'
      exact ⟨by omega, h2⟩
    | some q' =>
      rw [hq] at h'
      cases h'
      exact ⟨by omega, hq⟩
theorem zFr.catch {ra : Nat → Nat} {i t p m q : Nat} {lt st : Nat → Nat} {re : Int32} {v tag : Int32} {tt : Nat} (h : zFr D C M ra i t p m lt st) (hs : zRf D re (Int64.ofNat (tt + 1))) : zFr D (zuC b C re tag (some (i, q))) (zuM M tt v (some (i, q))) ra i 1 q m lt (fun _ => 3) := by
  obtain ⟨a1, a2, a3, a4, a5, a6, a7, a8, a9⟩ := h
  unfold zuC zuM zPR zMP zMD
  refine ⟨?_, ?_, by omega, ?_, ?_, ?_, ?_, fun k hk => ?_, fun k hk => ?_⟩
  · simp (disch := omega) only [zI1, zI2, zV1, if_neg, if_pos, and_self, if_true]
  · simp (disch := omega) only [zJ1, zK1, if_neg, if_pos, and_self, if_true]
  · simp (disch := omega) only [zI1, zI2, zV1, if_neg, if_pos, and_self, if_true]
  · simp (disch := omega) only [zJ1, zK1, if_neg, if_pos, and_self, if_true]
  · show (zV (zI C 15 6 (Int32.ofNat i)) 15 5 _).2.2 (i + 100) 3 = _
    rw [zV3, if_neg (by omega)]; exact a6
  · simp (disch := omega) only [zJ1, zK1, if_neg]; exact a7
  · have e1 : ∀ o k, o ≠ 15 → (zV (zI C 15 6 (Int32.ofNat i)) 15 5 (.ref (b + (3 * i + 27)))).1 o k = C.1 o k := fun o k h => by rw [zV1, zI1, if_neg (by omega)]
    simp (disch := omega) only [zI1, zI2, zJ1, zJ2, zK1, zK2, zV1, zV2, if_neg]
    exact a8 k hk
  · have hk0 : k = 0 := by omega
    subst hk0
    simp (disch := omega) only [zI1, zI2, zJ1, zJ2, zK1, zK2, zV1, zV2, if_neg, if_pos, and_self, if_true, Nat.add_zero]
    exact ⟨rfl, by omega, by omega, zSl.mk3 hs⟩
/-- both unwind -/
theorem zp_unw {u t : Nat} (hN : 1700 < N) (hw : w ≤ 400) (hR : zRn w b K F ρ α π r Q D C M S f0 φ) (hO : zOn C M) (hd : D (u + 1) t) (h32 : M.1 32 t = Int32.ofNat 0) :
    ∃ C' M', zHC w b (mX4_unwind N (b + 15) (Int32.ofNat (u + 1))) C r id C' r ∧ zHM w b (mX9_hurl N (b + 75) (Int32.ofNat t)) M id M' ∧ zSC C C' ∧ zSM M M' ∧ ((∃ f' φ', zRn w b K F ρ α π r Q D C' M' S f' φ' ∧ zOn C' M') ∨ zEd w C' M' S) := by
  have hR' := hR
  obtain ⟨r1, r2, r3, r4, r5, r6, r7, r8, r9, r10, r11, r12, t1, t2, t3⟩ := hR
  obtain ⟨n1, n2, n3, n4, n5, n6⟩ := hO
  have hgo := r2.mo hw r1 hd
  have hho := r2.co hw r1 hd
  obtain ⟨b1, b2, u', so, cl, n, p1, p2, p3, p4, p5, p6, p7, p8, p9, p10, p11, p12, p13, p14⟩ := r2.2.2.2.1 _ t hd
  have : u' = u := by omega
  subst this
  have hso : so = 0 := by
    rw [p3] at h32
    exact zi_inj (by omega) (by omega) h32
  have hK30 := r1.2.2.2.1
  have hal : α cl < 2 ^ 31 := Nat.lt_of_lt_of_le (r1.2.2.2.2.2.2.1 cl p7).2.2.2.2.2.2.1 (Nat.pow_le_pow_right (by decide) (by omega))
  have htag : zht C u' = Int32.ofNat cl := by rw [p12, if_pos hso]
  have ha : zha C u' < w := by have := hho.2.1; have := hho.2.2.1; omega
  have typ : ∀ f, f ≤ f0 → ∃ st0 l', Q.2.2.2 (φ f).2.2.1 (φ f).2.1 = some (st0, l') ∧ zLe l' (φ f).2.2.2.1 := fun f hf => by
    by_cases c : f = f0
    · subst c
      obtain ⟨l', h1, h2⟩ := t2
      exact ⟨_, l', h1, h2⟩
    · obtain ⟨_, _, st0, l', h1, h2, _⟩ := t3 f (by omega)
      exact ⟨st0, l', h1, h2⟩
  have pl : ∀ f, f ≤ f0 → (φ f).2.1 ≤ 200 := fun f hf => by
    obtain ⟨st0, l', h1, _⟩ := typ f hf
    obtain ⟨_, _, a3, a4⟩ := r3.2.2.2 _ (t1 f hf)
    have := (a4.2.2 _ _ _ h1).1
    have := a3.1
    omega
  have hC : ∀ f, f ≤ f0 → C.1 (f + 100) 4 = Int32.ofNat ((fun f => (φ f).2.1) f) ∧ C.2.2 (f + 100) 3 = .ref (Q.2.1 ((fun f => (φ f).2.2.1) f)) ∧ (fun f => (φ f).2.1) f ≤ 200 ∧ zRt b r (Q.2.1 ((fun f => (φ f).2.2.1) f)) (Q.2.2.1 ((fun f => (φ f).2.2.1) f)) ∧ zMuOk K (Q.2.2.1 ((fun f => (φ f).2.2.1) f)) := fun f hf => by
    obtain ⟨a1, a2, a3, a4, a5, a6, a7, _⟩ := r12 f hf
    obtain ⟨g1, _, g3, _⟩ := r3.2.2.2 _ (t1 f hf)
    exact ⟨a4, a6, pl f hf, g1, g3⟩
  have hM : ∀ f, f ≤ f0 → M.1 40 f = Int32.ofNat ((fun f => (φ f).2.2.1) f) ∧ M.1 41 f = Int32.ofNat ((fun f => (φ f).2.1) f) ∧ (fun f => (φ f).2.1) f ≤ 200 ∧ (fun f => (φ f).2.2.1) f < 20 ∧ zMt M ((fun f => (φ f).2.2.1) f) (Q.2.2.1 ((fun f => (φ f).2.2.1) f)) ∧ zMuOk K (Q.2.2.1 ((fun f => (φ f).2.2.1) f)) := fun f hf => by
    obtain ⟨a1, a2, a3, a4, a5, a6, a7, _⟩ := r12 f hf
    obtain ⟨_, g2, g3, _⟩ := r3.2.2.2 _ (t1 f hf)
    have := t1 f hf
    have := r3.1
    exact ⟨a7, a5, pl f hf, by show (φ f).2.2.1 < 20; omega, g2, g3⟩
  have runC : ∀ o, zfh (zGf Q.2.2.1 (α cl) (fun f => (φ f).2.1) (fun f => (φ f).2.2.1)) (f0 + 1) = o → zHC w b (mX4_unwind N (b + 15) (Int32.ofNat (u' + 1))) C r id (zuC b C (Int32.ofNat (u' + 1)) (Int32.ofNat cl) o) r := fun o ho M0 => by
    have e := zd_u14 (N := N) (w := w) (b := b) (C := C) (r := r) (by omega) hw hK30 p2 ha hal hC r4 (f0 + 1) N (Nat.le_refl _) (by omega) M0
    have e2 := zd_classes (N := N) (w := w) (b := b) (C := C) (r := r) hw r1 p2 ha p8 p7 p10 (by unfold zTag; exact p12) M0
    rw [htag, ho, zi_pred] at e
    unfold mX4_unwind mX4_unwind_0
    rw [zqg_15_2, Option.bind_some, zqk_16, if_pos rfl, e2, Option.bind_some, zqg_15_6, Option.bind_some, r5]
    exact e
  have runM : ∀ o, zfh (zGf Q.2.2.1 (α cl) (fun f => (φ f).2.1) (fun f => (φ f).2.2.1)) (f0 + 1) = o → zHM w b (mX9_hurl N (b + 75) (Int32.ofNat t)) M id (zuM M t (Int32.ofNat cl) o) := fun o ho C0 r0 => by
    have e := zn_h0 (N := N) (w := w) (b := b) (C := C) (by omega) r1 hM r4 b2 p4 p7 (f0 + 1) N (Nat.le_refl _) (by omega) C0 r0
    rw [ho, zJsame r7] at e
    exact e
  cases ho : zfh (zGf Q.2.2.1 (α cl) (fun f => (φ f).2.1) (fun f => (φ f).2.2.1)) (f0 + 1) with
  | none =>
    refine ⟨_, _, runC _ ho, runM _ ho, ⟨fun o k h => ?_, fun o k h => rfl, ?_, ?_⟩, ⟨fun o k h => ?_, fun k h => ?_, fun k => ?_⟩, Or.inr ⟨1, Or.inr (Or.inl rfl), ?_, ?_, ?_, ?_, ?_, ?_, ?_, r2.rest.cong fun o k h1 h2 => ?_⟩⟩
    · show (zI C 15 7 1).1 o k = _
      rw [zI1, if_neg (by omega)]
    · show (zI C 15 7 1).1 15 3 = _
      rw [zI1, if_neg (by decide)]
    · show (zI C 15 7 1).1 15 9 = _
      rw [zI1, if_neg (by decide)]
    · unfold zuM; simp (disch := omega) only [zJ1, zK1, if_neg]
    · unfold zuM; simp (disch := omega) only [zJ1, zK1, if_neg]
    · unfold zuM; simp (disch := omega) only [zJ2, zK2, if_neg]
    · show (zI C 15 7 1).1 15 7 = _
      rw [zI1, if_pos ⟨rfl, rfl⟩]; rfl
    · unfold zuM; simp (disch := omega) only [zJ1, zK1, if_neg, if_pos, and_self, if_true]; rfl
    · unfold zuM; simp (disch := omega) only [zJ1, zK1, if_neg, if_pos, and_self, if_true]
    · unfold zuM; simp (disch := omega) only [zJ1, zK1, if_neg]; exact n4
    · rw [if_neg (by decide)]
      unfold zuC zuM; simp (disch := omega) only [zL2, zJ2, zK2, if_neg, if_pos, and_self, if_true]
    · unfold zuM; simp (disch := omega) only [zJ1, zK1, if_neg]
      show (zI C 15 7 1).1 15 10 = _
      rw [zI1, if_neg (by decide)]; exact r10
    · unfold zuM; simp (disch := omega) only [zJ1, zK1, if_neg]
      show (zI C 15 7 1).1 15 11 = _
      rw [zI1, if_neg (by decide)]; exact r11
    · show (zI C 15 7 1).1 o k = _
      rw [zI1, if_neg (by omega)]
  | some iq =>
    obtain ⟨i, q⟩ := iq
    obtain ⟨hi, hq⟩ := zfh_some ho
    have hi0 : i ≤ f0 := by omega
    obtain ⟨st0, l', y1, y2⟩ := typ i hi0
    obtain ⟨g1, g2, g3, g4⟩ := r3.2.2.2 _ (t1 i hi0)
    obtain ⟨q200, j, hj, j1, j2, j3⟩ := zct_le g3 (uH (Q.2.2.1 (φ i).2.2.1)) 0 q (Nat.zero_add _) hq
    obtain ⟨_, _, _, _, _, gh⟩ := g4.2.2 _ _ _ y1
    obtain ⟨gs, gf1, gf2, l2, gf3, gf4⟩ := gh j hj j1 j2
    have oC : ∀ o k, o ≠ 15 → o ≠ i + 100 → o ≠ i + 140 → (zuC b C (Int32.ofNat (u' + 1)) (Int32.ofNat cl) (some (i, q))).1 o k = C.1 o k := fun o k h1 h2 h3 => by
      unfold zuC zPR; simp (disch := omega) only [zI1, zV1, if_neg]
    have oM : ∀ o k, ¬ (o = 100 ∧ k = 47) → ¬ (k = i ∧ (o = 41 ∨ o = 42)) → ¬ (o = 46 ∧ k = 12 * i + 0) → (zuM M t (Int32.ofNat cl) (some (i, q))).1 o k = M.1 o k := fun o k h1 h2 h3 => by
      unfold zuM zMP zMD; simp (disch := omega) only [zJ1, zK1, if_neg]
    have oM2 : ∀ o k, ¬ (o = 45 ∧ k = 12 * i + 0) → (zuM M t (Int32.ofNat cl) (some (i, q))).2 o k = M.2 o k := fun o k h1 => by
      unfold zuM zMP zMD; simp (disch := omega) only [zJ2, zK2, if_neg]
    have o15 : ∀ k, k ≠ 6 → (zuC b C (Int32.ofNat (u' + 1)) (Int32.ofNat cl) (some (i, q))).1 15 k = C.1 15 k := fun k h => by
      unfold zuC zPR; simp (disch := omega) only [zI1, zV1, if_neg]
    have oV : ∀ o k, ¬ (o = 15 ∧ k = 5) → (zuC b C (Int32.ofNat (u' + 1)) (Int32.ofNat cl) (some (i, q))).2.2 o k = C.2.2 o k := fun o k h => by
      show (zV (zI C 15 6 (Int32.ofNat i)) 15 5 _).2.2 o k = _
      rw [zV3, if_neg h]
      rfl
    have sc : zSC C (zuC b C (Int32.ofNat (u' + 1)) (Int32.ofNat cl) (some (i, q))) := ⟨fun o k h => oC o k (by omega) (by omega) (by omega), fun o k h => oV o k (by omega), o15 3 (by decide), o15 9 (by decide)⟩
    have sm : zSM M (zuM M t (Int32.ofNat cl) (some (i, q))) := ⟨fun o k h => oM o k (by omega) (by omega) (by omega), fun k h => oM 100 k (by omega) (by omega) (by omega), fun k => oM2 99 k (by omega)⟩
    have hcat := (r12 i hi0).catch (b := b) (q := q) (v := Int32.ofNat cl) (tag := Int32.ofNat cl) (tt := t) (re := Int32.ofNat (u' + 1)) (Or.inr ⟨u' + 1, t, hd, rfl, rfl⟩)
    refine ⟨_, _, runC _ ho, runM _ ho, sc, sm, Or.inl ⟨i, fun f => if f = i then (1, q, (φ i).2.2.1, (φ i).2.2.2.1, fun _ => 3) else φ f, ⟨r1.sc sc sm, r2.cong (fun o k h1 h2 => oC o k (by omega) (by omega) (by omega)) (fun o k h1 h2 => oM o k (by omega) (by omega) (by omega)) (oM _ _ (by omega) (by omega) (by omega)) (oM _ _ (by omega) (by omega) (by omega)) (fun k => oM2 37 k (by omega)), r3.sc sc sm, by omega, ?_, ?_, ?_, (o15 3 (by decide)).trans r8, (oM _ _ (by omega) (by omega) (by omega)).trans r9, ?_, ?_, fun f hf => ?_, fun f hf => ?_, ?_, fun f hf => ?_⟩, ?_⟩⟩
    · unfold zuC zPR; simp (disch := omega) only [zI1, zV1, if_neg, if_pos, and_self, if_true]
    · show (zV (zI C 15 6 (Int32.ofNat i)) 15 5 _).2.2 15 5 = _
      rw [zV3, if_pos ⟨rfl, rfl⟩]
    · unfold zuM zMP zMD; simp (disch := omega) only [zJ1, zK1, if_neg, if_pos, and_self, if_true]
    · rw [o15 10 (by decide), oM _ _ (by omega) (by omega) (by omega)]; exact r10
    · rw [o15 11 (by decide), oM _ _ (by omega) (by omega) (by omega)]; exact r11
    · show zFa D _ _ Q.2.1 f (if f = i then _ else φ f)
      by_cases c : f = i
      · rw [if_pos c, c]
        exact hcat
      · rw [if_neg c]
        refine (r12 f (by omega)).low (f := i) (by omega) (by omega) (fun o k h1 h2 h3 => oC o k (by omega) h1 h2) (fun o k _ _ => rfl) (fun o k h => oV o k (by omega)) (Or.inr ⟨fun o k h1 h2 h3 h4 h5 => oM o k (by omega) h3 (by omega), fun o k h1 h2 h3 h4 => oM2 o k (by omega)⟩)
    · show (if f = i then ((1, q, (φ i).2.2.1, (φ i).2.2.2.1, fun _ => 3) : zFd) else φ f).2.2.1 < Q.1
      by_cases c : f = i
      · rw [if_pos c]; exact t1 i hi0
      · rw [if_neg c]; exact t1 f (by omega)
    · show zT0 Q (if i = i then _ else φ i)
      rw [if_pos rfl]
      have e2 : ((uHs (Q.2.2.1 (φ i).2.2.1) (4 * j + 2) : Nat) : Int).toNat = q := by rw [Int.toNat_natCast]; exact j3.symm
      rw [e2] at gf3
      refine ⟨l2, gf3, fun k hk => ?_⟩
      rcases gf4 k hk with h | h
      · exact Or.inl h
      · rcases y2 k hk with h' | h'
        · exact Or.inl (h.trans h')
        · exact Or.inr (h.trans h')
    · show zT1 Q (if f = i then _ else φ f) (if f + 1 = i then ((1, q, (φ i).2.2.1, (φ i).2.2.2.1, fun _ => 3) : zFd) else φ (f + 1)).2.2.1
      rw [if_neg (by omega)]
      have h := t3 f (by omega)
      by_cases c : f + 1 = i
      · rw [if_pos c]
        rw [c] at h
        exact h
      · rw [if_neg c]; exact h
    · refine ⟨(o15 7 (by decide)).trans n1, (oM _ _ (by omega) (by omega) (by omega)).trans n2, (oM _ _ (by omega) (by omega) (by omega)).trans n3, (oM _ _ (by omega) (by omega) (by omega)).trans n4, n5, (oM2 _ _ (by omega)).trans n6⟩
end ZRN
