/-! ===== both make: the same ===== -/
def zFs (D : Nat → Nat → Prop) (C : zC) (M : zM) (ra : Nat → Nat) (f0 : Nat) : Prop := ∀ f, f ≤ f0 → ∃ t p m lt st, zFr D C M ra f t p m lt st
theorem zel_0 (so k : Nat) {W : Nat → Int32} (h : ∀ j, (so = 4 ∨ so = 8) ∧ j = k / 4 ∨ (so = 5 ∨ so = 9) ∧ j = k / 2 ∨ so = 11 ∧ (j = 2 * k ∨ j = 2 * k + 1) ∨ (so ≠ 4 ∧ so ≠ 8 ∧ so ≠ 5 ∧ so ≠ 9 ∧ so ≠ 11) ∧ j = k → W j = 0) : zel so W k = 0 := by
  unfold zel
  by_cases c1 : so = 4 ∨ so = 8
  · rw [if_pos c1, h (k / 4) (Or.inl ⟨c1, rfl⟩)]
    have : ∀ s, s < 4 → Int32.toInt64 ((Int32.toInt8 ((0 : Int32) >>> Int32.ofNat (s * 8))).toInt32) = 0 := by decide
    exact this _ (by omega)
  · rw [if_neg c1]
    by_cases c2 : so = 5
    · rw [if_pos c2, h (k / 2) (Or.inr (Or.inl ⟨Or.inl c2, rfl⟩))]
      have : ∀ s, s < 2 → Int32.toInt64 ((Int32.toUInt32 ((0 : Int32) >>> Int32.ofNat (s * 16)) % 65536).toInt32) = 0 := by decide
      exact this _ (by omega)
    · rw [if_neg c2]
      by_cases c3 : so = 9
      · rw [if_pos c3, h (k / 2) (Or.inr (Or.inl ⟨Or.inr c3, rfl⟩))]
        have : ∀ s, s < 2 → Int32.toInt64 ((Int32.toInt16 ((0 : Int32) >>> Int32.ofNat (s * 16))).toInt32) = 0 := by decide
        exact this _ (by omega)
      · rw [if_neg c3]
        by_cases c4 : so = 11
        · rw [if_pos c4, h (2 * k) (Or.inr (Or.inr (Or.inl ⟨c4, Or.inl rfl⟩))), h (2 * k + 1) (Or.inr (Or.inr (Or.inl ⟨c4, Or.inr rfl⟩)))]
          decide
        · rw [if_neg c4, h k (Or.inr (Or.inr (Or.inr ⟨by omega, rfl⟩)))]
          decide
section ZPM
variable {N w b K S f0 : Nat} {F ρ α π ra : Nat → Nat} {D D' : Nat → Nat → Prop} {C C' : zC} {M M' : zM} {r : zv_X}
theorem zSl.mv {tag : Nat} {v nu : Int64} {re : Int32} (h : zSl D tag v nu re) (hm : ∀ h t, tag = 3 → D h t → v = Int64.ofNat (t + 1) → D' h t) : zSl D' tag v nu re := by
  rcases h with ⟨h1, h2⟩ | h
  · refine Or.inl ⟨h1, ?_⟩
    rcases h2 with h2 | ⟨h, t, e1, e2, e3⟩
    · exact Or.inl h2
    · exact Or.inr ⟨h, t, hm h t h1 e1 e3, e2, e3⟩
  · exact Or.inr h
theorem zFr.mv {f t p m : Nat} {lt st : Nat → Nat} (h : zFr D C M ra f t p m lt st) (hD : zDok D) (h1 : ∀ k, C'.1 (f + 100) k = C.1 (f + 100) k) (h2 : ∀ k, C'.1 (f + 140) k = C.1 (f + 140) k) (h3 : C'.2 = C.2) (m1 : ∀ o k, 40 ≤ o → o ≤ 46 → M'.1 o k = M.1 o k) (m2 : ∀ o k, o ≠ 37 → M'.2 o k = M.2 o k)
    (hL : ∀ k h t', k < 16 → zgL M f k = t' + 1 → D h t' → D' h t') (hS : ∀ k h t', k < zN (M.1 42 f) → zgS M f k = t' + 1 → D h t' → D' h t') : zFr D' C' M' ra f t p m lt st := by
  obtain ⟨a1, a2, a3, a4, a5, a6, a7, a8, a9⟩ := h
  refine ⟨(h1 2).trans a1, (m1 42 f (by decide) (by decide)).trans a2, a3, (h1 4).trans a4, (m1 41 f (by decide) (by decide)).trans a5, by rw [h3]; exact a6, (m1 40 f (by decide) (by decide)).trans a7, fun k hk => ?_, fun k hk => ?_⟩
  · obtain ⟨b1, b2, b3⟩ := a8 k hk
    rw [m1 44 _ (by decide) (by decide), m2 43 _ (by decide), h3, h2]
    refine ⟨b1, b2, b3.mv fun h t' e1 e2 e3 => hL k h t' hk ?_ e2⟩
    have := hD.1 h t' e2
    unfold zgL
    rw [b1, e1, if_pos (show Int32.ofNat 3 = 3 from rfl), e3, zN8_nat (by omega)]
  · obtain ⟨b1, b2, b3, b4⟩ := a9 k hk
    rw [m1 46 _ (by decide) (by decide), m2 45 _ (by decide), h3, h2]
    refine ⟨b1, b2, b3, b4.mv fun h t' e1 e2 e3 => hS k h t' ?_ ?_ e2⟩
    · rw [a2, zN_nat (by omega)]; exact hk
    · have := hD.1 h t' e2
      unfold zgS
      rw [b1, e1, if_pos (show Int32.ofNat 3 = 3 from rfl), e3, zN8_nat (by omega)]
theorem zFs.r1 (h : zFs D C M ra f0) (hD : zDok D) {t : Nat} (ht : zgT M (f0 + 1) t) : ∃ u, D (u + 1) t ∧ zhT C (f0 + 1) u := by
  obtain ⟨f, hf, ht⟩ := ht
  obtain ⟨tt, p, m, lt, st, a1, a2, a3, a4, a5, a6, a7, a8, a9⟩ := h f (by omega)
  have e2 : zN (C.1 (f + 100) 2) = 16 + tt := by rw [a1, zN_nat (by omega)]
  have fin : ∀ (tag k i : Nat) (v nu : Int64), i < 16 + tt → tag ≤ 3 → (if Int32.ofNat tag = 3 then zN8 v else 0) = t + 1 → zSl D tag v nu (C.1 (f + 140) i) → ∃ u, D (u + 1) t ∧ zhT C (f0 + 1) u := by
    intro tag k i v nu hi htag e hs
    have h3 : tag = 3 := by
      by_cases c : Int32.ofNat tag = 3
      · exact zi_inj (by omega) (by omega) c
      · rw [if_neg c] at e; omega
    subst h3
    rw [if_pos (show Int32.ofNat 3 = 3 from rfl)] at e
    rcases zRf.nat hD hs.ref with ⟨_, e2⟩ | ⟨h', t', d1, d2, d3⟩
    · omega
    · have : t' = t := by omega
      subst this
      have hb := hD.1 _ _ d1
      refine ⟨h' - 1, by rw [show h' - 1 + 1 = h' by omega]; exact d1, f, hf, i, by omega, ?_⟩
      unfold zhS
      omega
  rcases ht with ⟨k, hk, e⟩ | ⟨k, hk, e⟩
  · obtain ⟨b1, b2, b3⟩ := a8 k hk
    unfold zgL at e
    rw [b1] at e
    exact fin (lt k) k k _ _ (by omega) b2 e b3
  · rw [a2, zN_nat (by omega)] at hk
    obtain ⟨b1, b2, b3, b4⟩ := a9 k hk
    unfold zgS at e
    rw [b1] at e
    exact fin (st k) k (16 + k) _ _ (by omega) b3 e b4
theorem zFs.r2 (h : zFs D C M ra f0) (hD : zDok D) {u : Nat} (hu : zhT C (f0 + 1) u) : ∃ t, D (u + 1) t ∧ zgT M (f0 + 1) t := by
  obtain ⟨f, hf, i, hi, e⟩ := hu
  obtain ⟨tt, p, m, lt, st, a1, a2, a3, a4, a5, a6, a7, a8, a9⟩ := h f (by omega)
  rw [a1, zN_nat (by omega)] at hi
  unfold zhS at e
  have fin : ∀ (tag : Nat) (v nu : Int64), zSl D tag v nu (C.1 (f + 140) i) → ∃ t', D (u + 1) t' ∧ tag = 3 ∧ zN8 v = t' + 1 := by
    intro tag v nu hs
    rcases hs with ⟨h1, h2⟩ | ⟨_, h2, _⟩
    · rcases zRf.nat hD h2 with ⟨e2, _⟩ | ⟨h', t', d1, d2, d3⟩
      · omega
      · exact ⟨t', by rw [← e, d2]; exact d1, h1, d3⟩
    · rw [h2] at e
      exact absurd e (by show ¬ 0 = u + 1; omega)
  by_cases c : i < 16
  · obtain ⟨b1, b2, b3⟩ := a8 i c
    obtain ⟨t', d1, d2, d3⟩ := fin _ _ _ b3
    refine ⟨t', d1, f, hf, Or.inl ⟨i, c, ?_⟩⟩
    unfold zgL
    rw [b1, d2, if_pos (show Int32.ofNat 3 = 3 from rfl)]
    exact d3
  · obtain ⟨b1, b2, b3, b4⟩ := a9 (i - 16) (by omega)
    rw [show 16 + (i - 16) = i by omega] at b4
    obtain ⟨t', d1, d2, d3⟩ := fin _ _ _ b4
    refine ⟨t', d1, f, hf, Or.inr ⟨i - 16, by rw [a2, zN_nat (by omega)]; omega, ?_⟩⟩
    unfold zgS
    rw [b1, d2, if_pos (show Int32.ofNat 3 = 3 from rfl)]
    exact d3
theorem zHc.cong {ω : Nat → Nat} {u tp : Nat} (h : zHc w C ω u tp) (h1 : C'.1 16 7 = C.1 16 7) (h2 : C'.1 16 8 = C.1 16 8) (h3 : C'.1 21 = C.1 21) (h4 : C'.1 18 = C.1 18) (h5 : C'.1 19 = C.1 19) : zHc w C' ω u tp := by
  have e1 : zha C' = zha C := funext fun t => by unfold zha; rw [h4]
  have e2 : zhW C' = zhW C := funext fun t => by unfold zhW; rw [h5]
  unfold zHc at h ⊢
  rw [h1, h2, h3, e1, e2]
  exact h
def zTag (so ty : Nat) : Int32 := if so = 0 then Int32.ofNat ty else -Int32.ofNat so
def zLen (so n : Nat) : Int32 := if so = 0 then 0 else Int32.ofNat n
/-- stores that a make leaves alone -/
def zAC (C C' : zC) : Prop := (∀ o k, (o < 15 ∨ 22 < o ∨ (o = 15 ∧ k ≠ 7 ∧ k ≠ 10 ∧ k ≠ 11)) → C'.1 o k = C.1 o k) ∧ C'.2 = C.2
def zAM (M M' : zM) : Prop := (∀ o k, (o < 29 ∨ 39 < o) → ¬ (o = 100 ∧ (k = 36 ∨ k = 38 ∨ k = 48 ∨ k = 49 ∨ k = 52 ∨ k = 53)) → M'.1 o k = M.1 o k) ∧ ∀ o k, o ≠ 37 → M'.2 o k = M.2 o k
theorem zp_make {ty so n : Nat} (hN : 1700 < N) (hw : w ≤ 400) (hT : zTy C M K F ρ α π) (hH : zHp w K F ρ D C M S) (hS : S + 1 < 2 ^ 31) (hf0 : f0 < 16) (hd : C.1 15 6 = Int32.ofNat f0) (hF : M.1 100 47 = Int32.ofNat (f0 + 1)) (hr : C.1 15 3 = Int32.ofNat w) (hW : M.1 100 1 = Int32.ofNat w) (hFs : zFs D C M ra f0) (h11 : C.1 15 11 = M.1 100 53)
    (hso : so = 0 ∨ so = 4 ∨ so = 5 ∨ so = 8 ∨ so = 9 ∨ so = 10 ∨ so = 11 ∨ so = 12) (hty : ty < K) (hn0 : so = 0 → n = F ty) (hty0 : so ≠ 0 → ty = 0) (hn : n < 2 ^ 31) :
    (∃ C' M', zHC w b (mX4_make N (b + 15) (zTag so ty) (zLen so n) (Int64.ofNat (zwd so n))) C r (fun x => (x, 0)) C' r ∧ zHM w b (mX9_make N (b + 75) (Int32.ofNat ty) (Int32.ofNat so) (Int32.ofNat n)) M (fun x => (x, 0)) M' ∧ zAC C C' ∧ zAM M M' ∧ zHr w C' (S + 1) ∧ C'.1 15 7 = 3 ∧ M'.1 100 48 = 3 ∧ M'.1 100 49 = 1 ∧ C'.1 15 10 = C.1 15 10 ∧ C'.1 15 11 = C.1 15 11 ∧ M'.1 100 52 = M.1 100 52 ∧ M'.1 100 53 = M.1 100 53) ∨
    ∃ C' M' D' h t, zHC w b (mX4_make N (b + 15) (zTag so ty) (zLen so n) (Int64.ofNat (zwd so n))) C r (fun x => (x, Int32.ofNat h)) C' r ∧ zHM w b (mX9_make N (b + 75) (Int32.ofNat ty) (Int32.ofNat so) (Int32.ofNat n)) M (fun x => (x, Int64.ofNat (t + 1))) M' ∧ zAC C C' ∧ zAM M M' ∧ zHp w K F ρ D' C' M' (S + 1) ∧ D' h t ∧ M'.1 32 t = Int32.ofNat so ∧ M'.1 31 t = Int32.ofNat ty ∧
      (∀ f t p m lt st, f ≤ f0 → zFr D C M ra f t p m lt st → zFr D' C' M' ra f t p m lt st) ∧ C'.1 15 7 = C.1 15 7 ∧ M'.1 100 48 = M.1 100 48 ∧ M'.1 100 49 = M.1 100 49 ∧ C'.1 15 10 = M'.1 100 52 ∧ C'.1 15 11 = M'.1 100 53 ∧ zwd so n ≤ w := by
  have hso12 : so ≤ 12 := by omega
  have hH' := hH
  obtain ⟨hD, ⟨ω, us, tp, hc, hcD⟩, ⟨ν, c, ce, hm⟩, hP, hQ⟩ := hH
  have lk : ∀ u t, D (u + 1) t → _ := fun u t h => (hP _ t h).2.2.lk hD hT
  have A1 : ∀ t, zRc (zgT M (f0 + 1)) (zgr M) (zgz M) t → ∃ u, D (u + 1) t := fun t h => h (fun t => ∃ u, D (u + 1) t) (fun t h => by
    obtain ⟨u, h1, _⟩ := hFs.r1 hD h
    exact ⟨u, h1⟩) fun t ⟨u, hu⟩ k v hk hv => by
    rcases (lk u t hu).1 k hk with ⟨h1, _⟩ | ⟨h', t', d1, d2, d3⟩
    · omega
    · have hb := hD.1 _ _ d1
      have : t' = v := by omega
      subst this
      exact ⟨h' - 1, by rw [show h' - 1 + 1 = h' by omega]; exact d1⟩
  have A2 : ∀ u, zRc (zhT C (f0 + 1)) (zhf C) (zhz C) u → ∃ t, D (u + 1) t := fun u h => h (fun u => ∃ t, D (u + 1) t) (fun u h => by
    obtain ⟨t, h1, _⟩ := hFs.r2 hD h
    exact ⟨t, h1⟩) fun u ⟨t, hu⟩ k v hk hv => by
    rcases (lk u t hu).1 k ((lk u t hu).2 k hk (by omega)) with ⟨_, h1⟩ | ⟨h', t', d1, d2, d3, d4⟩
    · have := h1 hk; omega
    · exact ⟨t', by rw [← hv, d4]; exact d1⟩
  obtain ⟨σm, am, fm, nm, ym⟩ := zn_make (N := N) (w := w) (b := b) (M := M) (F := f0 + 1) (ty := ty) (so := so) (n := n) hN hw hW hm hF (by omega) (fun f hf => by
    obtain ⟨tt, p, m, lt, st, a1, a2, a3, _⟩ := hFs f (by omega)
    rw [a2, zN_nat (by omega)]; exact a3) (fun t h => by
    obtain ⟨u, hu⟩ := A1 t h
    exact hH'.mo hw hT hu) hso12 hn
  obtain ⟨σc, ac, fc, runc⟩ := zd_make (N := N) (w := w) (b := b) (C := C) (r := r) (S := S) (f0 := f0) (by omega) hw hQ hS hd hf0 (fun f hf => by
    obtain ⟨tt, p, m, lt, st, a1, a2, a3, _⟩ := hFs f (by omega)
    rw [a1, zN_nat (by omega)]; omega) hr (fun u h => by
    obtain ⟨t, ht⟩ := A2 u h
    exact hH'.co hw hT ht)
  have hWW : ∀ u t, D (u + 1) t → zhW C u = zgW M t := fun u t h => by
    obtain ⟨a1, a2, u', so', cl, n', p1, p2, p3, p4, p5, p6, p7, p8, p9, p10, p11, _⟩ := hP _ t h
    have : u' = u := by omega
    subst this
    unfold zgW
    rw [p11, p3, p5, zN_nat (by omega), zN_nat (by omega)]
  obtain ⟨q1, q2, q3, q4⟩ := zp_same (D := D) hD fm fc (fun t h => hFs.r1 hD h) (fun u h => hFs.r2 hD h) (fun u t k v h hk hv => by
    rcases (lk u t h).1 k hk with ⟨h1, _⟩ | ⟨h', t', d1, d2, d3, d4⟩
    · omega
    · have hb := hD.1 _ _ d1
      have : t' = v := by omega
      subst this
      exact ⟨h' - 1, by rw [show h' - 1 + 1 = h' by omega]; exact d1, k, d3, by omega⟩) (fun u t k v h hk hv => by
    have hk' := (lk u t h).2 k hk (by omega)
    rcases (lk u t h).1 k hk' with ⟨_, h1⟩ | ⟨h', t', d1, d2, d3, d4⟩
    · have := h1 hk; omega
    · exact ⟨t', by rw [← hv, d4]; exact d1, k, hk', d2⟩) hWW
  subst q4
  obtain ⟨rn, ry⟩ := runc (zTag so ty) (zLen so n) (zwd so n) (by have := (zwd_sz so n).2.2; omega)
  have hwn := zwd_sz so n
  -- the store behind the search
  have o1 : ∀ a k, ¬ (a = 16 ∧ (k = 9 ∨ k = 10)) → a ≠ 20 → a ≠ 22 → (zcS (zI (zI C 16 9 (Int32.ofNat (S + 1))) 16 10 0) (Int32.ofNat (S + 1)) σc).1 a k = C.1 a k := fun a k h1 h2 h3 => by
    rw [zcS_o h2 h3 (by omega), zI1, if_neg (by omega), zI1, if_neg (by omega)]
  have o20 : ∀ u, (zcS (zI (zI C 16 9 (Int32.ofNat (S + 1))) 16 10 0) (Int32.ofNat (S + 1)) σc).1 20 (u + 1) = if σc.1 u = true then Int32.ofNat (S + 1) else C.1 20 (u + 1) := fun u => by
    rw [zcS_in, zI1, if_neg (show ¬ (20 = 16 ∧ u + 1 = 10) by omega), zI1, if_neg (show ¬ (20 = 16 ∧ u + 1 = 9) by omega)]
  have o9 : (zcS (zI (zI C 16 9 (Int32.ofNat (S + 1))) 16 10 0) (Int32.ofNat (S + 1)) σc).1 16 9 = Int32.ofNat (S + 1) := by
    rw [zcS_o (by decide) (by decide) (by decide), zI1, if_neg (by decide), zI1, if_pos ⟨rfl, rfl⟩]
  have hq20 : ∀ u, u < w / 2 → ∃ s, s ≤ S + 1 ∧ (zcS (zI (zI C 16 9 (Int32.ofNat (S + 1))) 16 10 0) (Int32.ofNat (S + 1)) σc).1 20 (u + 1) = Int32.ofNat s := fun u hu => by
    rw [o20]
    by_cases e : σc.1 u = true
    · exact ⟨S + 1, Nat.le_refl _, if_pos e⟩
    · obtain ⟨s, h1, h2⟩ := hQ.2 u hu
      exact ⟨s, by omega, by rw [if_neg e]; exact h2⟩
  by_cases hroom : am + zwd so n ≤ w
  · refine Or.inr ?_
    obtain ⟨M', ν', c', ce', t, g1, g2, g3, g4, g5, g6, g7, g8, g9, g10, g11, g12, g13, g14, g15⟩ := ym hroom
    generalize hCs : zI (zI (zcS (zI (zI C 16 9 (Int32.ofNat (S + 1))) 16 10 0) (Int32.ofNat (S + 1)) σc) 15 10 (Int32.ofNat (am + zwd so n))) 15 11 (zm_max (C.1 15 11) (Int32.ofNat (am + zwd so n))) = Cs at ry
    have s1 : ∀ a k, ¬ (a = 16 ∧ (k = 9 ∨ k = 10)) → ¬ (a = 15 ∧ (k = 10 ∨ k = 11)) → a ≠ 20 → a ≠ 22 → Cs.1 a k = C.1 a k := fun a k h1 h2 h3 h4 => by
      rw [← hCs, zI1, if_neg (by omega), zI1, if_neg (by omega)]; exact o1 a k h1 h3 h4
    have srow : ∀ a, a ≠ 15 → a ≠ 16 → a ≠ 20 → a ≠ 22 → Cs.1 a = C.1 a := fun a h1 h2 h3 h4 => funext fun k => s1 a k (by omega) (by omega) h3 h4
    have s20 : ∀ u, Cs.1 20 (u + 1) = if σc.1 u = true then Int32.ofNat (S + 1) else C.1 20 (u + 1) := fun u => by
      rw [← hCs, zI1, if_neg (by omega), zI1, if_neg (by omega)]; exact o20 u
    have s9 : Cs.1 16 9 = Int32.ofNat (S + 1) := by rw [← hCs, zI1, if_neg (by omega), zI1, if_neg (by omega)]; exact o9
    obtain ⟨ef, ez, eW, ea, et⟩ := zh_same (C' := Cs) (C := C) (srow 17 (by decide) (by decide) (by decide) (by decide)) (srow 18 (by decide) (by decide) (by decide) (by decide)) (srow 19 (by decide) (by decide) (by decide) (by decide)) (srow 4 (by decide) (by decide) (by decide) (by decide))
    have hcs : zHc w Cs ω us tp := hc.cong (s1 _ _ (by decide) (by decide) (by decide) (by decide)) (s1 _ _ (by decide) (by decide) (by decide) (by decide)) (srow 21 (by decide) (by decide) (by decide) (by decide)) (srow 18 (by decide) (by decide) (by decide) (by decide)) (srow 19 (by decide) (by decide) (by decide) (by decide))
    obtain ⟨C', ω', u', tp', x, d1, d2, d3, d4, d5, d6, d7, d8, d9, d10, d11, d12⟩ := zd_add (N := N) (w := w) (b := b) (C := Cs) (r := r) (S := σc.1) (wn := zwd so n) (by omega) hw hcs (fun y hy => by
      rw [s20, s9]
      by_cases e : σc.1 y = true
      · rw [if_pos e]; exact ⟨fun _ => e, fun _ => rfl⟩
      · rw [if_neg e]
        refine ⟨fun h => ?_, fun h => absurd h e⟩
        obtain ⟨s, h1, h2⟩ := hQ.2 y hy
        rw [h2] at h
        have := zi_inj (by omega) (by omega) h
        omega) (fun y hy => by
      obtain ⟨t', ht'⟩ := q3 y hy
      obtain ⟨i, hi, he⟩ := hcD _ _ ht'
      exact ⟨i, hi, by omega⟩) hwn.2.1 (by rw [eW, ← fc.2.2.2]; exact hroom) (zTag so ty) (zLen so n)
    have hrun := ry hroom C' (Int32.ofNat (x + 1)) d1
    have kp : ∀ y, σc.1 y = true → zKp C C' y := fun y hy => by
      obtain ⟨k1, k2⟩ := (d5 y hy).2
      rw [eW] at k1 k2
      rw [ea, srow 17 (by decide) (by decide) (by decide) (by decide)] at k2
      exact ⟨k1, k2⟩
    have cl : ∀ a k, (a < 15 ∨ 22 < a ∨ (a = 15 ∧ k ≠ 7 ∧ k ≠ 10 ∧ k ≠ 11)) → C'.1 a k = C.1 a k := fun a k h => by
      rw [d11 a k (by omega) (by omega) (by omega) (by omega) (by omega)]
      exact s1 a k (by omega) (by omega) (by omega) (by omega)
    have c2 : C'.2 = C.2 := d12.trans (by rw [← hCs]; rfl)
    refine ⟨C', M', fun h t' => (D h t' ∧ σm.1 t' = true) ∨ (h = x + 1 ∧ t' = t), x + 1, t, hrun, g1, ⟨cl, c2⟩, ⟨fun o k h1 h2 => g14 o k (by omega) (by omega) (by omega) (by omega) (by omega) (by omega) (by omega) (by omega) (by omega), g15⟩, ⟨⟨fun h t' q => ?_, fun h t1 t2 q q' => ?_, fun h1 h2 t' q q' => ?_⟩, ⟨ω', u', tp', d2, fun h t' q => ?_⟩, ⟨ν', c', ce', g2⟩, fun h t' q => ?_, ?_, fun u hu => ?_⟩, Or.inr ⟨rfl, rfl⟩, g9, g8, fun f tt p m lt st hf hfr => ?_, ?_, ?_, ?_, ?_, ?_, by omega⟩
    · rcases q with q | q
      · exact hD.1 _ _ q.1
      · omega
    · rcases q with q | q
      · rcases q' with q' | q'
        · exact hD.2.1 _ _ _ q.1 q'.1
        · rw [q'.1] at q
          exact absurd ((q1 _ _ q.1).1 q.2) d4
      · rcases q' with q' | q'
        · rw [q.1] at q'
          exact absurd ((q1 _ _ q'.1).1 q'.2) d4
        · omega
    · rcases q with q | q
      · rcases q' with q' | q'
        · exact hD.2.2 _ _ _ q.1 q'.1
        · rw [q'.2] at q
          exact absurd q.2 g4
      · rcases q' with q' | q'
        · rw [q.2] at q'
          exact absurd q'.2 g4
        · omega
    · rcases q with q | q
      · have hb := hD.1 _ _ q.1
        have := (d5 (h - 1) ((q1 (h - 1) t' (by rw [show h - 1 + 1 = h by omega]; exact q.1)).1 q.2)).1
        obtain ⟨i, h1, h2⟩ := this
        exact ⟨i, h1, by omega⟩
      · obtain ⟨i, h1, h2⟩ := d6
        exact ⟨i, h1, by omega⟩
    · rcases q with q | q
      · have hb := hD.1 _ _ q.1
        obtain ⟨u, rfl⟩ : ∃ u, h = u + 1 := ⟨h - 1, by omega⟩
        obtain ⟨p1, p2, p3⟩ := hP _ _ q.1
        refine ⟨(g5 t' q.2).1, p2, p3.keep hD hT (kp u ((q1 _ _ q.1).1 q.2)) (g5 t' q.2).2 fun k h' t'' hk hv hd' => Or.inl ⟨hd', fm.2.1 t' q.2 k t'' hk hv⟩⟩
      · obtain ⟨e1, e2⟩ := q
        subst e1
        subst e2
        have hz : ∀ j, 2 + j < zwd so n → C'.1 17 (zha C' x + 2 + j) = 0 := fun j hj => by
          rw [show zha C' x + 2 + j = zha C' x + (2 + j) by omega]
          exact d10 (2 + j) (by omega) hj
        refine ⟨g7, g3, x, so, ty, n, rfl, d3, g9, g8, g10, by omega, hty, hso, hn0, hty0, d7, d8, d9, fun k hk => ?_⟩
        rw [g11 k hk]
        by_cases e : so = 12 ∨ so = 0 ∧ (ρ ty).testBit k = true
        · rw [if_pos e, hz k (by unfold zwd; rw [if_neg (by omega), if_neg (by omega), if_neg (by omega)]; omega)]
          exact Or.inl ⟨rfl, rfl⟩
        · rw [if_neg e]
          refine (zel_0 so k fun j hj => hz j ?_).symm
          unfold zwd
          rcases hj with hj | hj | hj | hj
          · rw [if_pos hj.1]; omega
          · rw [if_neg (by omega), if_pos hj.1]; omega
          · rw [if_neg (by omega), if_neg (by omega), if_pos hj.1]; omega
          · rw [if_neg (by omega), if_neg (by omega), if_neg (by omega)]; omega
    · rw [d11 16 9 (by decide) (by decide) (by decide) (by decide) (by decide)]; exact s9
    · rw [d11 20 (u + 1) (by decide) (by decide) (by decide) (by decide) (by omega)]
      rw [← hCs, zI1, if_neg (by omega), zI1, if_neg (by omega)]
      exact hq20 u hu
    · refine hfr.mv hD (fun k => cl _ _ (by omega)) (fun k => cl _ _ (by omega)) c2 (fun o k h1 h2 => g14 o k (by omega) (by omega) (by omega) (by omega) (by omega) (by omega) (by omega) (by omega) (by omega)) g15 (fun k h t' hk hv hd' => Or.inl ⟨hd', fm.1 t' ⟨f, by omega, Or.inl ⟨k, hk, hv⟩⟩⟩) (fun k h t' hk hv hd' => Or.inl ⟨hd', fm.1 t' ⟨f, by omega, Or.inr ⟨k, hk, hv⟩⟩⟩)
    · rw [d11 15 7 (by decide) (by decide) (by decide) (by decide) (by decide)]
      exact s1 15 7 (by decide) (by decide) (by decide) (by decide)
    · exact g14 100 48 (by decide) (by decide) (by decide) (by decide) (by decide) (by decide) (by decide) (by decide) (by decide)
    · exact g14 100 49 (by decide) (by decide) (by decide) (by decide) (by decide) (by decide) (by decide) (by decide) (by decide)
    · rw [d11 15 10 (by decide) (by decide) (by decide) (by decide) (by decide), g12, ← hCs, zI1, if_neg (by decide), zI1, if_pos ⟨rfl, rfl⟩]
    · rw [d11 15 11 (by decide) (by decide) (by decide) (by decide) (by decide), g13, ← hCs, zI1, if_pos ⟨rfl, rfl⟩, h11]
      unfold zm_max
      by_cases e : M.1 100 53 < Int32.ofNat (am + zwd so n)
      · rw [if_pos e, if_neg (Int32.not_le.mpr e)]
      · rw [if_neg e, if_pos (Int32.not_lt.mp e)]
  · refine Or.inl ⟨_, _, rn (by omega), nm (by omega), ⟨fun a k h => ?_, rfl⟩, ⟨fun o k h1 h2 => ?_, fun o k h => rfl⟩, ⟨⟨ω, fun i hi => ?_, hc.2.2.2.2.2.1⟩, ?_, fun u hu => ?_⟩, ?_, ?_, ?_, ?_, ?_, ?_, ?_⟩
    · rw [zI1, if_neg (by omega)]; exact o1 a k (by omega) (by omega) (by omega)
    · rw [zJ1, if_neg (by omega), zJ1, if_neg (by omega), zmS_o (by omega) (by omega)]
    · rw [zI1, if_neg (by omega), o1 21 i (by omega) (by decide) (by decide)]; exact hc.2.2.2.2.1 i hi
    · rw [zI1, if_neg (by decide)]; exact o9
    · rw [zI1, if_neg (by omega)]; exact hq20 u hu
    · rw [zI1, if_pos ⟨rfl, rfl⟩]
    · rw [zJ1, if_neg (by decide), zJ1, if_pos ⟨rfl, rfl⟩]
    · rw [zJ1, if_pos ⟨rfl, rfl⟩]
    · rw [zI1, if_neg (by decide)]; exact o1 15 10 (by decide) (by decide) (by decide)
    · rw [zI1, if_neg (by decide)]; exact o1 15 11 (by decide) (by decide) (by decide)
    · rw [zJ1, if_neg (by decide), zJ1, if_neg (by decide), zmS_o (by decide) (by decide)]
    · rw [zJ1, if_neg (by decide), zJ1, if_neg (by decide), zmS_o (by decide) (by decide)]
end ZPM
