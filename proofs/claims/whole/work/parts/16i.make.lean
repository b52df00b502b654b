/-! ===== both make ===== -/
def zHq (w : Nat) (C : zC) (S : Nat) : Prop := C.1 16 9 = Int32.ofNat S ∧ ∀ u, u < w / 2 → ∃ s, s ≤ S ∧ C.1 20 (u + 1) = Int32.ofNat s
def zHr (w : Nat) (C : zC) (S : Nat) : Prop := (∃ ω : Nat → Nat, (∀ i, i < w / 2 → C.1 21 i = Int32.ofNat (ω i + 1) ∧ ω i < w / 2) ∧ ∀ i j, i < w / 2 → j < w / 2 → ω i = ω j → i = j) ∧ zHq w C S
def zHp (w K : Nat) (F ρ : Nat → Nat) (D : Nat → Nat → Prop) (C : zC) (M : zM) (S : Nat) : Prop :=
  zDok D ∧ (∃ ω u tp, zHc w C ω u tp ∧ ∀ h t, D h t → ∃ i, i < u ∧ ω i + 1 = h) ∧ (∃ ν c ce, zHm M ν c ce) ∧ (∀ h t, D h t → M.1 29 t = 1 ∧ t < 201 ∧ zPr w K F ρ D C M h t) ∧ zHq w C S
section ZMK
variable {N w b K S f0 : Nat} {F ρ α π ra : Nat → Nat} {D : Nat → Nat → Prop} {C : zC} {M : zM} {r : zv_X}
theorem zHp.rest (h : zHp w K F ρ D C M S) : zHr w C S := by
  obtain ⟨_, ⟨ω, u, tp, h1, _⟩, _, _, h2⟩ := h
  exact ⟨⟨ω, h1.2.2.2.2.1, h1.2.2.2.2.2.1⟩, h2⟩
theorem zHp.mo (hw : w ≤ 400) (hT : zTy C M K F ρ α π) (h : zHp w K F ρ D C M S) {u t : Nat} (hd : D u t) : zgo M t ∧ M.1 29 t = 1 := by
  obtain ⟨h1, _, ⟨ν, c, ce, h3⟩, h4, _⟩ := h
  obtain ⟨a1, a2, u', so, cl, n, p1, p2, p3, p4, p5, p6, p7, p8, p9, p10, p11, p12, p13, p14⟩ := h4 u t hd
  obtain ⟨c1, c2, c3, c4, c5, c6, c7, c8, c9, c10⟩ := h3
  obtain ⟨k, hk, e⟩ := c7 t a2 a1
  have hK := hT.2.2.2.1
  have hb : zgb M t + zgz M t ≤ 1700 := by
    have h5 := c9 k hk
    have h6 : zs (fun j => zgz M (ν j)) (k + 1) = zs (fun j => zgz M (ν j)) k + zgz M (ν k) := rfl
    have h7 : zs (fun j => zgz M (ν j)) (k + 1) ≤ zs (fun j => zgz M (ν j)) c := zs_mono (by omega)
    rw [← e]
    omega
  refine ⟨⟨a2, hb, ?_, ?_, fun q => ?_⟩, a1⟩
  · rw [p4, zN_nat (by omega)]; omega
  · rw [p3, zN_nat (by omega)]; omega
  · rw [p3, zN_nat (by omega)] at q
    rw [p5, zN_nat (by omega), p9 q]
    exact (hT.2.2.2.2.2.2.1 cl p7).2.2.2.2.1
theorem zHp.co (hw : w ≤ 400) (hT : zTy C M K F ρ α π) (h : zHp w K F ρ D C M S) {u t : Nat} (hd : D (u + 1) t) : zho C w u := by
  obtain ⟨h1, ⟨ω, us, tp, h2, h2'⟩, _, h4, _⟩ := h
  obtain ⟨a1, a2, u', so, cl, n, p1, p2, p3, p4, p5, p6, p7, p8, p9, p10, p11, p12, p13, p14⟩ := h4 _ t hd
  have : u' = u := by omega
  subst this
  obtain ⟨c1, c2, c3, c4, c5, c6, c7, c8⟩ := h2
  obtain ⟨i, hi, e⟩ := h2' _ t hd
  have e' : ω i = u' := by omega
  have hK := hT.2.2.2.1
  have h5 := (c7 i hi).1
  have h6 : zs (fun j => zhW C (ω j)) (i + 1) = zs (fun j => zhW C (ω j)) i + zhW C (ω i) := rfl
  have h7 : zs (fun j => zhW C (ω j)) (i + 1) ≤ zs (fun j => zhW C (ω j)) us := zs_mono (by omega)
  have h8 := (c7 i hi).2
  rw [e'] at h5 h6 h8
  refine ⟨p2, by omega, h8, fun q => ?_⟩
  rw [p12] at q ⊢
  by_cases c0 : so = 0
  · rw [if_pos c0, zN_nat (by omega)]
    have hF := (hT.2.2.2.2.2.2.1 cl p7).2.2.2.2.1
    refine ⟨by omega, ?_⟩
    rw [p11, c0]
    unfold zwd
    rw [if_neg (by decide), if_neg (by decide), if_neg (by decide), p9 c0]
    omega
  · rw [if_neg c0] at q
    rcases p8 with e | e | e | e | e | e | e | e
    · exact absurd e c0
    · subst e; exact absurd q (by decide)
    · subst e; exact absurd q (by decide)
    · subst e; exact absurd q (by decide)
    · subst e; exact absurd q (by decide)
    · subst e; exact absurd q (by decide)
    · subst e; exact absurd q (by decide)
    · subst e; exact absurd q (by decide)
theorem zd_make (hN : 400 < N) (hw : w ≤ 400) (hQ : zHq w C S) (hS : S + 1 < 2 ^ 31) (hd : C.1 15 6 = Int32.ofNat f0) (hf0 : f0 < 16) (ht : ∀ f, f ≤ f0 → zN (C.1 (f + 100) 2) ≤ 28) (hr : C.1 15 3 = Int32.ofNat w) (hA : ∀ u, zRc (zhT C (f0 + 1)) (zhf C) (zhz C) u → zho C w u) :
    ∃ (σ : zS) (all : Nat), zFi (w / 2) (zhW C) (zhT C (f0 + 1)) (zhf C) (zhz C) σ all ∧ ∀ (tag len : Int32) (wn : Nat), wn < 2 ^ 40 →
      (w < all + wn → zHC w b (mX4_make N (b + 15) tag len (Int64.ofNat wn)) C r (fun x => (x, 0)) (zI (zcS (zI (zI C 16 9 (Int32.ofNat (S + 1))) 16 10 0) (Int32.ofNat (S + 1)) σ) 15 7 3) r) ∧
      (all + wn ≤ w → ∀ (C' : zC) (h : Int32), zHC w b (mX2_add N (b + 16) tag len (Int32.ofNat wn)) (zI (zI (zcS (zI (zI C 16 9 (Int32.ofNat (S + 1))) 16 10 0) (Int32.ofNat (S + 1)) σ) 15 10 (Int32.ofNat (all + wn))) 15 11 (zm_max (C.1 15 11) (Int32.ofNat (all + wn)))) r (fun y => (y, h)) C' r → zHC w b (mX4_make N (b + 15) tag len (Int64.ofNat wn)) C r (fun x => (x, h)) C' r) := by
  have o : ∀ a k, ¬ (a = 16 ∧ (k = 9 ∨ k = 10)) → (zI (zI C 16 9 (Int32.ofNat (S + 1))) 16 10 0).1 a k = C.1 a k := fun a k h => by rw [zI1, if_neg (by omega), zI1, if_neg (by omega)]
  have row : ∀ a, a ≠ 16 → (zI (zI C 16 9 (Int32.ofNat (S + 1))) 16 10 0).1 a = C.1 a := fun a h => funext fun k => o a k (by omega)
  obtain ⟨ef, ez, eW, ea, et⟩ := zh_same (C' := zI (zI C 16 9 (Int32.ofNat (S + 1))) 16 10 0) (C := C) (row 17 (by decide)) (row 18 (by decide)) (row 19 (by decide)) (row 4 (by decide))
  have eS : ∀ f, zhS (zI (zI C 16 9 (Int32.ofNat (S + 1))) 16 10 0) f = zhS C f := fun f => funext fun k => by unfold zhS; rw [o _ _ (by omega)]
  have eT : zhT (zI (zI C 16 9 (Int32.ofNat (S + 1))) 16 10 0) (f0 + 1) = zhT C (f0 + 1) := funext fun t => by
    unfold zhT
    simp only [eS, row (_ + 100) (by omega)]
  have hA1 : ∀ u, zRc (zhT (zI (zI C 16 9 (Int32.ofNat (S + 1))) 16 10 0) (f0 + 1)) (zhf (zI (zI C 16 9 (Int32.ofNat (S + 1))) 16 10 0)) (zhz (zI (zI C 16 9 (Int32.ofNat (S + 1))) 16 10 0)) u → zho (zI (zI C 16 9 (Int32.ofNat (S + 1))) 16 10 0) w u := fun u h => by
    rw [ef, ez, eT] at h
    unfold zho
    rw [ea, eW, et]
    exact hA u h
  have hs1 : (zI (zI C 16 9 (Int32.ofNat (S + 1))) 16 10 0).1 16 9 = Int32.ofNat (S + 1) := by rw [zI1, if_neg (by omega), zI1, if_pos ⟨rfl, rfl⟩]
  have hq1 : ∀ u, u < w / 2 → (zI (zI C 16 9 (Int32.ofNat (S + 1))) 16 10 0).1 20 (u + 1) ≠ Int32.ofNat (S + 1) := fun u hu e => by
    rw [o _ _ (by omega)] at e
    obtain ⟨s, h1, h2⟩ := hQ.2 u hu
    rw [h2] at e
    have := zi_inj (by omega) (by omega) e
    omega
  have hr' := hr
  generalize hC1 : zI (zI C 16 9 (Int32.ofNat (S + 1))) 16 10 0 = C1 at *
  have hd1 : C1.1 15 6 = Int32.ofNat f0 := (o _ _ (by omega)).trans hd
  have ht1 : ∀ f, f ≤ f0 → zN (C1.1 (f + 100) 2) ≤ 28 := fun f h => by rw [o _ _ (by omega)]; exact ht f h
  have hv1 : ∀ f, f ≤ f0 → ∀ k, k < zN (C1.1 (f + 100) 2) → zhS C1 f k ≤ w / 2 := fun f hf k hk => by
    cases e : zhS C1 f k with
    | zero => omega
    | succ v => have := (hA1 v (zRc.rt ⟨f, by omega, k, hk, e⟩)).1; omega
  have e0 : zcS C1 (Int32.ofNat (S + 1)) (fun _ => false, fun k => zN (C.1 22 k - 1), 0) = C1 := by
    refine Prod.ext (funext fun a => funext fun k => ?_) rfl
    show (if a = 20 ∧ 1 ≤ k ∧ false = true then _ else if a = 22 then Int32.ofNat (zN (C.1 22 k - 1) + 1) else if a = 16 ∧ k = 10 then Int32.ofNat 0 else C1.1 a k) = C1.1 a k
    rw [if_neg (fun q => absurd q.2.2 (by decide))]
    by_cases c : a = 22
    · rw [if_pos c, c, o 22 k (by omega), Int32.ofNat_add, zN_of]
      exact Int32.sub_add_cancel _ _
    · rw [if_neg c]
      by_cases c2 : a = 16 ∧ k = 10
      · rw [if_pos c2, ← hC1, zI1, if_pos c2]
        rfl
      · rw [if_neg c2]
  obtain ⟨hst, hin⟩ := zhr_st (C := C1) (n := w / 2) (m := f0 + 1) (f := 0) (σ := (fun _ => false, fun k => zN (C.1 22 k - 1), 0)) (P := zRc (zhT C1 (f0 + 1)) (zhf C1) (zhz C1)) (fun g _ h2 k u h3 h4 => by
    have : zRc (zhT C1 (f0 + 1)) (zhf C1) (zhz C1) u := zRc.rt ⟨g, by omega, k, h3, h4⟩
    exact ⟨(hA1 u this).1, this⟩)
  have cnt := hst.cnt
  have hz0 : ∀ W, zws (w / 2) W (fun _ => false) = 0 := fun W => zs_zero fun i _ => if_neg (show ¬ (false = true) by decide)
  obtain ⟨b1, b2, b3, b4, b5, b6, b7⟩ := hst
  have hIw : zIw C1 (w / 2) (zhT C1 (f0 + 1)) (zhr C1 (f0 + 1) 0 (fun _ => false, fun k => zN (C.1 22 k - 1), 0)) 0 := by
    refine ⟨fun t ⟨f, h1, h2⟩ => hin f t (Nat.zero_le f) (by omega) h2, fun t h => ?_, fun t h => ?_, fun j hj => b6 j (Nat.zero_le j) hj, fun j hj => absurd hj (Nat.not_lt_zero j), Nat.zero_le _, ?_, ?_⟩
    · rcases b5 t h with h | ⟨j, _, h2, h3⟩
      · exact absurd (show false = true from h) (by decide)
      · exact ⟨j, h2, h3⟩
    · rcases b2 t h with h | h
      · exact absurd (show false = true from h) (by decide)
      · exact ⟨(hA1 t h).1, h⟩
    · have h1 := b7 (zhW C1)
      rw [show zpw (zhW C1) (fun _ => false, fun k => zN (C.1 22 k - 1), 0) = 0 from rfl] at h1
      have h2 : zws (w / 2) (zhW C1) (zhr C1 (f0 + 1) 0 (fun _ => false, fun k => zN (C.1 22 k - 1), 0)).1 + 0 = zws (w / 2) (zhW C1) (fun _ => false) + zpw (zhW C1) (zhr C1 (f0 + 1) 0 (fun _ => false, fun k => zN (C.1 22 k - 1), 0)) := h1
      rw [hz0] at h2
      omega
    · have h2 : zws (w / 2) (fun _ => 1) (zhr C1 (f0 + 1) 0 (fun _ => false, fun k => zN (C.1 22 k - 1), 0)).1 + 0 = zws (w / 2) (fun _ => 1) (fun _ => false) + (zhr C1 (f0 + 1) 0 (fun _ => false, fun k => zN (C.1 22 k - 1), 0)).2.2 := cnt
      rw [hz0] at h2
      omega
  obtain ⟨σ, all, hFi, hrun⟩ := zd_rw4 (N := N) (w := w) (b := b) (r := r) (Rt := zhT C1 (f0 + 1)) hN hw hs1 hq1 hA1 (w / 2) N 0 _ (by omega) (by omega) hIw
  have hall : all ≤ 400 * (w / 2) := by
    rw [hFi.2.2.2]
    have h1 : zws (w / 2) (zhW C1) σ.1 ≤ zs (fun _ => 400 * 1) (w / 2) := zs_le fun i hi => by
      show (if σ.1 i = true then zhW C1 i else 0) ≤ 400 * 1
      by_cases e : σ.1 i = true
      · rw [if_pos e]
        have h2 := (hA1 i (hFi.2.2.1 i e).2).2.1
        omega
      · rw [if_neg e]; omega
    rw [zs_mul 400 (f := fun _ => 1), zs_one] at h1
    exact h1
  rw [ef, ez, eW, eT] at hFi
  refine ⟨σ, all, hFi, fun tag len wn hwn => ?_⟩
  obtain ⟨g, hg⟩ := zd_m10 (N := N) (w := w) (b := b) (C := C1) (r := r) (f0 := f0) (by omega) hw hs1 hq1 hd1 hf0 ht1 hv1 tag len (Int64.ofNat wn) (f0 + 1) N 0 (fun _ => false, fun k => zN (C.1 22 k - 1), 0) (by omega) (by omega) (Nat.zero_le _)
  have f6 : ∀ σ : zS, (zcS C1 (Int32.ofNat (S + 1)) σ).1 15 6 = Int32.ofNat f0 := fun σ => by rw [zcS_o (by decide) (by decide) (by decide)]; exact hd1
  have f3 : ∀ σ : zS, (zcS C1 (Int32.ofNat (S + 1)) σ).1 15 3 = Int32.ofNat w := fun σ => by rw [zcS_o (by decide) (by decide) (by decide), o _ _ (by omega)]; exact hr'
  have start : ∀ M : zM, mX4_make N (b + 15) tag len (Int64.ofNat wn) (zc w b C M r) = if all + wn ≤ w then ((zm_p (zc w b (zcS C1 (Int32.ofNat (S + 1)) σ) M r) (b + 15) 4 10 (.int (Int32.ofNat (all + wn)))).bind fun x9 => (zm_I x9 (b + 15) 4 11).bind fun v11 => (zm_I x9 (b + 15) 4 10).bind fun v13 => (zm_p x9 (b + 15) 4 11 (.int (zm_max v11 v13))).bind fun x15 => (zm_R x15 (b + 15) 4 2).bind fun v17 => if zm_k x15 v17 2 = true then ((mX2_add N v17 tag len (Int32.ofNat wn) x15).bind fun o19 => some (o19.1, o19.2)) else none) else some (zc w b (zI (zcS C1 (Int32.ofNat (S + 1)) σ) 15 7 3) M r, 0) := by
    intro M
    have e1 := hg M
    have e2 := hrun M
    rw [e0] at e1
    have eb : mX2_beginSearch N (b + 16) (zc w b C M r) = some (zc w b C1 M r) := by
      unfold mX2_beginSearch mX2_beginSearch_0
      rw [zqg_16_9, Option.bind_some, hQ.1, show (Int32.ofNat S + 1 : Int32) = Int32.ofNat (S + 1) from zi_add S 1, zqp_16_9, Option.bind_some, zqp_16_10, Option.bind_some, hC1]
    have er : mX2_reachedWords N (b + 16) (zc w b (zcS C1 (Int32.ofNat (S + 1)) (zhr C1 (f0 + 1) 0 (fun _ => false, fun k => zN (C.1 22 k - 1), 0))) M r) = some (zc w b (zcS C1 (Int32.ofNat (S + 1)) σ) M r, Int32.ofNat all) := e2
    unfold mX4_make mX4_make_0
    rw [zqg_15_2, Option.bind_some, zqk_16, if_pos rfl, eb, Option.bind_some]
    refine Eq.trans e1 ?_
    rw [mX4_make_10]
    simp (disch := omega) only [zqg_15_6, f6, Option.bind_some, zi_lt]
    rw [if_pos (by omega)]
    simp only [zqg_15_2, zqk_16, if_true, er, zqg_15_3, f3, Option.bind_some]
    rw [zi_l64 (show all < 2 ^ 31 by omega), zi_l64 (show w < 2 ^ 31 by omega), zl_add, Int64.toInt32_ofNat', Int64.toInt32_ofNat']
    by_cases q : all + wn ≤ w
    · rw [if_pos q, if_pos (zw_le.mpr (by rw [zl_le (by omega) (by omega)]; exact q))]
    · rw [if_neg q, if_neg (fun h => q (by have := zw_le.mp h; rw [zl_le (by omega) (by omega)] at this; exact this)), zqp_15_7, Option.bind_some]
  refine ⟨fun h M => by rw [start, if_neg (by omega)], fun h C' hh hadd M => ?_⟩
  have e3 := hadd M
  have f11 : ∀ v, (zI (zcS C1 (Int32.ofNat (S + 1)) σ) 15 10 v).1 15 11 = C.1 15 11 := fun v => by rw [zI1, if_neg (by decide), zcS_o (by decide) (by decide) (by decide), o _ _ (by omega)]
  have f10 : ∀ v, (zI (zcS C1 (Int32.ofNat (S + 1)) σ) 15 10 v).1 15 10 = v := fun v => by rw [zI1, if_pos ⟨rfl, rfl⟩]
  rw [start, if_pos h, zqp_15_10, Option.bind_some]
  simp only [zqg_15_11, zqg_15_10, f11, f10, zqp_15_11, zqg_15_2, zqk_16, if_true, Option.bind_some, e3]
end ZMK
