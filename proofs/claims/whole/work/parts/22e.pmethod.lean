/-! ===== method: both ===== -/
section ZPN
variable {N w b K n h : Nat} {F ρ α π c hs : Nat → Nat} {C C' : zC} {M M' : zM} {r r' : zv_X} {Q : zQo}
/-- the reference refuses -/
theorem zj_105x {a1 a2 a3 a4 l5 v : Int32} (hv : ¬ v ≤ 0) : zHM w b (fun x => mX9_method_105 N (b + 75) a1 a2 a3 a4 l5 v (b + 75) x) M (fun x => (x, 0)) (zJ M 100 0 v) := by
  intro C r
  show mX9_method_105 N (b + 75) a1 a2 a3 a4 l5 v (b + 75) (zc w b C M r) = some (zc w b C (zJ M 100 0 v) r, 0)
  unfold mX9_method_105
  rw [zqp_75_0, Option.bind_some, zqg_75_0, Option.bind_some, show (zJ M 100 0 v).1 100 0 = v from rfl, if_neg hv]
theorem zj_42x {a1 a2 a3 a4 : Int32} (hN : 0 < N) : zHM w b (fun x => mX9_method_42 N (b + 75) a1 a2 a3 a4 0 a1 x) M (fun x => (x, 0)) (zJ M 100 0 1) := by
  intro C r
  obtain ⟨N, rfl⟩ : ∃ g, N = g + 1 := ⟨N - 1, by omega⟩
  show mX9_method_42 (N + 1) (b + 75) a1 a2 a3 a4 0 a1 (zc w b C M r) = some (zc w b C (zJ M 100 0 1) r, 0)
  unfold mX9_method_42 mX9_method_43 mX9_method_45 mX9_method_69 mX9_method_87
  rw [if_pos rfl, if_pos rfl]
  exact zj_105x (N := N + 1) (by decide) C r
/-- arguments that do not fit -/
theorem zp_method_x {a1 a2 a3 a4 : Int32} (hN : 5 < N) (hf : ¬ ∃ n0 lo sk rs : Nat, a1 = Int32.ofNat n0 ∧ a2 = Int32.ofNat lo ∧ a3 = Int32.ofNat sk ∧ a4 = Int32.ofNat rs ∧ n0 < 256 ∧ zna n0 ≤ lo ∧ lo ≤ 16 ∧ sk ≤ 12 ∧ rs ≤ 3) :
    zHC w b (mX8_method N (b + 0) a1 a2 a3 a4) C r (fun x => (x, .inr "java/lang/IllegalArgumentException")) C (zv_pad r) ∧ zHM w b (mX9_method N (b + 75) a1 a2 a3 a4) M (fun x => (x, 0)) (zJ M 100 0 1) := by
  have ho : ∀ (v : Int32) (k : Nat), k < 2 ^ 31 → ¬ v < 0 → v ≤ Int32.ofNat k → ∃ m : Nat, v = Int32.ofNat m ∧ m ≤ k := fun v k hk h1 h2 => zi_between hk h1 (Int32.not_lt.mpr h2)
  have le255 : (255 : Int32) = Int32.ofNat 255 := rfl
  have le12 : (12 : Int32) = Int32.ofNat 12 := rfl
  have r42 : ∀ (C0 : zC) (r0 : zv_X), mX9_method_42 N (b + 75) a1 a2 a3 a4 0 a1 (zc w b C0 M r0) = some (zc w b C0 (zJ M 100 0 1) r0, 0) := zj_42x (by omega)
  have r105 : ∀ (l5 : Int32) (C0 : zC) (r0 : zv_X), mX9_method_105 N (b + 75) a1 a2 a3 a4 l5 1 (b + 75) (zc w b C0 M r0) = some (zc w b C0 (zJ M 100 0 1) r0, 0) := fun l5 => zj_105x (by decide)
  by_cases c1 : a1 < 0
  · refine ⟨fun M0 => ?_, fun C0 r0 => ?_⟩
    · unfold mX8_method mX8_method_0 mX8_method_11
      rw [if_pos c1]
      rfl
    · unfold mX9_method mX9_method_0
      rw [if_pos c1, r42]
  by_cases c2_ : ¬ (a1 ≤ (255 : Int32))
  · have c2 := c2_
    refine ⟨fun M0 => ?_, fun C0 r0 => ?_⟩
    · unfold mX8_method mX8_method_0 mX8_method_11
      rw [if_neg c1, if_neg c2]
      rfl
    · unfold mX9_method mX9_method_0
      rw [if_neg c1, if_pos (Int32.not_le.mp c2), r42]
  have c2 := Classical.not_not.mp c2_
  obtain ⟨n0, e1, hn0⟩ := ho a1 255 (by decide) c1 c2
  have z1 := (zna_tab n0 (by omega)).1
  have eA : ∀ x : zv_X, mX8_argumentsIn N a1 x = some (x, Int32.ofNat (zna n0)) := fun x => by rw [e1]; exact zd_args hN (by omega) x
  by_cases c3 : a3 < 0
  · refine ⟨fun M0 => ?_, fun C0 r0 => ?_⟩
    · unfold mX8_method mX8_method_0 mX8_method_35 mX8_method_55
      rw [if_neg c1, if_pos c2, eA, Option.bind_some, if_pos c3]
      split
      · rfl
      · split <;> rfl
    · unfold mX9_method mX9_method_0
      rw [if_neg c1, if_neg (Int32.not_lt.mpr c2), if_pos c3, r42]
  by_cases c4_ : ¬ (a3 ≤ (12 : Int32))
  · have c4 := c4_
    refine ⟨fun M0 => ?_, fun C0 r0 => ?_⟩
    · unfold mX8_method mX8_method_0 mX8_method_35 mX8_method_55
      rw [if_neg c1, if_pos c2, eA, Option.bind_some, if_neg c3, if_neg c4]
      split
      · rfl
      · split <;> rfl
    · unfold mX9_method mX9_method_0
      rw [if_neg c1, if_neg (Int32.not_lt.mpr c2), if_neg c3, if_pos (Int32.not_le.mp c4), r42]
  have c4 := Classical.not_not.mp c4_
  by_cases c5 : a4 < 0
  · refine ⟨fun M0 => ?_, fun C0 r0 => ?_⟩
    · unfold mX8_method mX8_method_0 mX8_method_35 mX8_method_76
      rw [if_neg c1, if_pos c2, eA, Option.bind_some, if_neg c3, if_pos c4, if_pos c5]
      split
      · rfl
      · split <;> rfl
    · unfold mX9_method mX9_method_0
      rw [if_neg c1, if_neg (Int32.not_lt.mpr c2), if_neg c3, if_neg (Int32.not_lt.mpr c4), if_pos c5, r42]
  by_cases c6_ : ¬ (a4 ≤ (3 : Int32))
  · have c6 := c6_
    refine ⟨fun M0 => ?_, fun C0 r0 => ?_⟩
    · unfold mX8_method mX8_method_0 mX8_method_35 mX8_method_76
      rw [if_neg c1, if_pos c2, eA, Option.bind_some, if_neg c3, if_pos c4, if_neg c5, if_neg c6]
      split
      · rfl
      · split <;> rfl
    · unfold mX9_method mX9_method_0
      rw [if_neg c1, if_neg (Int32.not_lt.mpr c2), if_neg c3, if_neg (Int32.not_lt.mpr c4), if_neg c5, if_pos (Int32.not_le.mp c6), r42]
  have c6 := Classical.not_not.mp c6_
  obtain ⟨sk, e3, hsk⟩ := ho a3 12 (by decide) c3 c4
  obtain ⟨rs, e4, hrs⟩ := ho a4 3 (by decide) c5 c6
  have refhead : ∀ (C0 : zC) (r0 : zv_X), mX9_method N (b + 75) a1 a2 a3 a4 (zc w b C0 M r0) = mX9_method_69 N (b + 75) a1 a2 a3 a4 (Int32.ofNat (zna n0)) 1 (zc w b C0 M r0) := fun C0 r0 => by
    unfold mX9_method mX9_method_0 mX9_method_43
    rw [if_neg c1, if_neg (Int32.not_lt.mpr c2), if_neg c3, if_neg (Int32.not_lt.mpr c4), if_neg c5, if_neg (Int32.not_lt.mpr c6)]
    have := zj_45 (N := N) (b := b) (n := n0) (l1 := a1) (l2 := a2) (l3 := a3) (l4 := a4) (by omega) (zc w b C0 M r0) (zna n0) N 0 (by omega) (by omega)
    rw [Nat.pow_zero, Nat.div_one, ← e1] at this
    exact this
  by_cases c7 : a2 < Int32.ofNat (zna n0)
  · refine ⟨fun M0 => ?_, fun C0 r0 => ?_⟩
    · unfold mX8_method mX8_method_0 mX8_method_35
      rw [if_neg c1, if_pos c2, eA, Option.bind_some, if_pos c7]
      rfl
    · rw [refhead]
      unfold mX9_method_69 mX9_method_87
      rw [if_neg (by decide), if_pos c7, r105]
  by_cases c8_ : ¬ (a2 ≤ (16 : Int32))
  · have c8 := c8_
    refine ⟨fun M0 => ?_, fun C0 r0 => ?_⟩
    · unfold mX8_method mX8_method_0 mX8_method_35
      rw [if_neg c1, if_pos c2, eA, Option.bind_some, if_neg c7, if_neg c8]
      rfl
    · rw [refhead]
      unfold mX9_method_69 mX9_method_87
      rw [if_neg (by decide), if_neg c7, if_neg c8, r105]
  have c8 := Classical.not_not.mp c8_
  have c9 : ¬ a2 < 0 := fun e => c7 (Int32.lt_of_lt_of_le e (by rw [zi_l0, zi_le (by omega) (by omega)]; omega))
  obtain ⟨lo, e2, hlo⟩ := ho a2 16 (by decide) c9 c8
  refine absurd ⟨n0, lo, sk, rs, e1, e2, e3, e4, by omega, ?_, hlo, hsk, hrs⟩ hf
  rw [e2, zi_lt (by omega) (by omega)] at c7
  omega
theorem zp_method (hN : 3403 ≤ N) (hT : zTy C M K F ρ α π) (hD : zDr C M K n c h hs) (hMe : zMe b K F ρ r C M Q) (hr : zRr b r) (a1 a2 a3 a4 : Int32) :
    (∃ (C' : zC) (M' : zM) (r' : zv_X) (v : Int32) (Q' : zQo), zHC w b (mX8_method N (b + 0) a1 a2 a3 a4) C r (fun x => (x, .inl v)) C' r' ∧ zHM w b (mX9_method N (b + 75) a1 a2 a3 a4) M (fun x => (x, v)) M' ∧ M'.1 100 0 = 0 ∧ zMe b K F ρ r' C' M' Q' ∧ zDr C' M' K 0 c 0 hs ∧ zRr b r' ∧ r.2.1 ≤ r'.2.1 ∧ r'.2.1 ≤ r.2.1 + 4 ∧ r'.2.2.1 ≤ r.2.2.1 + 261 ∧ r'.2.2.2 = r.2.2.2 ∧
      (∀ o k, ¬ (o = 5 ∨ 8 ≤ o ∧ o ≤ 14) → C'.1 o k = C.1 o k) ∧ C'.2.1 = C.2.1 ∧ (∀ o k, o ≠ 8 → o ≠ 9 → C'.2.2 o k = C.2.2 o k) ∧ (∀ o k, ¬ (10 ≤ o ∧ o ≤ 26) → ¬ (o = 100 ∧ (k = 0 ∨ k = 7 ∨ k = 9 ∨ k = 19 ∨ k = 25 ∨ k = 27 ∨ k = 28)) → M'.1 o k = M.1 o k) ∧ M'.2 = M.2) ∨
    (∃ (E : String) (v : Int32), zHC w b (mX8_method N (b + 0) a1 a2 a3 a4) C r (fun x => (x, .inr E)) C (zv_pad r) ∧ zHM w b (mX9_method N (b + 75) a1 a2 a3 a4) M (fun x => (x, 0)) (zJ M 100 0 v) ∧ (E = "java/lang/IllegalArgumentException" ∧ v = 1 ∨ E = "java/lang/UnsupportedOperationException" ∧ v = 2)) := by
  by_cases hf_ : ¬ (∃ n0 lo sk rs : Nat, a1 = Int32.ofNat n0 ∧ a2 = Int32.ofNat lo ∧ a3 = Int32.ofNat sk ∧ a4 = Int32.ofNat rs ∧ n0 < 256 ∧ zna n0 ≤ lo ∧ lo ≤ 16 ∧ sk ≤ 12 ∧ rs ≤ 3)
  · have hf := hf_
    have := zp_method_x (N := N) (w := w) (b := b) (C := C) (M := M) (r := r) (by omega) hf
    exact Or.inr ⟨_, 1, this.1, this.2, Or.inl ⟨rfl, rfl⟩⟩
  have hf := Classical.not_not.mp hf_
  obtain ⟨n0, lo, sk, rs, rfl, rfl, rfl, rfl, hn0, hlo, hlo2, hsk, hrs⟩ := hf
  obtain ⟨nm, ra, μs, τs⟩ := Q
  obtain ⟨hQ, hm19, hL, hall⟩ := hMe
  dsimp only at hQ hm19 hL hall
  have hsz := hL.1
  obtain ⟨z1, z2, z3, z4⟩ := zna_tab n0 hn0
  have eA : ∀ x : zv_X, mX8_argumentsIn N (Int32.ofNat n0) x = some (x, Int32.ofNat (zna n0)) := fun x => zd_args (by omega) hn0 x
  have c1 : ¬ Int32.ofNat n0 < 0 := by rw [zi_nn (by omega)]; exact id
  have c2 : Int32.ofNat n0 ≤ (255 : Int32) := by rw [show (255 : Int32) = Int32.ofNat 255 from rfl, zi_le (by omega) (by omega)]; omega
  have c3 : ¬ Int32.ofNat sk < 0 := by rw [zi_nn (by omega)]; exact id
  have c4 : Int32.ofNat sk ≤ (12 : Int32) := by rw [show (12 : Int32) = Int32.ofNat 12 from rfl, zi_le (by omega) (by omega)]; exact hsk
  have c5 : ¬ Int32.ofNat rs < 0 := by rw [zi_nn (by omega)]; exact id
  have c6 : Int32.ofNat rs ≤ (3 : Int32) := by rw [zi_l3, zi_le (by omega) (by omega)]; exact hrs
  have c7 : ¬ Int32.ofNat lo < Int32.ofNat (zna n0) := by rw [zi_lt (by omega) (by omega)]; omega
  have c8 : Int32.ofNat lo ≤ (16 : Int32) := by rw [zi_l16, zi_le (by omega) (by omega)]; exact hlo2
  have refhead : ∀ (C0 : zC) (r0 : zv_X), mX9_method N (b + 75) (Int32.ofNat n0) (Int32.ofNat lo) (Int32.ofNat sk) (Int32.ofNat rs) (zc w b C0 M r0) = if Int32.ofNat nm = (20 : Int32) then mX9_method_105 N (b + 75) (Int32.ofNat n0) (Int32.ofNat lo) (Int32.ofNat sk) (Int32.ofNat rs) (Int32.ofNat (zna n0)) 2 (b + 75) (zc w b C0 M r0) else mX9_method_105 N (b + 75) (Int32.ofNat n0) (Int32.ofNat lo) (Int32.ofNat sk) (Int32.ofNat rs) (Int32.ofNat (zna n0)) 0 (b + 75) (zc w b C0 M r0) := fun C0 r0 => by
    unfold mX9_method mX9_method_0 mX9_method_43
    rw [if_neg c1, if_neg (Int32.not_lt.mpr c2), if_neg c3, if_neg (Int32.not_lt.mpr c4), if_neg c5, if_neg (Int32.not_lt.mpr c6)]
    have := zj_45 (N := N) (b := b) (n := n0) (l1 := Int32.ofNat n0) (l2 := Int32.ofNat lo) (l3 := Int32.ofNat sk) (l4 := Int32.ofNat rs) hn0 (zc w b C0 M r0) (zna n0) N 0 (by omega) (by omega)
    rw [Nat.pow_zero, Nat.div_one] at this
    rw [zi_l0, this]
    unfold mX9_method_69
    rw [if_neg (by decide), if_neg c7, if_pos c8, zqg_75_19, Option.bind_some, hm19]
    rfl
  have clshead : ∀ M0 : zM, mX8_method N (b + 0) (Int32.ofNat n0) (Int32.ofNat lo) (Int32.ofNat sk) (Int32.ofNat rs) (zc w b C M0 r) = if Int32.ofNat nm = (20 : Int32) then some (zv_pad (zc w b C M0 r), .inr "java/lang/UnsupportedOperationException") else ((mX0_code N (b + 5) (zv_nw (zc w b C M0 r) (.inr (6, zd_6)) 7)).bind fun o11 => (zm_R o11.1 (b + 0) 8 1).bind fun v13 => if zm_k o11.1 v13 0 = true then ((mX0_handlerRows N v13 o11.1).bind fun o15 => (mX6_init N r.2.1 o11.2 o15.2 (Int32.ofNat n0) (Int32.ofNat lo) (Int32.ofNat sk) (Int32.ofNat rs) o15.1).bind fun o17 => (zm_R o17 (b + 0) 8 1).bind fun v19 => if zm_k o17 v19 0 = true then ((mX0_empty N v19 o17).bind fun o21 => (zm_R o21 (b + 0) 8 3).bind fun v23 => if zm_k o21 v23 3 = true then ((mX3_findsGood N v23 r.2.1 o21).bind fun o25 => if o25.2 = 0 then (some (o25.1, .inl (-1 : Int32))) else ((zm_R o25.1 (b + 0) 8 2).bind fun v27 => if zm_k o25.1 v27 5 = true then ((mJx4a65c_add_9ea2d N v27 r.2.1 o25.1).bind fun o29 => (zm_R o29.1 (b + 0) 8 2).bind fun v31 => if zm_k o29.1 v31 5 = true then ((mJx4a65c_size_8abf5 N v31 o29.1).bind fun o33 => some (o33.1, .inl (o33.2 - (1 : Int32)))) else none) else none)) else none) else none) else none) := fun M0 => by
    have x7 : zm_R (zv_nw (zc w b C M0 r) (.inr (6, zd_6)) 7) (b + 0) 8 1 = some (b + 5) := by
      rw [zc_nw hr.1]
      exact zqg_0_1
    have x8 : zm_k (zv_nw (zc w b C M0 r) (.inr (6, zd_6)) 7) (b + 5) 0 = true := by
      rw [zc_nw hr.1]
      exact zqk_5
    unfold mX8_method mX8_method_0
    rw [if_neg c1, if_pos c2, eA, Option.bind_some, if_neg c7, if_pos c8, if_neg c3, if_pos c4, if_neg c5, if_pos c6, zqg_0_2, Option.bind_some, if_pos zqk_8]
    conv => lhs; unfold mJx4a65c_size_8abf5 mJx4a65c_size_8abf5_0
    rw [zqg_8_2, Option.bind_some, Option.bind_some, hsz, Option.bind_some, x7, Option.bind_some, if_pos x8]
    rfl
  by_cases h20 : nm = 20
  · refine Or.inr ⟨_, 2, fun M0 => ?_, fun C0 r0 => ?_, Or.inr ⟨rfl, rfl⟩⟩
    · rw [clshead, if_pos (by rw [h20]; rfl)]
      rfl
    · rw [refhead, if_pos (by rw [h20]; rfl)]
      exact zj_105x (by decide) C0 r0
  have hnm : nm < 20 := by omega
  have h20' : ¬ Int32.ofNat nm = (20 : Int32) := by rw [show (20 : Int32) = Int32.ofNat 20 from rfl, zi_eq (by omega) (by omega)]; exact h20
  left
  -- the new method
  obtain ⟨μ, hμ⟩ : ∃ μ : zMu, μ = (n, c, h, hs, zna n0, zkd n0, lo, sk, rs) := ⟨_, rfl⟩
  have hD' := hD
  obtain ⟨d1, d2, d3, d4, d5, d6, d7, d8, d9⟩ := hD'
  have hK : zMuOk K μ := by
    rw [hμ]
    exact ⟨d3, fun i hi => (d4 i hi).1, d7, fun i hi => (d8 i hi).1, d9, z1, z3, hlo, hlo2, hsk, hrs⟩
  obtain ⟨r1, cf, hfx, e1, e2, e3, e4, e5, e6, e7, e8, e9, e10, e11⟩ := zd_made (N := N) (w := w) (b := b) (a2 := Int32.ofNat lo) (a3 := Int32.ofNat sk) (a4 := Int32.ofNat rs) (by omega) hn0 hD hr
  have hRt : zRt b r1 r.2.1 μ := by
    rw [hμ]
    exact ⟨hr.1, cf, hfx, e2, e3, e4, e5, e6⟩
  obtain ⟨ra', hra⟩ : ∃ f : Nat → Nat, f = fun m => if m = nm then r.2.1 else ra m := ⟨_, rfl⟩
  obtain ⟨μs', hμs⟩ : ∃ f : Nat → zMu, f = fun m => if m = nm then μ else μs m := ⟨_, rfl⟩
  have ra0 : ra' nm = r.2.1 := by rw [hra]; exact if_pos rfl
  have ra1 : ∀ m, m < nm → ra' m = ra m := fun m hm => by rw [hra]; exact if_neg (by omega)
  have μ0 : μs' nm = μ := by rw [hμs]; exact if_pos rfl
  have μ1 : ∀ m, m < nm → μs' m = μs m := fun m hm => by rw [hμs]; exact if_neg (by omega)
  have gx : ∀ m, m < nm → zgood (K, F, ρ, μs') m (μs' m) (τs m) := fun m hm => by
    rw [μ1 m hm]
    exact zgood.ext (Nat.le_refl K) (fun a _ => ⟨rfl, rfl⟩) (fun a ha => μ1 a (by omega)) (hall m hm).2.2.2
  have rt1 : ∀ m, m ≤ nm → zRt b r1 (ra' m) (μs' m) ∧ zMuOk K (μs' m) := fun m hm => by
    by_cases e : m = nm
    · rw [e, ra0, μ0]; exact ⟨hRt, hK⟩
    · rw [ra1 m (by omega), μ1 m (by omega)]
      exact ⟨(hall m (by omega)).1.rk e7, (hall m (by omega)).2.2.1⟩
  -- the class's judging
  have hE : zEv b K F ρ α π r1 (zV (zI (zI C 5 2 0) 5 3 0) 9 8 (.ref (ra' nm))) M nm ra' μs' := by
    refine ⟨hT.cong rfl rfl rfl rfl rfl rfl rfl rfl, ?_, hnm, rfl, rt1⟩
    have hL1 : zLst b (zV (zI (zI C 5 2 0) 5 3 0) 9 8 (.ref (ra' nm))) r1 nm ra := hL.up hr rfl rfl e7.2 e9
    obtain ⟨g1, a, g2, g3⟩ := hL1
    refine ⟨g1, a, g2, ?_⟩
    rcases g3 with g3 | ⟨cap, g, g3, g4, g5, g6, g7⟩
    · exact Or.inl g3
    · exact Or.inr ⟨cap, g, g3, g4, g5, g6, fun i hi => by rw [ra1 i hi]; exact g7 i hi⟩
  obtain ⟨C1, g, s1, s2, s3, s4⟩ := zd_finds (N := N) (w := w) hE (by omega)
  have s1' : ∀ M0 : zM, mX3_findsGood N (b + 9) r.2.1 (zc w b (zI (zI C 5 2 0) 5 3 0) M0 r1) = some (zc w b C1 M0 r1, g) := fun M0 => by
    have := s1 M0
    rw [ra0] at this
    exact this
  have cls : ∀ M0 : zM, mX8_method N (b + 0) (Int32.ofNat n0) (Int32.ofNat lo) (Int32.ofNat sk) (Int32.ofNat rs) (zc w b C M0 r) = if g = 0 then some (zc w b C1 M0 r1, .inl (-1 : Int32)) else (mJx4a65c_add_9ea2d N (b + 8) r.2.1 (zc w b C1 M0 r1)).bind fun o29 => (zm_R o29.1 (b + 0) 8 2).bind fun v31 => if zm_k o29.1 v31 5 = true then ((mJx4a65c_size_8abf5 N v31 o29.1).bind fun o33 => some (o33.1, .inl (o33.2 - (1 : Int32)))) else none := fun M0 => by
    have em := e1 M0
    rw [clshead, if_neg h20', zc_nw hr.1]
    obtain ⟨o11, k1, em⟩ := Option.bind_eq_some_iff.mp em
    obtain ⟨o15, k2, em⟩ := Option.bind_eq_some_iff.mp em
    obtain ⟨f1, q1, _⟩ := zd_code (N := N) (w := w) (b := b) (C := C) (r := zv_nw r (.inr (6, zd_6)) 7) d1 d3 (fun i hi => by rw [(d4 i hi).2.1]; exact zfit_b (d4 i hi).1) (show b + 113 ≤ r.2.1 + 1 by have := hr.1; omega)
    have p1 : o11.1 = zc w b C M0 (zv_nw (zv_nw r (.inr (6, zd_6)) 7) (.inl (2, n, .inl f1)) n) := by
      rw [q1 M0] at k1
      injection k1 with k1
      rw [← k1]
    have x1 : zm_R o11.1 (b + 0) 8 1 = some (b + 5) := by rw [p1]; exact zqg_0_1
    have x2 : zm_k o11.1 (b + 5) 0 = true := by rw [p1]; exact zqk_5
    rw [k1, Option.bind_some, x1, Option.bind_some, if_pos x2, k2, Option.bind_some, em, Option.bind_some, zqg_0_1, Option.bind_some, if_pos zqk_5]
    conv => lhs; unfold mX0_empty mX0_empty_0
    rw [zqp_5_2, Option.bind_some, zqp_5_3, Option.bind_some, Option.bind_some, zqg_0_3, Option.bind_some, if_pos zqk_9, s1' M0, Option.bind_some]
    dsimp only
    by_cases c0 : g = 0
    · rw [if_pos c0, if_pos c0]
    · rw [if_neg c0, if_neg c0, zqg_0_2, Option.bind_some, if_pos zqk_8]
  -- the reference's tables
  obtain ⟨M2, t1, t2, t3, t4, t5, t6, t7, t8, t9, t10, t11, t12, t13, t14⟩ := zj_138 (N := N) (w := w) (b := b) (n := n0) (na := zna n0) (lo := Int32.ofNat lo) (sk := Int32.ofNat sk) (rs := Int32.ofNat rs) hnm d3 (by omega) d7 hn0 z1 (zna n0) N 0 (zJ (zJ M 100 0 0) 12 nm (Int32.ofNat (zna n0))) (by omega) (by omega) d2 d6
  have ref1 : ∀ (C0 : zC) (r0 : zv_X), mX9_method N (b + 75) (Int32.ofNat n0) (Int32.ofNat lo) (Int32.ofNat sk) (Int32.ofNat rs) (zc w b C0 M r0) = zTm N b nm (zc w b C0 M2 r0) := fun C0 r0 => by
    rw [refhead, if_neg h20', ← t1 C0 r0, Nat.pow_zero, Nat.div_one]
    unfold mX9_method_105
    rw [zqp_75_0, Option.bind_some, zqg_75_0, Option.bind_some, show (zJ M 100 0 0).1 100 0 = 0 from rfl, if_pos (by decide), zqg_75_19, Option.bind_some, show (zJ M 100 0 0).1 100 19 = Int32.ofNat nm from hm19, zqg_75_12, Option.bind_some, zqs_83 hnm, Option.bind_some, zi_l0]
  have jr : ∀ o j, ¬ (o = 100 ∧ j = 0) → ¬ (o = 12 ∧ j = nm) → (zJ (zJ M 100 0 0) 12 nm (Int32.ofNat (zna n0))).1 o j = M.1 o j := fun o j g1 g2 => by rw [zJ1, if_neg g2, zJ1, if_neg g1]
  have fr2 : ∀ o j, ¬ (o = 10 ∧ 32 * nm ≤ j) → ¬ (o = 17 ∧ 200 * nm ≤ j) → ¬ ((o = 11 ∨ o = 12 ∨ o = 14 ∨ o = 15 ∨ o = 16 ∨ o = 18) ∧ j = nm) → ¬ (o = 13 ∧ 4 * nm ≤ j) → ¬ (o = 100 ∧ (j = 0 ∨ j = 7 ∨ j = 9)) → M2.1 o j = M.1 o j := fun o j g1 g2 g3 g4 g5 => (t2 o j g1 (by omega) g2 (by omega) g4).trans (jr o j (by omega) (by omega))
  have mt2 : ∀ m, m ≤ nm → zMt M2 m (μs' m) := fun m hm => by
    by_cases e : m = nm
    · rw [e, μ0, hμ]
      refine ⟨t12, fun i hi => (t8 i hi).trans ((jr 6 i (by omega) (by omega)).trans (d4 i hi).2.2), t6, fun i hi => (t7 i hi).trans ((jr 8 i (by omega) (by omega)).trans (d8 i hi).2.2), ?_, fun i hi => t14 i (Nat.zero_le i) hi, t9, t10, t11⟩
      rw [t2 12 nm (by omega) (by omega) (by omega) (by omega) (by omega), zJ1, if_pos ⟨rfl, rfl⟩]
      rfl
    · rw [μ1 m (by omega)]
      exact (hall m (by omega)).2.1.fr (hall m (by omega)).2.2.1 (show m < nm by omega) (fun o j g1 g2 g3 g4 g5 => fr2 o j g1 g2 g3 g4 (by omega))
  have hEm : zEm K F ρ α π C M2 nm μs' := ⟨hT.cong rfl rfl rfl rfl (fr2 100 5 (by omega) (by omega) (by omega) (by omega) (by omega)) (funext fun k => fr2 2 k (by omega) (by omega) (by omega) (by omega) (by omega)) (funext fun k => fr2 3 k (by omega) (by omega) (by omega) (by omega) (by omega)) (funext fun k => fr2 4 k (by omega) (by omega) (by omega) (by omega) (by omega)), hnm, (fr2 100 19 (by omega) (by omega) (by omega) (by omega) (by omega)).trans hm19, fun m hm => ⟨mt2 m hm, (rt1 m hm).2⟩⟩
  obtain ⟨M3, g', v1, v2, v3⟩ := zj_good (N := N) (w := w) (b := b) hEm hN
  have m0 : M2.1 100 0 = 0 := by
    rw [t2 100 0 (by omega) (by omega) (by omega) (by omega) (by omega), zJ1, if_neg (by omega), zJ1, if_pos ⟨rfl, rfl⟩]
  have frC : ∀ o k, ¬ (o = 5 ∨ 8 ≤ o ∧ o ≤ 14) → C1.1 o k = C.1 o k := fun o k e => (s2 o k (by omega)).trans (by rw [zI1, if_neg (by omega), zI1, if_neg (by omega)])
  have frV : ∀ o k, o ≠ 8 → o ≠ 9 → C1.2.2 o k = C.2.2 o k := fun o k e1 e2 => by
    rw [s3]
    exact if_neg (by omega)
  have c52 : C1.1 5 2 = 0 := (s2 5 2 (by omega)).trans rfl
  have c53 : C1.1 5 3 = 0 := (s2 5 3 (by omega)).trans rfl
  have c82 : C1.1 8 2 = C.1 8 2 := (s2 8 2 (by omega)).trans (by rw [zI1, if_neg (by omega), zI1, if_neg (by omega)])
  have c81 : C1.2.2 8 1 = C.2.2 8 1 := by rw [s3]; rfl
  have dr0 : ∀ (C' : zC) (M' : zM), C'.1 5 2 = 0 → C'.1 5 3 = 0 → M'.1 100 7 = 0 → M'.1 100 9 = 0 → zDr C' M' K 0 c 0 hs := fun C' M' q1 q2 q3 q4 => ⟨q1, q3, Nat.zero_le _, fun i hi => by omega, q2, q4, Nat.zero_le _, fun i hi => by omega, fun j hj => by omega⟩
  have bad : ∀ M4 : zM, (∀ (C0 : zC) (r0 : zv_X), zTm N b nm (zc w b C0 M2 r0) = some (zc w b C0 M4 r0, -1)) → zMx M2 M4 → g = 0 → ∃ (C' : zC) (M' : zM) (r' : zv_X) (v : Int32) (Q' : zQo), zHC w b (mX8_method N (b + 0) (Int32.ofNat n0) (Int32.ofNat lo) (Int32.ofNat sk) (Int32.ofNat rs)) C r (fun x => (x, .inl v)) C' r' ∧ zHM w b (mX9_method N (b + 75) (Int32.ofNat n0) (Int32.ofNat lo) (Int32.ofNat sk) (Int32.ofNat rs)) M (fun x => (x, v)) M' ∧ M'.1 100 0 = 0 ∧ zMe b K F ρ r' C' M' Q' ∧ zDr C' M' K 0 c 0 hs ∧ zRr b r' ∧ r.2.1 ≤ r'.2.1 ∧ r'.2.1 ≤ r.2.1 + 4 ∧ r'.2.2.1 ≤ r.2.2.1 + 261 ∧ r'.2.2.2 = r.2.2.2 ∧
      (∀ o k, ¬ (o = 5 ∨ 8 ≤ o ∧ o ≤ 14) → C'.1 o k = C.1 o k) ∧ C'.2.1 = C.2.1 ∧ (∀ o k, o ≠ 8 → o ≠ 9 → C'.2.2 o k = C.2.2 o k) ∧ (∀ o k, ¬ (10 ≤ o ∧ o ≤ 26) → ¬ (o = 100 ∧ (k = 0 ∨ k = 7 ∨ k = 9 ∨ k = 19 ∨ k = 25 ∨ k = 27 ∨ k = 28)) → M'.1 o k = M.1 o k) ∧ M'.2 = M.2 := fun M4 ht hx hg => by
    refine ⟨C1, M4, r1, -1, (nm, ra, μs, τs), fun M0 => by rw [cls M0, if_pos hg], fun C0 r0 => (ref1 C0 r0).trans (ht C0 r0), (hx.1 100 0 (by omega)).trans m0, ⟨hQ, (hx.1 100 19 (by omega)).trans ((fr2 100 19 (by omega) (by omega) (by omega) (by omega) (by omega)).trans hm19), hL.up hr c82 c81 e7.2 e9, fun m hm => ⟨(hall m hm).1.rk e7, ?_, (hall m hm).2.2.1, (hall m hm).2.2.2⟩⟩, dr0 C1 M4 c52 c53 ((hx.1 100 7 (by omega)).trans t4) ((hx.1 100 9 (by omega)).trans t5), e8, by omega, by omega, by omega, e7.2, frC, by rw [s3]; rfl, frV, fun o k g1 g2 => (hx.1 o k (by omega)).trans (fr2 o k (by omega) (by omega) (by omega) (by omega) (by omega)), hx.2.trans t3⟩
    have := mt2 m (Nat.le_of_lt hm)
    rw [μ1 m hm] at this
    exact this.cong fun o k e => hx.1 o k (by omega)
  by_cases hn : n = 0
  · -- no code at all
    have hg : g = 0 := by
      rcases s4 with ⟨_, τ, hg⟩ | ⟨hg, _⟩
      · have := hg.2.1
        rw [μ0, hμ] at this
        have this' : 0 < n := this
        omega
      · exact hg
    refine bad M2 (fun C0 r0 => ?_) zMx.rf hg
    unfold zTm mX9_method_328
    rw [zqg_75_18, Option.bind_some, zqa_89 hnm, Option.bind_some, t12, if_pos (by rw [hn]; rfl)]
  · have hn' : ¬ Int32.ofNat n = 0 := by rw [zi_l0, zi_eq (by omega) (by omega)]; exact hn
    rcases s4 with ⟨hg, τ, hτ⟩ | ⟨hg, hτ⟩
    · -- good
      have hg' : g' = 1 := by
        rcases v3 with ⟨hg', _⟩ | ⟨_, hτ'⟩
        · exact hg'
        · exact absurd hτ (hτ' τ)
      have hL1 : zLst b C1 r1 nm ra' := by
        have := hL.up (C' := C1) hr c82 c81 e7.2 e9
        obtain ⟨g1, a, g2, g3⟩ := this
        refine ⟨g1, a, g2, ?_⟩
        rcases g3 with g3 | ⟨cap, gg, g3, g4, g5, g6, g7⟩
        · exact Or.inl g3
        · exact Or.inr ⟨cap, gg, g3, g4, g5, g6, fun i hi => by rw [ra1 i hi]; exact g7 i hi⟩
      obtain ⟨C2, r2, w1, w2, w3, w4, w5, w6, w7, w8, w9, w10⟩ := zd_ladd (N := N) (w := w) (μs := μs') hL1 hnm (fun m hm => (rt1 m (Nat.le_of_lt hm)).1) e8 hRt
      have ra2 : (fun m => if m = nm then r.2.1 else ra' m) = ra' := funext fun m => by
        by_cases e : m = nm
        · rw [if_pos e, e, ra0]
        · rw [if_neg e]
      rw [ra2] at w2
      have w1' : ∀ M0 : zM, mJx4a65c_add_9ea2d N (b + 8) r.2.1 (zc w b C1 M0 r1) = some (zc w b C2 M0 r2, 1) := w1
      have fr3 : ∀ o k, ¬ (10 ≤ o ∧ o ≤ 26) → ¬ (o = 100 ∧ (k = 0 ∨ k = 7 ∨ k = 9 ∨ k = 19 ∨ k = 25 ∨ k = 27 ∨ k = 28)) → (zJ M3 100 19 (Int32.ofNat (nm + 1))).1 o k = M.1 o k := fun o k g1 g2 => by
        rw [zJ1, if_neg (by omega), v2.1 o k (by omega)]
        exact fr2 o k (by omega) (by omega) (by omega) (by omega) (by omega)
      refine ⟨C2, zJ M3 100 19 (Int32.ofNat (nm + 1)), r2, Int32.ofNat nm, (nm + 1, ra', μs', fun m => if m = nm then τ else τs m), fun M0 => ?_, fun C0 r0 => ?_, ?_, ⟨hnm, rfl, w2, fun m hm => ?_⟩, dr0 C2 _ ((w3 5 2 (by omega)).trans c52) ((w3 5 3 (by omega)).trans c53) ?_ ?_, w7, by omega, by omega, by omega, w6.2.trans e7.2, fun o k e => (w3 o k (by omega)).trans (frC o k e), by rw [w4, s3]; rfl, fun o k g1 g2 => (w5 o k (by omega)).trans (frV o k g1 g2), fr3, v2.2.trans t3⟩
      · rw [cls M0, hg, if_neg (by decide), w1' M0, Option.bind_some]
        dsimp only
        rw [zqg_0_2, Option.bind_some, if_pos zqk_8]
        unfold mJx4a65c_size_8abf5 mJx4a65c_size_8abf5_0
        rw [zqg_8_2, Option.bind_some, Option.bind_some, w2.1]
        dsimp only
        rw [zi_l1, zi_sub (by omega)]
        rfl
      · rw [ref1]
        unfold zTm
        rw [zqg_75_18, Option.bind_some, zqa_89 hnm, Option.bind_some, t12, if_neg hn', if_pos zqk_75, v1 C0 r0, Option.bind_some]
        dsimp only
        rw [hg', if_neg (by decide), zqg_75_19, Option.bind_some, v2.1 100 19 (by omega), fr2 100 19 (by omega) (by omega) (by omega) (by omega) (by omega), hm19, zi_l1, zi_add, zqp_75_19, Option.bind_some]
      · rw [zJ1, if_neg (by omega), v2.1 100 0 (by omega)]
        exact m0
      · dsimp only
        by_cases e : m = nm
        · rw [e, if_pos rfl]
          refine ⟨((rt1 nm (Nat.le_refl nm)).1).rk w6, ((mt2 nm (Nat.le_refl nm)).cong fun o k e => v2.1 o k (by omega)).cong fun o k e => ?_, (rt1 nm (Nat.le_refl nm)).2, hτ⟩
          rw [zJ1, if_neg (by omega)]
        · rw [if_neg e]
          refine ⟨((rt1 m (by omega)).1).rk w6, ((mt2 m (by omega)).cong fun o k e => v2.1 o k (by omega)).cong fun o k e => ?_, (rt1 m (by omega)).2, gx m (by omega)⟩
          rw [zJ1, if_neg (by omega)]
      · rw [zJ1, if_neg (by omega), v2.1 100 7 (by omega)]
        exact t4
      · rw [zJ1, if_neg (by omega), v2.1 100 9 (by omega)]
        exact t5
    · -- not good
      rcases v3 with ⟨_, τ, hτ'⟩ | ⟨hg', _⟩
      · exact absurd hτ' (hτ τ)
      refine bad M3 (fun C0 r0 => ?_) v2 hg
      unfold zTm mX9_method_328
      rw [zqg_75_18, Option.bind_some, zqa_89 hnm, Option.bind_some, t12, if_neg hn', if_pos zqk_75, v1 C0 r0, Option.bind_some]
      dsimp only
      rw [hg', if_pos rfl]
end ZPN
