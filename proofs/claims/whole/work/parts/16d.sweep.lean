/-! ===== the class's heap: its order, sweeping, adding ===== -/
def zHc (w : Nat) (C : zC) (ω : Nat → Nat) (u tp : Nat) : Prop :=
  C.1 16 7 = Int32.ofNat u ∧ C.1 16 8 = Int32.ofNat tp ∧ u ≤ w / 2 ∧ tp ≤ w ∧ (∀ i, i < w / 2 → C.1 21 i = Int32.ofNat (ω i + 1) ∧ ω i < w / 2) ∧ (∀ i j, i < w / 2 → j < w / 2 → ω i = ω j → i = j) ∧
  (∀ i, i < u → zha C (ω i) = zs (fun j => zhW C (ω j)) i ∧ 2 ≤ zhW C (ω i)) ∧ tp = zs (fun j => zhW C (ω j)) u
def zCp (C : zC) (s d n : Nat) : zC := (fun o => if o = 17 then va_cpy (C.1 17) (C.1 17) s d n else C.1 o, C.2)
def zFill (C : zC) (p a n : Nat) : zC := (fun o k => if o = p ∧ a ≤ k ∧ k < a + n then 0 else C.1 o k, C.2)
def zJv (w : Nat) (C0 : zC) (ω : Nat → Nat) (u : Nat) (S : Nat → Bool) (C : zC) (ψ : Nat → Nat) (i k fr : Nat) : Prop :=
  (∀ o x, o ≠ 17 → o ≠ 18 → o ≠ 21 → C.1 o x = C0.1 o x) ∧ C.2 = C0.2 ∧ k ≤ i ∧ i ≤ u ∧
  (∀ j, j < w / 2 → C.1 21 j = Int32.ofNat (ψ j + 1) ∧ ψ j < w / 2) ∧ (∀ a c, a < w / 2 → c < w / 2 → ψ a = ψ c → a = c) ∧
  (∀ j, i ≤ j → ψ j = ω j) ∧ (∀ x, (∃ j, j < k ∧ ψ j = x) ↔ (S x = true ∧ ∃ j, j < i ∧ ω j = x)) ∧
  (∀ j, j < k → zha C (ψ j) = zs (fun e => zhW C0 (ψ e)) j) ∧ fr = zs (fun e => zhW C0 (ψ e)) k ∧ fr ≤ zs (fun e => zhW C0 (ω e)) i ∧
  (∀ j, j < k → ∀ e, e < zhW C0 (ψ j) → C.1 17 (zha C (ψ j) + e) = C0.1 17 (zha C0 (ψ j) + e)) ∧
  ∀ j, i ≤ j → j < u → zha C (ω j) = zha C0 (ω j) ∧ ∀ e, e < zhW C0 (ω j) → C.1 17 (zha C0 (ω j) + e) = C0.1 17 (zha C0 (ω j) + e)
section ZSW
variable {N w b : Nat} {C C0 : zC} {r : zv_X}
theorem zCp_o {s d n o k : Nat} (h : o ≠ 17) : (zCp C s d n).1 o k = C.1 o k := by
  show (if o = 17 then _ else C.1 o) k = _
  rw [if_neg h]
theorem zCp_17 {s d n k : Nat} : (zCp C s d n).1 17 k = if d ≤ k ∧ k < d + n then C.1 17 (s + (k - d)) else C.1 17 k := by
  show (if 17 = 17 then va_cpy (C.1 17) (C.1 17) s d n else C.1 17) k = _
  rw [if_pos rfl]
  rfl
theorem zqc_17 {M : zM} (hw : w ≤ 400) {s d n : Nat} (h1 : s + n ≤ w) (h2 : d + n ≤ w) : zm_cp (zc w b C M r) (b + 17) (Int32.ofNat s) (b + 17) (Int32.ofNat d) (Int32.ofNat n) = some (zc w b (zCp C s d n) M r) := by
  have h17 : (zc w b C M r).1 (b + 17) = some (.inl (0, w, .inl (C.1 17))) := zat_17
  unfold zm_cp
  simp only [h17]
  rw [zi_cl (show s < 2 ^ 31 by omega), zi_cl (show d < 2 ^ 31 by omega), zi_cl (show n < 2 ^ 31 by omega)]
  rw [if_pos ⟨⟨trivial, Or.inl trivial⟩, ⟨by rw [zi_nn (by omega)]; exact id, by rw [zi_nn (by omega)]; exact id, by rw [zi_nn (by omega)]; exact id⟩, h1, h2, fun _ _ => rfl⟩]
  exact congrArg some (zc_setC (v := 17) (C' := zCp C s d n) (fun p hp => if_neg hp) (fun _ _ => rfl) (fun _ _ => rfl) (Or.inl (by decide)) (congrArg (fun g => Sum.inl (0, w, Sum.inl g)) (show (if 17 = 17 then va_cpy (C.1 17) (C.1 17) s d n else C.1 17) = va_cpy (C.1 17) (C.1 17) s d n from if_pos rfl)))
theorem zha_c {x : Nat} (h : C.1 18 (x + 1) = C0.1 18 (x + 1)) : zha C x = zha C0 x := by unfold zha; rw [h]
theorem zhW_c {x : Nat} (h : C.1 19 (x + 1) = C0.1 19 (x + 1)) : zhW C x = zhW C0 x := by unfold zhW; rw [h]
/-- one is kept -/
theorem zJv_keep {ω ψ : Nat → Nat} {u tp i k fr : Nat} {S : Nat → Bool} (hw : w ≤ 400) (hH : zHc w C0 ω u tp) (hJ : zJv w C0 ω u S C ψ i k fr) (hi : i < u) (hS : S (ω i) = true) :
    zJv w C0 ω u S (zI (zI (zI (zCp C (zha C0 (ω i)) fr (zhW C0 (ω i))) 18 (ω i + 1) (Int32.ofNat fr)) 21 i (Int32.ofNat (ψ k + 1))) 21 k (Int32.ofNat (ω i + 1))) (zset (zset ψ i (ψ k)) k (ω i)) (i + 1) (k + 1) (fr + zhW C0 (ω i)) := by
  obtain ⟨c1, c2, c3, c4, c5, c6, c7, c8⟩ := hH
  obtain ⟨j1, j2, j3, j4, j5, j6, j7, j8, j9, j10, j11, j12, j13⟩ := hJ
  obtain ⟨p1, p2⟩ := c7 i hi
  have htp : zs (fun j => zhW C0 (ω j)) (i + 1) ≤ tp := by rw [c8]; exact zs_mono (by omega)
  have hsucc : zs (fun j => zhW C0 (ω j)) (i + 1) = zha C0 (ω i) + zhW C0 (ω i) := by rw [p1]; rfl
  have hψi : ψ i = ω i := j7 i (Nat.le_refl i)
  have hsw : ∀ a, zset (zset ψ i (ψ k)) k (ω i) a = ψ (if a = k then i else if a = i then k else a) := fun a => by
    unfold zset
    by_cases e : a = k
    · rw [if_pos e, if_pos e, hψi]
    · rw [if_neg e, if_neg e]
      by_cases e' : a = i
      · rw [if_pos e', if_pos e']
      · rw [if_neg e', if_neg e']
  have hlow : ∀ a, a < k → zset (zset ψ i (ψ k)) k (ω i) a = ψ a := fun a ha => by rw [hsw, if_neg (by omega), if_neg (by omega)]
  have hk : zset (zset ψ i (ψ k)) k (ω i) k = ω i := if_pos rfl
  have hne : ∀ a, a < k → ψ a ≠ ω i := fun a ha e => by
    have := j6 a i (by omega) (by omega) (e.trans hψi.symm)
    omega
  have h18 : ∀ y, y ≠ ω i → (zI (zI (zI (zCp C (zha C0 (ω i)) fr (zhW C0 (ω i))) 18 (ω i + 1) (Int32.ofNat fr)) 21 i (Int32.ofNat (ψ k + 1))) 21 k (Int32.ofNat (ω i + 1))).1 18 (y + 1) = C.1 18 (y + 1) := fun y hy => by
    rw [zI1, if_neg (by omega), zI1, if_neg (by omega), zI1, if_neg (by omega), zCp_o (by decide)]
  have h17 : ∀ y, (zI (zI (zI (zCp C (zha C0 (ω i)) fr (zhW C0 (ω i))) 18 (ω i + 1) (Int32.ofNat fr)) 21 i (Int32.ofNat (ψ k + 1))) 21 k (Int32.ofNat (ω i + 1))).1 17 y = if fr ≤ y ∧ y < fr + zhW C0 (ω i) then C.1 17 (zha C0 (ω i) + (y - fr)) else C.1 17 y := fun y => by
    rw [zI1, if_neg (by omega), zI1, if_neg (by omega), zI1, if_neg (by omega), zCp_17]
  have hx : zha (zI (zI (zI (zCp C (zha C0 (ω i)) fr (zhW C0 (ω i))) 18 (ω i + 1) (Int32.ofNat fr)) 21 i (Int32.ofNat (ψ k + 1))) 21 k (Int32.ofNat (ω i + 1))) (ω i) = fr := by
    unfold zha
    rw [zI1, if_neg (by omega), zI1, if_neg (by omega), zI1, if_pos ⟨rfl, rfl⟩, zN_nat (by omega)]
  have hsum : ∀ a, a ≤ k → zs (fun e => zhW C0 (zset (zset ψ i (ψ k)) k (ω i) e)) a = zs (fun e => zhW C0 (ψ e)) a := fun a ha => zs_congr fun e he => by rw [hlow e (by omega)]
  refine ⟨fun o x h1 h2 h3 => ?_, j2, by omega, by omega, fun j hj => ?_, fun a c ha hc e => ?_, fun j hj => ?_, fun x => ⟨fun ⟨j, hj, e⟩ => ?_, fun ⟨h1, j, hj, e⟩ => ?_⟩, fun j hj => ?_, ?_, by omega, fun j hj e he => ?_, fun j h1 h2 => ?_⟩
  · rw [zI1, if_neg (fun q => h3 q.1), zI1, if_neg (fun q => h3 q.1), zI1, if_neg (fun q => h2 q.1), zCp_o h1]
    exact j1 o x h1 h2 h3
  · rw [zI1]
    by_cases e : j = k
    · subst e
      rw [if_pos ⟨rfl, rfl⟩, hk]
      exact ⟨rfl, (c5 i (by omega)).2⟩
    · rw [if_neg (fun q => e q.2), zI1, hsw, if_neg e]
      by_cases e' : j = i
      · subst e'
        rw [if_pos ⟨rfl, rfl⟩, if_pos rfl]
        exact ⟨rfl, (j5 k (by omega)).2⟩
      · rw [if_neg (fun q => e' q.2), if_neg e', zI1, if_neg (by omega), zCp_o (by decide)]
        exact j5 j hj
  · rw [hsw, hsw] at e
    have e2 := j6 _ _ (by split; omega; split <;> omega) (by split; omega; split <;> omega) e
    split at e2 <;> split at e2 <;> (try split at e2) <;> (try split at e2) <;> omega
  · rw [hsw, if_neg (by omega), if_neg (by omega)]
    exact j7 j (by omega)
  · by_cases c : j = k
    · rw [c, hk] at e
      subst e
      exact ⟨hS, i, by omega, rfl⟩
    · rw [hlow j (by omega)] at e
      obtain ⟨a1, j', a2, a3⟩ := (j8 x).1 ⟨j, by omega, e⟩
      exact ⟨a1, j', by omega, a3⟩
  · by_cases c : j = i
    · subst c
      exact ⟨k, by omega, by rw [hk]; exact e⟩
    · obtain ⟨j', a2, a3⟩ := (j8 x).2 ⟨h1, j, by omega, e⟩
      exact ⟨j', by omega, by rw [hlow j' a2]; exact a3⟩
  · by_cases c : j = k
    · rw [c, hk, hx, hsum k (Nat.le_refl k)]
      exact j10
    · rw [hlow j (by omega), hsum j (by omega), ← j9 j (by omega)]
      exact zha_c (h18 _ (hne j (by omega)))
  · show fr + zhW C0 (ω i) = zs _ k + zhW C0 (zset (zset ψ i (ψ k)) k (ω i) k)
    rw [hk, hsum k (Nat.le_refl k), j10]
  · by_cases c : j = k
    · rw [c, hk] at he
      rw [c, hk, hx, h17, if_pos ⟨by omega, by omega⟩, Nat.add_sub_cancel_left]
      exact (j13 i (Nat.le_refl i) hi).2 e he
    · rw [hlow j (by omega)] at he
      rw [hlow j (by omega), zha_c (C0 := C) (h18 _ (hne j (by omega))), h17]
      have s1 : zs (fun e => zhW C0 (ψ e)) (j + 1) ≤ zs (fun e => zhW C0 (ψ e)) k := zs_mono (by omega)
      have s2 : zs (fun e => zhW C0 (ψ e)) (j + 1) = zs (fun e => zhW C0 (ψ e)) j + zhW C0 (ψ j) := rfl
      have s3 := j9 j (by omega)
      rw [if_neg (by omega)]
      exact j12 j (by omega) e he
  · obtain ⟨g1, g2⟩ := j13 j (by omega) h2
    have hj : ω j ≠ ω i := fun e => by
      have := c6 j i (by omega) (by omega) e
      omega
    refine ⟨(zha_c (h18 _ hj)).trans g1, fun e he => ?_⟩
    have s1 : zs (fun j => zhW C0 (ω j)) (i + 1) ≤ zs (fun j => zhW C0 (ω j)) j := zs_mono (by omega)
    have s2 := (c7 j h2).1
    rw [h17, if_neg (by omega)]
    exact g2 e he
theorem zd_sweep6 {ω : Nat → Nat} {u tp : Nat} {S : Nat → Bool} (hw : w ≤ 400) (hH : zHc w C0 ω u tp) (hS : ∀ x, x < w / 2 → (C0.1 20 (x + 1) = C0.1 16 9 ↔ S x = true)) :
    ∀ (m fuel i k fr : Nat) (C : zC) (ψ : Nat → Nat), i + m = u → m < fuel → zJv w C0 ω u S C ψ i k fr → ∃ (C' : zC) (ψ' : Nat → Nat) (k' fr' : Nat), zJv w C0 ω u S C' ψ' u k' fr' ∧ zHC w b (mX2_sweep_6 N fuel (b + 16) (Int32.ofNat k) (Int32.ofNat fr) (Int32.ofNat i)) C r id (zI (zI C' 16 7 (Int32.ofNat k')) 16 8 (Int32.ofNat fr')) r := by
  intro m
  induction m with
  | zero =>
    intro fuel i k fr C ψ hi hf hJ
    obtain ⟨fuel, rfl⟩ : ∃ g, fuel = g + 1 := ⟨fuel - 1, by omega⟩
    have : i = u := by omega
    subst this
    refine ⟨C, ψ, k, fr, hJ, fun M => ?_⟩
    have e7 : C.1 16 7 = Int32.ofNat i := (hJ.1 16 7 (by decide) (by decide) (by decide)).trans hH.1
    have := hH.2.2.1
    unfold mX2_sweep_6
    simp (disch := omega) only [zqg_16_7, e7, Option.bind_some, zi_le]
    rw [if_pos (by omega), zqp_16_7, Option.bind_some, zqp_16_8, Option.bind_some]
    rfl
  | succ m ih =>
    intro fuel i k fr C ψ hi hf hJ
    obtain ⟨fuel, rfl⟩ : ∃ g, fuel = g + 1 := ⟨fuel - 1, by omega⟩
    have hH' := hH
    have hJ' := hJ
    obtain ⟨c1, c2, c3, c4, c5, c6, c7, c8⟩ := hH
    obtain ⟨j1, j2, j3, j4, j5, j6, j7, j8, j9, j10, j11, j12, j13⟩ := hJ
    have e7 : C.1 16 7 = Int32.ofNat u := (j1 16 7 (by decide) (by decide) (by decide)).trans c1
    have e21 : C.1 21 i = Int32.ofNat (ω i + 1) := by rw [(j5 i (by omega)).1, j7 i (Nat.le_refl i)]
    have hlt := (c5 i (by omega)).2
    have e20 : C.1 20 (ω i + 1) = C0.1 20 (ω i + 1) := j1 20 _ (by decide) (by decide) (by decide)
    have e9 : C.1 16 9 = C0.1 16 9 := j1 16 9 (by decide) (by decide) (by decide)
    by_cases hSx : S (ω i) = true
    · obtain ⟨C', ψ', k', fr', h1, h2⟩ := ih fuel (i + 1) (k + 1) (fr + zhW C0 (ω i)) _ _ (by omega) (by omega) (zJv_keep hw hH' hJ' (by omega) hSx)
      refine ⟨C', ψ', k', fr', h1, fun M => ?_⟩
      have h2 := h2 M
      obtain ⟨p1, p2⟩ := c7 i (by omega)
      have htp : zs (fun j => zhW C0 (ω j)) (i + 1) ≤ tp := by rw [c8]; exact zs_mono (by omega)
      have hsucc : zs (fun j => zhW C0 (ω j)) (i + 1) = zha C0 (ω i) + zhW C0 (ω i) := by rw [p1]; rfl
      have e18 : C.1 18 (ω i + 1) = Int32.ofNat (zha C0 (ω i)) := by
        rw [← (j13 i (Nat.le_refl i) (by omega)).1]; exact (zN_of _).symm
      have e19 : C.1 19 (ω i + 1) = Int32.ofNat (zhW C0 (ω i)) := by
        rw [j1 19 _ (by decide) (by decide) (by decide)]; exact (zN_of _).symm
      have e21k : C.1 21 k = Int32.ofNat (ψ k + 1) := (j5 k (by omega)).1
      have f19 : (zI (zCp C (zha C0 (ω i)) fr (zhW C0 (ω i))) 18 (ω i + 1) (Int32.ofNat fr)).1 19 (ω i + 1) = Int32.ofNat (zhW C0 (ω i)) := by
        rw [zI1, if_neg (by omega), zCp_o (by decide)]; exact e19
      have f21 : (zI (zCp C (zha C0 (ω i)) fr (zhW C0 (ω i))) 18 (ω i + 1) (Int32.ofNat fr)).1 21 k = Int32.ofNat (ψ k + 1) := by
        rw [zI1, if_neg (by omega), zCp_o (by decide)]; exact e21k
      show mX2_sweep_6 N (fuel + 1) (b + 16) (Int32.ofNat k) (Int32.ofNat fr) (Int32.ofNat i) (zc w b C M r) = _
      unfold mX2_sweep_6 mX2_sweep_106
      simp (disch := omega) only [zqg_16_7, e7, Option.bind_some, zi_le]
      rw [if_neg (by omega)]
      simp (disch := omega) only [zqg_16_5, zqg_16_4, zqg_16_9, zqa_21 hw, e21, zqa_20 hw, e20, e9, Option.bind_some]
      rw [if_pos ((hS _ hlt).2 hSx)]
      simp (disch := omega) only [zqg_16_1, zqg_16_2, zqg_16_3, zqg_16_5, zqa_18 hw, zqa_19 hw, e18, e19, Option.bind_some, zqc_17 hw, zqs_18 hw, f19, zqa_21 hw, f21, zqs_21 hw, zi_lit, zi_add]
      exact h2
    · obtain ⟨C', ψ', k', fr', h1, h2⟩ := ih fuel (i + 1) k fr C ψ (by omega) (by omega) ⟨j1, j2, by omega, by omega, j5, j6, fun j hj => j7 j (by omega), fun x => ⟨fun h => by
          obtain ⟨a1, j', a2, a3⟩ := (j8 x).1 h
          exact ⟨a1, j', by omega, a3⟩, fun ⟨a1, j', a2, a3⟩ => (j8 x).2 ⟨a1, j', by
          by_cases e : j' = i
          · subst e; subst a3; exact absurd a1 hSx
          · omega, a3⟩⟩, j9, j10, Nat.le_trans j11 (zs_mono (by omega)), j12, fun j g1 g2 => j13 j (by omega) g2⟩
      refine ⟨C', ψ', k', fr', h1, fun M => ?_⟩
      have h2 := h2 M
      show mX2_sweep_6 N (fuel + 1) (b + 16) (Int32.ofNat k) (Int32.ofNat fr) (Int32.ofNat i) (zc w b C M r) = _
      unfold mX2_sweep_6 mX2_sweep_106
      simp (disch := omega) only [zqg_16_7, e7, Option.bind_some, zi_le]
      rw [if_neg (by omega)]
      simp (disch := omega) only [zqg_16_5, zqg_16_4, zqg_16_9, zqa_21 hw, e21, zqa_20 hw, e20, e9, Option.bind_some]
      rw [if_neg (fun q => hSx ((hS _ hlt).1 q))]
      simp (disch := omega) only [zi_lit, zi_add]
      exact h2
/-- what a change of the heap keeps of a handle -/
def zKp (C C' : zC) (x : Nat) : Prop := zhW C' x = zhW C x ∧ ∀ e, e < zhW C x → C'.1 17 (zha C' x + e) = C.1 17 (zha C x + e)
theorem zd_sweep {ω : Nat → Nat} {u tp : Nat} {S : Nat → Bool} (hN : 400 < N) (hw : w ≤ 400) (hH : zHc w C0 ω u tp) (hS : ∀ x, x < w / 2 → (C0.1 20 (x + 1) = C0.1 16 9 ↔ S x = true)) :
    ∃ (C' : zC) (ω' : Nat → Nat) (u' tp' : Nat), zHC w b (mX2_sweep N (b + 16)) C0 r id C' r ∧ zHc w C' ω' u' tp' ∧ (∀ x, (∃ i, i < u' ∧ ω' i = x) ↔ (S x = true ∧ ∃ i, i < u ∧ ω i = x)) ∧ (∀ x, (∃ i, i < u' ∧ ω' i = x) → zKp C0 C' x) ∧
      (∀ o k, o ≠ 17 → o ≠ 18 → o ≠ 21 → ¬ (o = 16 ∧ (k = 7 ∨ k = 8)) → C'.1 o k = C0.1 o k) ∧ C'.2 = C0.2 := by
  have hH' := hH
  obtain ⟨c1, c2, c3, c4, c5, c6, c7, c8⟩ := hH
  obtain ⟨C', ψ', k', fr', hJ, hrun⟩ := zd_sweep6 (N := N) (w := w) (b := b) (r := r) hw hH' hS u N 0 0 0 C0 ω (by omega) (by omega) ⟨fun _ _ _ _ _ => rfl, rfl, Nat.le_refl 0, Nat.zero_le u, c5, c6, fun _ _ => rfl, fun x => ⟨fun ⟨j, hj, _⟩ => absurd hj (Nat.not_lt_zero j), fun ⟨_, j, hj, _⟩ => absurd hj (Nat.not_lt_zero j)⟩, fun j hj => absurd hj (Nat.not_lt_zero j), rfl, Nat.zero_le _, fun j hj => absurd hj (Nat.not_lt_zero j), fun j _ _ => ⟨rfl, fun _ _ => rfl⟩⟩
  obtain ⟨j1, j2, j3, j4, j5, j6, j7, j8, j9, j10, j11, j12, j13⟩ := hJ
  have o18 : ∀ x, zha (zI (zI C' 16 7 (Int32.ofNat k')) 16 8 (Int32.ofNat fr')) x = zha C' x := fun x => zha_c (by rw [zI1, if_neg (by omega), zI1, if_neg (by omega)])
  have o19 : ∀ x, zhW (zI (zI C' 16 7 (Int32.ofNat k')) 16 8 (Int32.ofNat fr')) x = zhW C0 x := fun x => zhW_c (by rw [zI1, if_neg (by omega), zI1, if_neg (by omega)]; exact j1 19 _ (by decide) (by decide) (by decide))
  have o17 : ∀ x, (zI (zI C' 16 7 (Int32.ofNat k')) 16 8 (Int32.ofNat fr')).1 17 x = C'.1 17 x := fun x => by rw [zI1, if_neg (by omega), zI1, if_neg (by omega)]
  have ef : (fun e => zhW (zI (zI C' 16 7 (Int32.ofNat k')) 16 8 (Int32.ofNat fr')) (ψ' e)) = fun e => zhW C0 (ψ' e) := funext fun e => o19 _
  refine ⟨_, ψ', k', fr', hrun, ⟨?_, ?_, by omega, by omega, fun i hi => ?_, j6, fun i hi => ?_, ?_⟩, j8, fun x ⟨i, hi, e⟩ => ⟨o19 x, fun e' he => ?_⟩, fun o k h1 h2 h3 h4 => ?_, j2⟩
  · rw [zI1, if_neg (by omega), zI1, if_pos ⟨rfl, rfl⟩]
  · rw [zI1, if_pos ⟨rfl, rfl⟩]
  · rw [zI1, if_neg (by omega), zI1, if_neg (by omega)]; exact j5 i hi
  · rw [o18, o19, ef]
    refine ⟨j9 i hi, ?_⟩
    obtain ⟨_, j, g1, g2⟩ := (j8 (ψ' i)).1 ⟨i, hi, rfl⟩
    rw [← g2]; exact (c7 j g1).2
  · rw [ef]; exact j10
  · subst e
    rw [o18, o17]
    exact j12 i hi e' he
  · rw [zI1, if_neg (by omega), zI1, if_neg (by omega)]
    exact j1 o k h1 h2 h3
end ZSW
