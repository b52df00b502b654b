/-! ===== sums; a search by a list of what waits ===== -/
def zs (f : Nat → Nat) : Nat → Nat
  | 0 => 0
  | n + 1 => zs f n + f n
theorem zs_congr {f g : Nat → Nat} : ∀ {n : Nat}, (∀ i, i < n → f i = g i) → zs f n = zs g n
  | 0, _ => rfl
  | n + 1, h => by
    show zs f n + f n = zs g n + g n
    rw [zs_congr (fun i hi => h i (by omega)), h n (by omega)]
theorem zs_le {f g : Nat → Nat} : ∀ {n : Nat}, (∀ i, i < n → f i ≤ g i) → zs f n ≤ zs g n
  | 0, _ => Nat.le_refl 0
  | n + 1, h => by
    show zs f n + f n ≤ zs g n + g n
    have h1 := zs_le (n := n) (fun i hi => h i (by omega))
    have h2 := h n (by omega)
    omega
theorem zs_mono {f : Nat → Nat} {n : Nat} : ∀ {m : Nat}, n ≤ m → zs f n ≤ zs f m
  | 0, h => by rw [show n = 0 by omega]; exact Nat.le_refl _
  | m + 1, h => by
    by_cases c : n = m + 1
    · rw [c]; exact Nat.le_refl _
    · have := zs_mono (f := f) (n := n) (m := m) (by omega)
      show zs f n ≤ zs f m + f m
      omega
theorem zs_one : ∀ n, zs (fun _ => 1) n = n
  | 0 => rfl
  | n + 1 => by show zs (fun _ => 1) n + 1 = n + 1; rw [zs_one n]
theorem zs_mul {f : Nat → Nat} (k : Nat) : ∀ n, zs (fun i => k * f i) n = k * zs f n
  | 0 => rfl
  | n + 1 => by show zs (fun i => k * f i) n + k * f n = k * (zs f n + f n); rw [zs_mul k n, Nat.mul_add]
theorem zs_upd {f g : Nat → Nat} {a : Nat} (h : ∀ i, i ≠ a → g i = f i) : ∀ {n : Nat}, a < n → zs g n + f a = zs f n + g a
  | 0, ha => absurd ha (Nat.not_lt_zero a)
  | n + 1, ha => by
    show zs g n + g n + f a = zs f n + f n + g a
    by_cases c : a = n
    · subst c
      have : zs g a = zs f a := zs_congr fun i hi => h i (by omega)
      omega
    · have h1 := zs_upd h (n := n) (by omega)
      have h2 := h n (by omega)
      omega
theorem zs_zero {f : Nat → Nat} : ∀ {n : Nat}, (∀ i, i < n → f i = 0) → zs f n = 0
  | 0, _ => rfl
  | n + 1, h => by
    show zs f n + f n = 0
    rw [zs_zero (fun i hi => h i (by omega)), h n (by omega)]
/-- two sums along a bijection -/
theorem zs_bij {f : Nat → Nat} {B : Nat → Nat → Prop} (hi : ∀ a b b', B a b → B a b' → b = b') (hj : ∀ a a' b, B a b → B a' b → a = a') {m : Nat} : ∀ {n : Nat} {g : Nat → Nat}, (∀ i, i < n → f i ≠ 0 → ∃ j, j < m ∧ B i j ∧ g j = f i) → (∀ j, j < m → g j ≠ 0 → ∃ i, i < n ∧ B i j ∧ f i = g j) → zs f n = zs g m
  | 0, g, _, h2 => by
    refine (zs_zero fun j hj => ?_).symm
    by_cases c : g j = 0
    · exact c
    · obtain ⟨i, h, _⟩ := h2 j hj c
      omega
  | n + 1, g, h1, h2 => by
    show zs f n + f n = zs g m
    by_cases c : f n = 0
    · rw [c, Nat.add_zero]
      refine zs_bij hi hj (fun i h => h1 i (by omega)) fun j h h0 => ?_
      obtain ⟨i, e1, e2, e3⟩ := h2 j h h0
      refine ⟨i, ?_, e2, e3⟩
      by_cases d : i = n
      · rw [d, c] at e3; exact absurd e3.symm h0
      · omega
    · obtain ⟨j, g1, g2, g3⟩ := h1 n (by omega) c
      have e := zs_upd (f := g) (g := fun k => if k = j then 0 else g k) (a := j) (fun i h => if_neg h) (n := m) g1
      rw [if_pos rfl] at e
      have e2 : zs f n = zs (fun k => if k = j then 0 else g k) m := by
        refine zs_bij hi hj (fun i h h0 => ?_) fun k h h0 => ?_
        · obtain ⟨k, a1, a2, a3⟩ := h1 i (by omega) h0
          refine ⟨k, a1, a2, ?_⟩
          have : k ≠ j := fun q => by subst q; have := hj _ _ _ a2 g2; omega
          show (if k = j then 0 else g k) = f i
          rw [if_neg this]; exact a3
        · have hk : k ≠ j := fun q => h0 (by show (if k = j then 0 else g k) = 0; rw [if_pos q])
          have h0' : g k ≠ 0 := fun q => h0 (by show (if k = j then 0 else g k) = 0; rw [if_neg hk]; exact q)
          obtain ⟨i, a1, a2, a3⟩ := h2 k h h0'
          refine ⟨i, ?_, a2, ?_⟩
          · by_cases d : i = n
            · subst d; exact absurd (hi _ _ _ a2 g2) hk
            · omega
          · show f i = (if k = j then 0 else g k)
            rw [if_neg hk]; exact a3
      omega
def zN (i : Int32) : Nat := i.toBitVec.toNat
theorem zN_of (i : Int32) : Int32.ofNat (zN i) = i := Int32.toBitVec_inj.mp (by rw [Int32.toBitVec_ofNat', zN, BitVec.ofNat_toNat, BitVec.setWidth_eq])
theorem zN_nat {n : Nat} (h : n < 2 ^ 31) : zN (Int32.ofNat n) = n := by rw [zN, Int32.toBitVec_ofNat', BitVec.toNat_ofNat, Nat.mod_eq_of_lt (by omega)]
def zN8 (i : Int64) : Nat := i.toBitVec.toNat
theorem zN8_of (i : Int64) : Int64.ofNat (zN8 i) = i := Int64.toBitVec_inj.mp (by rw [Int64.toBitVec_ofNat', zN8, BitVec.ofNat_toNat, BitVec.setWidth_eq])
theorem zN8_nat {n : Nat} (h : n < 2 ^ 31) : zN8 (Int64.ofNat n) = n := by rw [zN8, Int64.toBitVec_ofNat', BitVec.toNat_ofNat, Nat.mod_eq_of_lt (by omega)]
/-- who is met, the list, its length -/
abbrev zS : Type := (Nat → Bool) × (Nat → Nat) × Nat
def zup (S : Nat → Bool) (t : Nat) : Nat → Bool := fun i => if i = t then true else S i
/-- a value is met: 0 is nothing, v + 1 is thing v -/
def zme (σ : zS) : Nat → zS
  | 0 => σ
  | v + 1 => if σ.1 v = true then σ else (zup σ.1 v, zset σ.2.1 σ.2.2 v, σ.2.2 + 1)
def zfo (g : Nat → Nat) : Nat → Nat → zS → zS
  | _, 0, σ => σ
  | k, n + 1, σ => zfo g (k + 1) n (zme σ (g k))
def zws (n : Nat) (W : Nat → Nat) (S : Nat → Bool) : Nat := zs (fun t => if S t = true then W t else 0) n
def zpw (W : Nat → Nat) (σ : zS) : Nat := zs (fun j => W (σ.2.1 j)) σ.2.2
def zSt (n : Nat) (P : Nat → Prop) (σ σ' : zS) : Prop :=
  (∀ t, σ.1 t = true → σ'.1 t = true) ∧ (∀ t, σ'.1 t = true → σ.1 t = true ∨ P t) ∧ σ.2.2 ≤ σ'.2.2 ∧ (∀ j, j < σ.2.2 → σ'.2.1 j = σ.2.1 j) ∧
  (∀ t, σ'.1 t = true → σ.1 t = true ∨ ∃ j, σ.2.2 ≤ j ∧ j < σ'.2.2 ∧ σ'.2.1 j = t) ∧ (∀ j, σ.2.2 ≤ j → j < σ'.2.2 → σ'.2.1 j < n ∧ P (σ'.2.1 j)) ∧
  ∀ W, zws n W σ'.1 + zpw W σ = zws n W σ.1 + zpw W σ'
section ZSR
variable {n : Nat} {P : Nat → Prop} {σ σ' σ'' : zS}
theorem zSt.rf : zSt n P σ σ := ⟨fun _ h => h, fun _ h => Or.inl h, Nat.le_refl _, fun _ _ => rfl, fun _ h => Or.inl h, fun j h1 h2 => by omega, fun _ => rfl⟩
theorem zSt.tr (h : zSt n P σ σ') (h' : zSt n P σ' σ'') : zSt n P σ σ'' := by
  obtain ⟨a1, a2, a3, a4, a5, a6, a7⟩ := h
  obtain ⟨b1, b2, b3, b4, b5, b6, b7⟩ := h'
  refine ⟨fun t h => b1 t (a1 t h), fun t h => ?_, Nat.le_trans a3 b3, fun j h => (b4 j (by omega)).trans (a4 j h), fun t h => ?_, fun j h1 h2 => ?_, fun W => ?_⟩
  · rcases b2 t h with h | h
    · exact a2 t h
    · exact Or.inr h
  · rcases b5 t h with h | ⟨j, h1, h2, h3⟩
    · rcases a5 t h with h | ⟨j, h1, h2, h3⟩
      · exact Or.inl h
      · exact Or.inr ⟨j, h1, by omega, (b4 j h2).trans h3⟩
    · exact Or.inr ⟨j, by omega, h2, h3⟩
  · by_cases c : j < σ'.2.2
    · rw [b4 j c]; exact a6 j h1 c
    · exact b6 j (by omega) h2
  · have := a7 W
    have := b7 W
    omega
theorem zme_in {v : Nat} : (zme σ (v + 1)).1 v = true := by
  show (if σ.1 v = true then σ else (zup σ.1 v, zset σ.2.1 σ.2.2 v, σ.2.2 + 1)).1 v = true
  by_cases c : σ.1 v = true
  · rw [if_pos c]; exact c
  · rw [if_neg c]; exact if_pos rfl
theorem zme_st {v : Nat} (hv : v < n) (hP : P v) : zSt n P σ (zme σ (v + 1)) := by
  show zSt n P σ (if σ.1 v = true then σ else (zup σ.1 v, zset σ.2.1 σ.2.2 v, σ.2.2 + 1))
  by_cases c : σ.1 v = true
  · rw [if_pos c]; exact zSt.rf
  · rw [if_neg c]
    have hS : ∀ t, zup σ.1 v t = true → σ.1 t = true ∨ t = v := fun t h => by
      by_cases d : t = v
      · exact Or.inr d
      · exact Or.inl (by unfold zup at h; rw [if_neg d] at h; exact h)
    refine ⟨fun t h => ?_, fun t h => ?_, Nat.le_succ _, fun j h => if_neg (by omega), fun t h => ?_, fun j h1 h2 => ?_, fun W => ?_⟩
    · show (if t = v then true else σ.1 t) = true
      by_cases d : t = v
      · rw [if_pos d]
      · rw [if_neg d]; exact h
    · rcases hS t h with h | h
      · exact Or.inl h
      · subst h; exact Or.inr hP
    · rcases hS t h with h | h
      · exact Or.inl h
      · exact Or.inr ⟨σ.2.2, Nat.le_refl _, Nat.lt_succ_self _, by subst h; exact if_pos rfl⟩
    · have hj : j = σ.2.2 := by
        have : j < σ.2.2 + 1 := h2
        omega
      have e : zset σ.2.1 σ.2.2 v j = v := if_pos hj
      show zset σ.2.1 σ.2.2 v j < n ∧ P (zset σ.2.1 σ.2.2 v j)
      rw [e]
      exact ⟨hv, hP⟩
    · have e1 := zs_upd (f := fun t => if σ.1 t = true then W t else 0) (g := fun t => if zup σ.1 v t = true then W t else 0) (a := v) (fun i h => by
        show (if zup σ.1 v i = true then W i else 0) = _
        unfold zup
        rw [if_neg h]) hv
      have e2 : (if zup σ.1 v v = true then W v else 0) = W v := if_pos (if_pos rfl)
      have e3 : (if σ.1 v = true then W v else 0) = 0 := if_neg c
      have e4 : zpw W (zup σ.1 v, zset σ.2.1 σ.2.2 v, σ.2.2 + 1) = zpw W σ + W v := by
        show zs (fun j => W (zset σ.2.1 σ.2.2 v j)) σ.2.2 + W (zset σ.2.1 σ.2.2 v σ.2.2) = _
        rw [show zset σ.2.1 σ.2.2 v σ.2.2 = v from if_pos rfl]
        refine congrArg (· + W v) (zs_congr fun i hi => ?_)
        rw [show zset σ.2.1 σ.2.2 v i = σ.2.1 i from if_neg (by omega)]
      have e1' : zws n W (zup σ.1 v) + (if σ.1 v = true then W v else 0) = zws n W σ.1 + (if zup σ.1 v v = true then W v else 0) := e1
      rw [e2, e3] at e1'
      show zws n W (zup σ.1 v) + zpw W σ = zws n W σ.1 + zpw W (zup σ.1 v, zset σ.2.1 σ.2.2 v, σ.2.2 + 1)
      omega
theorem zme_st' {v : Nat} (h : ∀ u, v = u + 1 → u < n ∧ P u) : zSt n P σ (zme σ v) := by
  cases v with
  | zero => exact zSt.rf
  | succ u => exact zme_st (h u rfl).1 (h u rfl).2
theorem zfo_st {g : Nat → Nat} : ∀ {m k : Nat} {σ : zS}, (∀ i, k ≤ i → i < k + m → ∀ u, g i = u + 1 → u < n ∧ P u) → zSt n P σ (zfo g k m σ) ∧ ∀ i u, k ≤ i → i < k + m → g i = u + 1 → (zfo g k m σ).1 u = true
  | 0, k, σ, _ => ⟨zSt.rf, fun i u h1 h2 => by omega⟩
  | m + 1, k, σ, h => by
    have ih := zfo_st (m := m) (k := k + 1) (σ := zme σ (g k)) (fun i h1 h2 => h i (by omega) (by omega))
    have h1 := zme_st' (σ := σ) (h k (Nat.le_refl k) (by omega))
    refine ⟨h1.tr ih.1, fun i u g1 g2 g3 => ?_⟩
    by_cases c : i = k
    · subst c
      refine ih.1.1 u ?_
      rw [g3]; exact zme_in
    · exact ih.2 i u (by omega) (by omega) g3
/-- the list is no longer than who is met -/
theorem zws_le {W : Nat → Nat} {S : Nat → Bool} : zws n W S ≤ zs W n := zs_le fun i _ => by
  show (if S i = true then W i else 0) ≤ W i
  by_cases c : S i = true
  · rw [if_pos c]; exact Nat.le_refl _
  · rw [if_neg c]; exact Nat.zero_le _
theorem zpw1 : zpw (fun _ => 1) σ = σ.2.2 := zs_one _
theorem zSt.cnt (h : zSt n P σ σ') : zws n (fun _ => 1) σ'.1 + σ.2.2 = zws n (fun _ => 1) σ.1 + σ'.2.2 := by
  have := h.2.2.2.2.2.2 (fun _ => 1)
  rw [zpw1, zpw1] at this
  exact this
theorem zme_cnt {v : Nat} (hv : v < n) (hc : σ.1 v ≠ true) : zws n (fun _ => 1) σ.1 < n := by
  have h := zme_st (n := n) (P := fun _ => True) (σ := σ) hv trivial
  have h1 := h.cnt
  have e : zme σ (v + 1) = (zup σ.1 v, zset σ.2.1 σ.2.2 v, σ.2.2 + 1) := if_neg hc
  rw [e] at h1
  have h2 : zws n (fun _ => 1) (zup σ.1 v) ≤ n := by
    have := zws_le (n := n) (W := fun _ => 1) (S := zup σ.1 v)
    rw [zs_one] at this
    exact this
  have h3 : zws n (fun _ => 1) (zup σ.1 v) + σ.2.2 = zws n (fun _ => 1) σ.1 + (σ.2.2 + 1) := h1
  omega
end ZSR
/-- who is reached: roots and what they have in turn -/
def zRc (Rt : Nat → Prop) (rf : Nat → Nat → Nat) (sz : Nat → Nat) (t : Nat) : Prop := ∀ P : Nat → Prop, (∀ t, Rt t → P t) → (∀ t, P t → ∀ k v, k < sz t → rf t k = v + 1 → P v) → P t
theorem zRc.rt {Rt : Nat → Prop} {rf : Nat → Nat → Nat} {sz : Nat → Nat} {t : Nat} (h : Rt t) : zRc Rt rf sz t := fun P h1 _ => h1 t h
theorem zRc.st {Rt : Nat → Prop} {rf : Nat → Nat → Nat} {sz : Nat → Nat} {t k v : Nat} (h : zRc Rt rf sz t) (hk : k < sz t) (e : rf t k = v + 1) : zRc Rt rf sz v := fun P h1 h2 => h2 t (h P h1 h2) k v hk e
/-- the end of a search -/
def zFi (n : Nat) (W : Nat → Nat) (Rt : Nat → Prop) (rf : Nat → Nat → Nat) (sz : Nat → Nat) (σ : zS) (all : Nat) : Prop :=
  (∀ t, Rt t → σ.1 t = true) ∧ (∀ t, σ.1 t = true → ∀ k v, k < sz t → rf t k = v + 1 → σ.1 v = true) ∧ (∀ t, σ.1 t = true → t < n ∧ zRc Rt rf sz t) ∧ all = zws n W σ.1
