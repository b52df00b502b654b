/-! ===== method: class and reference ===== -/
section ZGX
variable {K K' m : Nat} {F F' ρ ρ' : Nat → Nat} {μs μs' : Nat → zMu} {μ : zMu} {τ : zTau} {st : List Nat} {l : Nat → Nat} {q : List Nat × (Nat → Nat)}
/-- more types and more methods do no harm -/
theorem zheed_ext {op a b : Nat} (hK : K ≤ K') (hF : ∀ a, a < K → F' a = F a ∧ ρ' a = ρ a) (hμ : ∀ a, a ≤ m → μs' a = μs a) (h : zheed (K, F, ρ, μs) m μ op a b st l = some q) : zheed (K', F', ρ', μs') m μ op a b st l = some q := by
  have pl : ∀ (P P' : Prop) [Decidable P] [Decidable P'] (s : List Nat × (Nat → Nat)), (P → P') → (if P then some s else none) = some q → (if P' then some s else none) = some q := fun P P' _ _ s hp e => by
    by_cases c : P
    · rw [if_pos c] at e; rw [if_pos (hp c)]; exact e
    · rw [if_neg c] at e; cases e
  by_cases c180 : op = 180
  · subst c180
    have h' : (if a < K ∧ b < F a then some (zkf ρ a b :: st, l) else none) = some q := h
    show (if a < K' ∧ b < F' a then some (zkf ρ' a b :: st, l) else none) = some q
    by_cases c : a < K ∧ b < F a
    · rw [if_pos c] at h'
      rw [if_pos ⟨by omega, by rw [(hF a c.1).1]; exact c.2⟩, ← h']
      unfold zkf
      rw [(hF a c.1).2]
    · rw [if_neg c] at h'; cases h'
  by_cases c181 : op = 181
  · subst c181
    have h' : (if a < K ∧ b < F a then (zpop [zkf ρ a b, 3] st).map fun st => (st, l) else none) = some q := h
    show (if a < K' ∧ b < F' a then (zpop [zkf ρ' a b, 3] st).map fun st => (st, l) else none) = some q
    by_cases c : a < K ∧ b < F a
    · rw [if_pos c] at h'
      rw [if_pos ⟨by omega, by rw [(hF a c.1).1]; exact c.2⟩, ← h']
      unfold zkf
      rw [(hF a c.1).2]
    · rw [if_neg c] at h'; cases h'
  by_cases c184 : op = 184
  · subst c184
    have h' : (if a ≤ m then (zpop (zargs (uKd (μs a)) (uNa (μs a))) st).map fun st => (if uRs (μs a) = 0 then st else uRs (μs a) :: st, l) else none) = some q := h
    show (if a ≤ m then (zpop (zargs (uKd (μs' a)) (uNa (μs' a))) st).map fun st => (if uRs (μs' a) = 0 then st else uRs (μs' a) :: st, l) else none) = some q
    by_cases c : a ≤ m
    · rw [if_pos c] at h' ⊢
      rw [hμ a c]
      exact h'
    · rw [if_neg c] at h'; cases h'
  by_cases c187 : op = 187
  · subst c187
    exact pl (a < K) (a < K') (st, l) (fun e => by omega) h
  by_cases c192 : op = 192
  · subst c192
    exact pl (a < K) (a < K') (st, l) (fun e => by omega) h
  by_cases c193 : op = 193
  · subst c193
    exact pl (a < K) (a < K') (st, l) (fun e => by omega) h
  have e : zheed (K', F', ρ', μs') m μ op a b st l = zheed (K, F, ρ, μs) m μ op a b st l := by
    unfold zheed
    split <;> first | rfl | contradiction
  rw [e]
  exact h
theorem zgood.ext (hK : K ≤ K') (hF : ∀ a, a < K → F' a = F a ∧ ρ' a = ρ a) (hμ : ∀ a, a ≤ m → μs' a = μs a) (h : zgood (K, F, ρ, μs) m μ τ) : zgood (K', F', ρ', μs') m μ τ := by
  obtain ⟨h1, h2, h3⟩ := h
  refine ⟨h1, h2, fun p st l e => ?_⟩
  obtain ⟨a1, a2, a3, a4, ⟨st', l', a5, a6⟩, a7⟩ := h3 p st l e
  refine ⟨a1, a2, a3, a4, ⟨st', l', ?_, a6⟩, a7⟩
  unfold ztr at a5 ⊢
  cases e1 : zpop (zsh (uC μ p)).2.1 st with
  | none => rw [e1] at a5; cases a5
  | some s1 =>
    rw [e1, Option.bind_some] at a5
    rw [Option.bind_some]
    cases e2 : zheed (K, F, ρ, μs) m μ (uC μ p) (uC μ (p + 1)) (uC μ (p + 2)) s1 l with
    | none => rw [e2] at a5; cases a5
    | some v =>
      rw [zheed_ext hK hF hμ e2]
      rw [e2] at a5
      exact a5
end ZGX
section ZPM
variable {N w b K n h : Nat} {F ρ α π c hs : Nat → Nat} {C C' : zC} {M M' : zM} {r r' : zv_X} {Q : zQo}
theorem zMt.fr {m nm : Nat} {μ : zMu} (hM : zMt M m μ) (hK : zMuOk K μ) (hm : m < nm) (fr : ∀ o j, ¬ (o = 10 ∧ 32 * nm ≤ j) → ¬ (o = 17 ∧ 200 * nm ≤ j) → ¬ ((o = 11 ∨ o = 12 ∨ o = 14 ∨ o = 15 ∨ o = 16 ∨ o = 18) ∧ j = nm) → ¬ (o = 13 ∧ 4 * nm ≤ j) → o ≠ 100 → M'.1 o j = M.1 o j) : zMt M' m μ := by
  obtain ⟨a1, a2, a3, a4, a5, a6, a7, a8, a9⟩ := hM
  have k1 := hK.1
  have k2 := hK.2.2.1
  have k3 := hK.2.2.2.2.2.1
  refine ⟨(fr 18 m (by omega) (by omega) (by omega) (by omega) (by omega)).trans a1, fun i hi => (fr 17 _ (by omega) (by omega) (by omega) (by omega) (by omega)).trans (a2 i hi), (fr 11 m (by omega) (by omega) (by omega) (by omega) (by omega)).trans a3, fun i hi => (fr 10 _ (by omega) (by omega) (by omega) (by omega) (by omega)).trans (a4 i hi), (fr 12 m (by omega) (by omega) (by omega) (by omega) (by omega)).trans a5, fun i hi => (fr 13 _ (by omega) (by omega) (by omega) (by omega) (by omega)).trans (a6 i hi), (fr 14 m (by omega) (by omega) (by omega) (by omega) (by omega)).trans a7, (fr 15 m (by omega) (by omega) (by omega) (by omega) (by omega)).trans a8, (fr 16 m (by omega) (by omega) (by omega) (by omega) (by omega)).trans a9⟩
theorem zfit_b {c : Nat} (h : c < 256) : zm_fits 2 (Int8.ofNat c).toInt32 = true := by
  have : ∀ c, c < 256 → zm_fits 2 (Int8.ofNat c).toInt32 = true := by decide +kernel
  exact this c h
/-- the class makes the routine -/
theorem zd_made {n0 : Nat} {a2 a3 a4 : Int32} (hN : 5 < N) (hn0 : n0 < 256) (hD : zDr C M K n c h hs) (hr : zRr b r) : ∃ (r' : zv_X) (cf hf : Nat → Int32), (∀ M0 : zM, ((mX0_code N (b + 5) (zc w b C M0 (zv_nw r (.inr (6, zd_6)) 7))).bind fun o11 => (mX0_handlerRows N (b + 5) o11.1).bind fun o15 => mX6_init N r.2.1 o11.2 o15.2 (Int32.ofNat n0) a2 a3 a4 o15.1) = some (zc w b C M0 r')) ∧
    r'.1 r.2.1 = some (.inr (6, [.ref (r.2.1 + 1), .ref (r.2.1 + 2), .int (Int32.ofNat (zna n0)), .int (Int32.ofNat (zpk (zkd n0) (zna n0))), .int a2, .int a3, .int a4])) ∧ r'.1 (r.2.1 + 1) = some (.inl (2, n, .inl cf)) ∧ r'.1 (r.2.1 + 2) = some (.inl (0, 4 * h, .inl hf)) ∧ (∀ i, i < n → cf i = (Int8.ofNat (c i)).toInt32) ∧ (∀ i, i < 4 * h → hf i = Int32.ofNat (hs i)) ∧ zRk r r' ∧ zRr b r' ∧ (∀ q, q < r.2.1 → r'.1 q = r.1 q) ∧ r'.2.1 = r.2.1 + 3 ∧ r'.2.2.1 ≤ r.2.2.1 + 239 := by
  obtain ⟨d1, d2, d3, d4, d5, d6, d7, d8, d9⟩ := hD
  have hr0 := hr.1
  obtain ⟨cf, ec, hcf⟩ := zd_code (N := N) (w := w) (b := b) (C := C) (r := zv_nw r (.inr (6, zd_6)) 7) d1 d3 (fun i hi => by rw [(d4 i hi).2.1]; exact zfit_b (d4 i hi).1) (show b + 113 ≤ r.2.1 + 1 by omega)
  obtain ⟨hf, er, hhf⟩ := zd_rows (N := N) (w := w) (b := b) (C := C) (r := zv_nw (zv_nw r (.inr (6, zd_6)) 7) (.inl (2, n, .inl cf)) n) d5 d7 (show b + 113 ≤ r.2.1 + 1 + 1 by omega)
  have c0 : (zv_nw (zv_nw (zv_nw r (.inr (6, zd_6)) 7) (.inl (2, n, .inl cf)) n) (.inl (0, 4 * h, .inl hf)) (4 * h)).1 r.2.1 = some (.inr (6, zd_6)) := by
    rw [znw_ne (show r.2.1 ≠ r.2.1 + 1 + 1 by omega), znw_ne (show r.2.1 ≠ r.2.1 + 1 by omega), znw_at]
  have ei := fun M0 : zM => zd_routine (N := N) (w := w) (C := C) (M := M0) (n := n0) (a1 := r.2.1 + 1) (a2 := r.2.1 + 1 + 1) (lo := a2) (sk := a3) (rs := a4) hN hn0 hr0 c0
  have out : ∀ q, q < r.2.1 ∨ r.2.1 + 3 ≤ q → (zv_st (zv_nw (zv_nw (zv_nw r (.inr (6, zd_6)) 7) (.inl (2, n, .inl cf)) n) (.inl (0, 4 * h, .inl hf)) (4 * h)) r.2.1 (.inr (6, [.ref (r.2.1 + 1), .ref (r.2.1 + 1 + 1), .int (Int32.ofNat (zna n0)), .int (Int32.ofNat (zpk (zkd n0) (zna n0))), .int a2, .int a3, .int a4]))).1 q = r.1 q := fun q hq => by
    rw [zst_ne (by omega), znw_ne (show q ≠ r.2.1 + 1 + 1 by omega), znw_ne (show q ≠ r.2.1 + 1 by omega), znw_ne (by omega)]
  refine ⟨zv_st (zv_nw (zv_nw (zv_nw r (.inr (6, zd_6)) 7) (.inl (2, n, .inl cf)) n) (.inl (0, 4 * h, .inl hf)) (4 * h)) r.2.1 (.inr (6, [.ref (r.2.1 + 1), .ref (r.2.1 + 1 + 1), .int (Int32.ofNat (zna n0)), .int (Int32.ofNat (zpk (zkd n0) (zna n0))), .int a2, .int a3, .int a4])), cf, hf, fun M0 => ?_, zst_at, ?_, ?_, fun i hi => (hcf i hi).trans (d4 i hi).2.1, fun i hi => (hhf i hi).trans (d8 i hi).2.1, ⟨fun q e hq _ => ?_, rfl⟩, ⟨?_, hr.2.1, fun q hq => ?_⟩, fun q hq => out q (Or.inl hq), rfl, ?_⟩
  · rw [ec M0, Option.bind_some]
    show ((mX0_handlerRows N (b + 5) (zc w b C M0 (zv_nw (zv_nw r (.inr (6, zd_6)) 7) (.inl (2, n, .inl cf)) n))).bind fun o15 => mX6_init N r.2.1 (r.2.1 + 1) o15.2 (Int32.ofNat n0) a2 a3 a4 o15.1) = _
    rw [er M0, Option.bind_some]
    exact ei M0
  · rw [zst_ne (by omega), znw_ne (show r.2.1 + 1 ≠ r.2.1 + 1 + 1 by omega)]
    exact znw_at
  · rw [zst_ne (by omega)]
    exact znw_at
  · have : q < r.2.1 := Nat.lt_of_not_le fun c => by rw [hr.2.2 q c] at hq; cases hq
    rw [out q (Or.inl this)]
    exact hq
  · show b + 113 ≤ r.2.1 + 1 + 1 + 1
    omega
  · have hq' : r.2.1 + 1 + 1 + 1 ≤ q := hq
    rw [out q (Or.inr (by omega))]
    exact hr.2.2 q (by omega)
  · show r.2.2.1 + 7 + n + 4 * h ≤ r.2.2.1 + 239
    omega
theorem zLst.up {nm : Nat} {ra : Nat → Nat} (hL : zLst b C r nm ra) (hr : zRr b r) (h1 : C'.1 8 2 = C.1 8 2) (h2 : C'.2.2 8 1 = C.2.2 8 1) (h3 : r'.2.2.2 = r.2.2.2) (h4 : ∀ q, q < r.2.1 → r'.1 q = r.1 q) : zLst b C' r' nm ra := by
  obtain ⟨g1, a, g2, g3⟩ := hL
  refine ⟨h1.trans g1, a, h2.trans g2, ?_⟩
  rcases g3 with ⟨e0, e1, e2, e3⟩ | ⟨cap, g, e1, e2⟩
  · refine Or.inl ⟨e0, by rw [h3]; exact e1, ?_, e3⟩
    have hlt := hr.2.1
    rw [h4 a (by rw [e1]; have := hr.1; omega)]
    exact e2
  · have : a < r.2.1 := Nat.lt_of_not_le fun c => by rw [hr.2.2 a c] at e1; cases e1
    exact Or.inr ⟨cap, g, (h4 a this).trans e1, e2⟩
end ZPM
