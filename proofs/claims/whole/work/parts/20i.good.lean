/-! ===== the class's judge: all of it ===== -/
def zla (μ : zMu) : Nat → Nat := fun k => if k < uNa μ then uKd μ k else 0
section ZGD
variable {N w b K nm p q n : Nat} {F ρ α π : Nat → Nat} {C C' : zC} {M : zM} {r : zv_X} {ra : Nat → Nat} {μs : Nat → zMu} {μ : zMu} {σ σ' σ0 : zTau} {wt wt' wt0 : Nat → Bool} {st : List Nat} {l : Nat → Nat} {E : zEn} {m : Nat}
theorem zloc.ab (h : zloc E m μ σ p st l) (hA : zAb σ σ') : zloc E m μ σ' p st l := by
  obtain ⟨a1, a2, a3, a4, ⟨st', l', a5, a6, a7⟩, a8⟩ := h
  exact ⟨a1, a2, a3, a4, ⟨st', l', a5, fun j => (a6 j).ab hA, fun j => (a7 j).ab hA⟩, fun j h1 h2 h3 => ⟨(a8 j h1 h2 h3).1, (a8 j h1 h2 h3).2.ab hA⟩⟩
theorem zpk_eq {l' : Nat → Nat} : ∀ {n : Nat}, (∀ k, k < n → l' k = l k) → zpk l' n = zpk l n
  | 0, _ => rfl
  | n + 1, h => by
    show zpk l' n + l' n * 4 ^ n = zpk l n + l n * 4 ^ n
    rw [zpk_eq (fun k hk => h k (by omega)), h n (by omega)]
theorem zpk_l0 : ∀ (c : Nat), zpk (zla μ) (uNa μ + c) = zpk (uKd μ) (uNa μ)
  | 0 => zpk_eq fun k hk => if_pos hk
  | c + 1 => by
    show zpk (zla μ) (uNa μ + c) + zla μ (uNa μ + c) * 4 ^ (uNa μ + c) = _
    rw [zpk_l0 c, show zla μ (uNa μ + c) = 0 from if_neg (by omega), Nat.zero_mul, Nat.add_zero]
theorem zl0_k (hK : zMuOk K μ) : zk16 (zla μ) := by
  have h4 := hK.2.2.2.2.2.1
  have h := hK.2.2.2.2.2.2.1
  refine ⟨fun k => ?_, fun k hk => if_neg (by omega)⟩
  show (if k < uNa μ then uKd μ k else 0) ≤ 3
  split
  · next c => exact (h k c).2
  · omega
theorem zl0_16 (hK : zMuOk K μ) : zpk (zla μ) 16 = zpk (uKd μ) (uNa μ) := by
  have h4 := hK.2.2.2.2.2.1
  have := zpk_l0 (μ := μ) (16 - uNa μ)
  rwa [show uNa μ + (16 - uNa μ) = 16 by omega] at this
/-- a place is taken off what waits -/
def zwt0 (wt : Nat → Bool) (q : Nat) : Nat → Bool := fun p => if p = q then false else wt p
theorem zJc.pop (h : zJc C σ wt (n + 1)) : ∃ p, C.1 12 n = Int32.ofNat p ∧ p < 200 ∧ wt p = true ∧ (σ p).isSome = true ∧ zJc (zI (zI C 9 7 (Int32.ofNat n)) 11 p 0) σ (zwt0 wt p) n := by
  obtain ⟨a1, a2, a3, a4, a5, a6, a7, a8⟩ := h
  obtain ⟨p, b1, b2, b3⟩ := a5 n (by omega)
  refine ⟨p, b1, b2, b3, (a8 p b3).2, rfl, ?_, fun i hi => ?_, fun i hi => ?_, fun i hi => ?_, fun i j hi hj => ?_, fun i st l e => ?_, fun i hi => ?_⟩
  · have u := zs_upd (f := fun p => if wt p = true then 1 else 0) (g := fun i => if zwt0 wt p i = true then 1 else 0) (a := p) (n := 200) (fun i hi => by
      show (if (if i = p then false else wt i) = true then 1 else 0) = _
      rw [if_neg hi]) b2
    have u1 : (if zwt0 wt p p = true then 1 else 0) = 0 := by
      show (if (if p = p then false else wt p) = true then 1 else 0) = 0
      rw [if_pos rfl]
      rfl
    simp only [u1, b3, if_true] at u
    omega
  · rw [zI1, if_neg (by omega), zI1, if_neg (by omega)]
    exact a3 i hi
  · rw [zI1]
    show _ = if (if i = p then false else wt i) = true then 1 else 0
    by_cases c : i = p
    · rw [if_pos ⟨rfl, c⟩, if_pos c]; rfl
    · rw [if_neg (fun e => c e.2), zI1, if_neg (by omega), if_neg c]
      exact a4 i hi
  · rw [zI1, if_neg (by omega), zI1, if_neg (by omega)]
    obtain ⟨p2, d1, d2, d3⟩ := a5 i (by omega)
    refine ⟨p2, d1, d2, ?_⟩
    show (if p2 = p then false else wt p2) = true
    rw [if_neg (fun e => a6 i n hi (by omega) (by rw [d1, b1, e]))]
    exact d3
  · rw [zI1, if_neg (by omega), zI1, if_neg (by omega), zI1, if_neg (by omega), zI1, if_neg (by omega)]
    exact a6 i j hi (by omega)
  · rw [zI1, if_neg (by omega), zI1, if_neg (by omega), zI1, if_neg (by omega), zI1, if_neg (by omega)]
    exact a7 i st l e
  · have hi' : (if i = p then false else wt i) = true := hi
    by_cases c : i = p
    · rw [if_pos c] at hi'; cases hi'
    · rw [if_neg c] at hi'
      exact a8 i hi'
theorem zJc.none (h : zJc C σ wt 0) : wt p = false := by
  cases e : wt p with
  | false => rfl
  | true =>
    have h1 := (h.2.2.2.2.2.2.2 p e).1
    have := zs_lt (f := fun _ => 0) (g := fun p => if wt p = true then 1 else 0) (a := p) (n := 200) (fun i _ => Nat.zero_le _) h1 (by rw [if_pos e]; exact Nat.zero_lt_one)
    rw [← h.2.1] at this
    omega
/-- what holds while places wait -/
def zLv (E : zEn) (m : Nat) (μ : zMu) (σ : zTau) (wt : Nat → Bool) : Prop := (∃ l, σ 0 = some ([], l) ∧ zLe l (zla μ)) ∧ (∀ p st l, σ p = some (st, l) → wt p = true ∨ zloc E m μ σ p st l) ∧ ∀ τ, zgood E m μ τ → zAb σ τ
theorem zLv.good (h : zLv E m μ σ wt) (hl : 0 < uLen μ) (hw : ∀ p, wt p = false) : zgood E m μ σ := by
  obtain ⟨⟨l, e1, e2⟩, h2, h3⟩ := h
  refine ⟨⟨l, e1, fun k hk => ?_⟩, hl, fun p st l e => ?_⟩
  · rcases e2 k hk with e | e
    · exact Or.inl e
    · have e' : l k = if k < uNa μ then uKd μ k else 0 := e
      by_cases c : k < uNa μ
      · rw [if_pos c] at e'; exact Or.inr ⟨c, e'⟩
      · rw [if_neg c] at e'; exact Or.inl e'
  · rcases h2 p st l e with f | f
    · rw [hw p] at f; cases f
    · exact f
theorem zd_visits (hN : 9 ≤ N) (hl : 0 < uLen (μs nm)) : ∀ (c fuel v : Nat) (C : zC) (σ : zTau) (wt : Nat → Bool) (n : Nat), v + c = 3400 → c < fuel → zEv b K F ρ α π r C M nm ra μs → C.1 9 9 = 1 → zOs (uLen (μs nm)) (uSk (μs nm)) σ → zJc C σ wt n → v + n + zwt σ ≤ 3400 → zLv (K, F, ρ, μs) nm (μs nm) σ wt →
    ∃ (C' : zC) (g : Int32), (∀ M0 : zM, mX3_findsGood_56 N fuel (b + 9) (Int32.ofNat v) (zc w b C M0 r) = some (zc w b C' M0 r, g)) ∧ zF14 C C' ∧ (g = 1 ∧ (∃ τ, zgood (K, F, ρ, μs) nm (μs nm) τ) ∨ g = 0 ∧ ∀ τ, ¬ zgood (K, F, ρ, μs) nm (μs nm) τ) := by
  intro c
  induction c with
  | zero =>
    intro fuel v C σ wt n hv hf hE h1 hO hJ hm hL
    obtain ⟨fuel, rfl⟩ : ∃ g, fuel = g + 1 := ⟨fuel - 1, by omega⟩
    have hn : n = 0 := by omega
    subst hn
    refine ⟨C, 1, fun M0 => ?_, zF14.rf, Or.inl ⟨rfl, σ, hL.good hl fun p => hJ.none⟩⟩
    unfold mX3_findsGood_56 mX3_findsGood_115
    rw [if_pos (by rw [show (3400 : Int32) = Int32.ofNat 3400 from rfl, zi_le (by omega) (by omega)]; omega), zqg_9_9, Option.bind_some, h1, if_pos (Or.inr rfl)]
  | succ c ih =>
    intro fuel v C σ wt n hv hf hE h1 hO hJ hm hL
    obtain ⟨fuel, rfl⟩ : ∃ g, fuel = g + 1 := ⟨fuel - 1, by omega⟩
    have hlt : ¬ (3400 : Int32) ≤ Int32.ofNat v := by rw [show (3400 : Int32) = Int32.ofNat 3400 from rfl, zi_le (by omega) (by omega)]; omega
    cases n with
    | zero =>
      refine ⟨C, 1, fun M0 => ?_, zF14.rf, Or.inl ⟨rfl, σ, hL.good hl fun p => hJ.none⟩⟩
      unfold mX3_findsGood_56 mX3_findsGood_115
      rw [if_neg hlt, zqg_9_9, Option.bind_some, h1, if_neg (by decide), zqg_9_7, Option.bind_some, hJ.1, if_pos (by decide), Option.bind_some, if_pos (Or.inr rfl)]
    | succ n =>
      obtain ⟨p, p1, p2, p3, p4, hJ2⟩ := hJ.pop
      have hn200 : n < 200 := by
        have e : zs (fun p => if wt p = true then 1 else 0) 200 ≤ zs (fun _ => 1) 200 := zs_le fun i _ => by split <;> omega
        rw [zs_one, ← hJ.2.1] at e
        omega
      obtain ⟨⟨st, l⟩, hp⟩ : ∃ v, σ p = some v := Option.isSome_iff_exists.mp p4
      have f1 : zF14 C (zI (zI C 9 7 (Int32.ofNat n)) 11 p 0) := ⟨fun o k e => by rw [zI1, if_neg (by omega), zI1, if_neg (by omega)], rfl⟩
      have hJs : zJs (μs nm) (zI (zI C 9 7 (Int32.ofNat n)) 11 p 0) (some σ) σ (zwt0 wt p) n := ⟨h1, hO, zwt0 wt p, n, hJ2, zWk.rf, Nat.le_refl _⟩
      obtain ⟨C3, t1, t2, t3⟩ := zd_look (N := N) (w := w) (hE.f14 f1) hN hJs hp
      have step : ∀ M0 : zM, mX3_findsGood_56 N (fuel + 1) (b + 9) (Int32.ofNat v) (zc w b C M0 r) = mX3_findsGood_56 N fuel (b + 9) (Int32.ofNat (v + 1)) (zc w b C3 M0 r) := fun M0 => by
        have et : mX3_look N (b + 9) (Int32.ofNat p) (zc w b (zI (zI C 9 7 (Int32.ofNat n)) 11 p 0) M0 r) = some (zc w b C3 M0 r) := t1 M0
        conv => lhs; unfold mX3_findsGood_56
        rw [if_neg hlt, zqg_9_9, Option.bind_some, h1, if_neg (by decide), zqg_9_7, Option.bind_some, hJ.1, if_neg (by rw [zi_l0, zi_le (by omega) (by omega)]; omega), Option.bind_some, zi_l1, zi_sub (by omega), show n + 1 - 1 = n from rfl, zqp_9_7, Option.bind_some, zqg_9_4, Option.bind_some, zqg_9_7, Option.bind_some, show (zI C 9 7 (Int32.ofNat n)).1 9 7 = Int32.ofNat n from rfl, zqa_12 hn200, Option.bind_some, show (zI C 9 7 (Int32.ofNat n)).1 12 n = Int32.ofNat p from p1, zqg_9_3, Option.bind_some, zqs_11 (Or.inl rfl) p2, Option.bind_some, if_pos zqk_9, et, Option.bind_some, zi_add]
      cases e : zlook (K, F, ρ, μs) nm (μs nm) p st l σ with
      | none =>
        rw [e] at t3
        have t3' : C3.1 9 9 = 0 := t3
        obtain ⟨fuel, rfl⟩ : ∃ g, fuel = g + 1 := ⟨fuel - 1, by omega⟩
        refine ⟨C3, 0, fun M0 => ?_, f1.tr t2, Or.inr ⟨rfl, fun τ hg => ?_⟩⟩
        · rw [step]
          unfold mX3_findsGood_56 mX3_findsGood_115
          by_cases c2 : (3400 : Int32) ≤ Int32.ofNat (v + 1)
          · rw [if_pos c2, zqg_9_9, Option.bind_some, t3', if_pos (Or.inl rfl)]
          · rw [if_neg c2, zqg_9_9, Option.bind_some, t3', if_pos rfl, Option.bind_some, if_pos (Or.inl rfl)]
        · obtain ⟨σ2, d1, d2⟩ := zlook_to hE.ok hp (hL.2.2 τ hg) hg
          rw [e] at d1
          cases d1
      | some σ2 =>
        rw [e] at t3
        obtain ⟨g1, g2, wt2, n2, g3, g4, g5⟩ := t3
        have hR3 : ∀ a, a ≤ nm → uRs (μs a) ≤ 3 := fun a ha => (hE.2.2.2.2 a ha).2.2.2.2.2.2.2.2.2.2.2
        obtain ⟨k1, k2, k3, k4⟩ := zlook_ok (E := (K, F, ρ, μs)) hE.ok hR3 hO hp e
        obtain ⟨C4, g, s1, s2, s3⟩ := ih fuel (v + 1) C3 σ2 wt2 n2 (by omega) (by omega) ((hE.f14 f1).f14 t2) g1 g2 g3 (by omega) (by
          refine ⟨?_, fun p' st' l' e' => ?_, fun τ hg => ?_⟩
          · obtain ⟨l1, a1, a2⟩ := hL.1
            obtain ⟨l2, b1, b2⟩ := k1 0 [] l1 a1
            exact ⟨l2, b1, b2.tr a2⟩
          · rcases g4.2 p' with f | f
            · by_cases cp : p' = p
              · subst cp
                rw [f, hp] at e'
                injection e' with e'
                injection e' with e1 e2
                subst e1; subst e2
                exact Or.inr k4
              · rw [f] at e'
                rcases hL.2.1 p' st' l' e' with h | h
                · refine Or.inl (g4.1 p' ?_)
                  show (if p' = p then false else wt p') = true
                  rw [if_neg cp]
                  exact h
                · exact Or.inr (h.ab k1)
            · exact Or.inl f
          · obtain ⟨σ3, d1, d2⟩ := zlook_to hE.ok hp (hL.2.2 τ hg) hg
            rw [e] at d1
            injection d1 with d1
            rw [d1]
            exact d2)
        exact ⟨C4, g, fun M0 => by rw [step]; exact s1 M0, (f1.tr t2).tr s2, s3⟩
theorem zd_clear (a : Nat) : ∀ (c fuel k : Nat) (C : zC), k + c = 200 → c < fuel → (∀ j, j < k → C.1 10 j = 0 ∧ C.1 11 j = 0) → ∃ C', (∀ M0 : zM, mX3_findsGood_17 N fuel (b + 9) a (Int32.ofNat k) (zc w b C M0 r) = (zm_I (zc w b C' M0 r) a 6 3).bind fun v1 => (mX3_lead N (b + 9) 0 0 v1 (zc w b C' M0 r)).bind fun o3 => mX3_findsGood_56 N N (b + 9) 0 o3) ∧ (∀ j, j < 200 → C'.1 10 j = 0 ∧ C'.1 11 j = 0) ∧ (∀ o j, ¬ (o = 10 ∨ o = 11) → C'.1 o j = C.1 o j) ∧ C'.2 = C.2
  | 0, fuel, k, C, hk, hf, h => by
    obtain ⟨fuel, rfl⟩ : ∃ g, fuel = g + 1 := ⟨fuel - 1, by omega⟩
    refine ⟨C, fun M0 => ?_, fun j hj => h j (by omega), fun _ _ _ => rfl, rfl⟩
    unfold mX3_findsGood_17
    rw [if_pos (by rw [show (200 : Int32) = Int32.ofNat 200 from rfl, zi_le (by omega) (by omega)]; omega)]
    simp only [zqk_9, if_true]
  | c + 1, fuel, k, C, hk, hf, h => by
    obtain ⟨fuel, rfl⟩ : ∃ g, fuel = g + 1 := ⟨fuel - 1, by omega⟩
    obtain ⟨C', t1, t2, t3, t4⟩ := zd_clear a c fuel (k + 1) (zI (zI C 10 k 0) 11 k 0) (by omega) (by omega) (fun j hj => by
      rw [zI1, if_neg (by omega), zI1, zI1, zI1]
      by_cases d : j = k
      · rw [if_pos ⟨rfl, d⟩, if_pos ⟨rfl, d⟩]; exact ⟨rfl, rfl⟩
      · rw [if_neg (fun e => d e.2), if_neg (fun e => d e.2), if_neg (by omega)]
        exact h j (by omega))
    refine ⟨C', fun M0 => ?_, t2, fun o j e => (t3 o j e).trans (by rw [zI1, if_neg (by omega), zI1, if_neg (by omega)]), t4⟩
    rw [← t1 M0]
    conv => lhs; unfold mX3_findsGood_17
    rw [if_neg (by rw [show (200 : Int32) = Int32.ofNat 200 from rfl, zi_le (by omega) (by omega)]; omega), zqg_9_2, Option.bind_some, zqs_10 (Or.inl rfl) (by omega), Option.bind_some, zqg_9_3, Option.bind_some, zqs_11 (Or.inl rfl) (by omega), Option.bind_some, zi_l1, zi_add]
/-- findsGood: good just where the kinds can hold together -/
theorem zd_finds (hE : zEv b K F ρ α π r (zV C 9 8 (.ref (ra nm))) M nm ra μs) (hN : 3402 ≤ N) : ∃ (C' : zC) (g : Int32), zHC w b (mX3_findsGood N (b + 9) (ra nm)) C r (fun x => (x, g)) C' r ∧ (∀ o k, ¬ (9 ≤ o ∧ o ≤ 14) → C'.1 o k = C.1 o k) ∧ C'.2 = (zV C 9 8 (.ref (ra nm))).2 ∧
    (g = 1 ∧ (∃ τ, zgood (K, F, ρ, μs) nm (μs nm) τ) ∨ g = 0 ∧ ∀ τ, ¬ zgood (K, F, ρ, μs) nm (μs nm) τ) := by
  obtain ⟨C1, c1, c2, c3, c4⟩ := zd_clear (N := N) (w := w) (b := b) (r := r) (ra nm) 200 N 0 (zI (zI (zV C 9 8 (.ref (ra nm))) 9 9 1) 9 7 0) (by omega) (by omega) (fun j hj => by omega)
  have f1 : ∀ o k, o < 9 → C1.1 o k = (zV C 9 8 (.ref (ra nm))).1 o k := fun o k h => by rw [c3 o k (by omega), zI1, if_neg (by omega), zI1, if_neg (by omega)]
  have hE1 : zEv b K F ρ α π r C1 M nm ra μs := hE.cong f1 (by rw [c4]; rfl)
  have g9 : C1.1 9 9 = 1 := by rw [c3 9 9 (by omega)]; rfl
  have hl0 := zl0_k hE.ok
  have hJ0 : zJc C1 (fun _ => none) (fun _ => false) 0 := by
    refine ⟨by rw [c3 9 7 (by omega)]; rfl, (zs_zero fun i _ => rfl).symm, fun p hp => (c2 p hp).1, fun p hp => (c2 p hp).2, fun i hi => by omega, fun i j _ hj => by omega, fun p st l e => (by cases e), fun p hp => by cases hp⟩
  have hJs : zJs (μs nm) C1 (some fun _ => none) (fun _ => none) (fun _ => false) 0 := ⟨g9, fun p st l e => (by cases e), fun _ => false, 0, hJ0, zWk.rf, Nat.le_refl _⟩
  obtain ⟨C2, t1, t2, t3⟩ := zd_lead (N := N) (w := w) (z := (0 : Nat)) (st := []) (l := zla (μs nm)) hE1 hJs (by omega) zkS.nil (Nat.zero_le _) hl0
  have fr : ∀ C' : zC, zF14 C2 C' → (∀ o k, ¬ (9 ≤ o ∧ o ≤ 14) → C'.1 o k = C.1 o k) ∧ C'.2 = (zV C 9 8 (.ref (ra nm))).2 := fun C' h => ⟨fun o k e => by
      rw [h.1 o k e, t2.1 o k (by omega) (by omega), c3 o k (by omega), zI1, if_neg (by omega), zI1, if_neg (by omega)]
      rfl, by rw [h.2, t2.2, c4]; rfl⟩
  have head : ∀ M0 : zM, mX3_findsGood N (b + 9) (ra nm) (zc w b C M0 r) = mX3_findsGood_56 N N (b + 9) 0 (zc w b C2 M0 r) := fun M0 => by
    have et : mX3_lead N (b + 9) 0 0 (Int32.ofNat (zpk (zla (μs nm)) 16)) (zc w b C1 M0 r) = some (zc w b C2 M0 r) := t1 M0
    unfold mX3_findsGood mX3_findsGood_0
    rw [zqp_9_8, Option.bind_some, zqp_9_9, Option.bind_some, zqp_9_7, Option.bind_some]
    refine (c1 M0).trans ?_
    rw [ze_f3 hE.R, Option.bind_some, ← zl0_16 hE.ok, et, Option.bind_some]
  by_cases hl : 0 < uLen (μs nm)
  · have e1 : zlead (uLen (μs nm)) ((0 : Nat) : Int) [] (zla (μs nm)) (fun _ => none) = some (zpu (fun _ => none) 0 ([], zla (μs nm))) := by
      unfold zlead
      rw [if_pos (by omega)]
      rfl
    rw [Option.bind_some, e1] at t3
    obtain ⟨a1, a2, wt, n, a3, a4, a5⟩ := t3
    have w0 : zwt (fun _ => none) = 3400 := by
      have : zs (fun _ => 17) 200 = 17 * 200 := by
        have := zs_mul (f := fun _ => 1) 17 200
        rw [zs_one] at this
        exact this
      exact this
    obtain ⟨C3, g, s1, s2, s3⟩ := zd_visits (N := N) (w := w) (b := b) (r := r) (M := M) (by omega) hl 3400 N 0 C2 _ wt n (by omega) (by omega) (hE1.fl t2) a1 a2 a3 (by omega) (by
      refine ⟨⟨zla (μs nm), zpu_at, zLe.rf⟩, fun p st l e => ?_, fun τ hg => ?_⟩
      · rcases a4.2 p with f | f
        · rw [f] at e; cases e
        · exact Or.inl f
      · intro p st l e
        by_cases c : p = 0
        · subst c
          rw [zpu_at] at e
          injection e with e
          injection e with e2 e3
          subst e2; subst e3
          obtain ⟨l1, b1, b2⟩ := hg.1
          refine ⟨l1, b1, fun k hk => ?_⟩
          rcases b2 k hk with d | ⟨d1, d2⟩
          · exact Or.inl d
          · right
            show l1 k = if k < uNa (μs nm) then uKd (μs nm) k else 0
            rw [if_pos d1]
            exact d2
        · rw [zpu_ne c] at e
          cases e)
    refine ⟨C3, g, fun M0 => ?_, (fr C3 s2).1, (fr C3 s2).2, s3⟩
    rw [head M0]
    exact s1 M0
  · have e1 : zlead (uLen (μs nm)) ((0 : Nat) : Int) [] (zla (μs nm)) (fun _ => none) = none := by
      unfold zlead
      rw [if_neg (by omega)]
    rw [Option.bind_some, e1] at t3
    have t3' : C2.1 9 9 = 0 := t3
    refine ⟨C2, 0, fun M0 => ?_, (fr C2 zF14.rf).1, (fr C2 zF14.rf).2, Or.inr ⟨rfl, fun τ hg => hl hg.2.1⟩⟩
    obtain ⟨g, rfl⟩ : ∃ g, N = g + 1 := ⟨N - 1, by omega⟩
    rw [head M0]
    unfold mX3_findsGood_56 mX3_findsGood_115
    rw [if_neg (by decide), zqg_9_9, Option.bind_some, t3', if_pos rfl, Option.bind_some, if_pos (Or.inl rfl)]
end ZGD
