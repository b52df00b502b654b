/-! ===== a look at one place, and what it leaves true ===== -/
section ZLK
variable {E : zEn} {m n s p : Nat} {μ : zMu} {σ σ' τ : zTau} {st st' : List Nat} {l l' : Nat → Nat} {q : Int}
theorem zheed_mono {op a b : Nat} {l2 : Nat → Nat} (h16 : uLo μ ≤ 16) (hL : zLe l' l) (h : zheed E m μ op a b st l' = some (st', l2)) : ∃ l3, zheed E m μ op a b st l = some (st', l3) ∧ zLe l2 l3 := by
  have rd : ∀ k, 0 < k → (if a < uLo μ ∧ l' a = k then some (st, l') else none) = some (st', l2) → ∃ l3, (if a < uLo μ ∧ l a = k then some (st, l) else none) = some (st', l3) ∧ zLe l2 l3 := fun k hk e => by
    by_cases c : a < uLo μ ∧ l' a = k
    · rw [if_pos c] at e
      injection e with e
      injection e with e1 e2
      rw [if_pos ⟨c.1, hL.at (by omega) hk c.2⟩, ← e1, ← e2]
      exact ⟨l, rfl, hL⟩
    · rw [if_neg c] at e; cases e
  have wr : ∀ k, (if a < uLo μ then some (st, zset l' a k) else none) = some (st', l2) → ∃ l3, (if a < uLo μ then some (st, zset l a k) else none) = some (st', l3) ∧ zLe l2 l3 := fun k e => by
    by_cases c : a < uLo μ
    · rw [if_pos c] at e
      injection e with e
      injection e with e1 e2
      rw [if_pos c, ← e1, ← e2]
      exact ⟨_, rfl, hL.set a k⟩
    · rw [if_neg c] at e; cases e
  have pl : ∀ (P : Prop) [Decidable P] (s2 : List Nat), (if P then some (s2, l') else none) = some (st', l2) → ∃ l3, (if P then some (s2, l) else none) = some (st', l3) ∧ zLe l2 l3 := fun P _ s2 e => by
    by_cases c : P
    · rw [if_pos c] at e
      injection e with e
      injection e with e1 e2
      rw [if_pos c, ← e1, ← e2]
      exact ⟨_, rfl, hL⟩
    · rw [if_neg c] at e; cases e
  have mp : ∀ (P : Prop) [Decidable P] (o : Option (List Nat)) (g : List Nat → List Nat), (if P then o.map fun s => (g s, l') else none) = some (st', l2) → ∃ l3, (if P then o.map fun s => (g s, l) else none) = some (st', l3) ∧ zLe l2 l3 := fun P _ o g e => by
    by_cases c : P
    · rw [if_pos c] at e
      cases o with
      | none => cases e
      | some v =>
        injection e with e
        injection e with e1 e2
        rw [if_pos c, ← e1, ← e2]
        exact ⟨_, rfl, hL⟩
    · rw [if_neg c] at e; cases e
  unfold zheed at h ⊢
  split at h
  · exact rd 1 (by decide) h
  · exact rd 2 (by decide) h
  · exact rd 3 (by decide) h
  · exact wr 1 h
  · exact wr 2 h
  · exact wr 3 h
  · exact rd 1 (by decide) h
  · cases st with
    | nil => cases h
    | cons k s1 => exact pl _ _ h
  · cases st with
    | nil => cases h
    | cons k s1 => exact pl _ _ h
  · cases st with
    | nil => cases h
    | cons k s1 =>
      cases s1 with
      | nil => cases h
      | cons j s2 => exact pl _ _ h
  · exact pl _ _ h
  · exact pl _ _ h
  · exact pl _ _ h
  · exact pl _ _ h
  · exact pl _ _ h
  · exact mp _ _ (fun s => s) h
  · exact mp _ _ (fun s => if uRs (E.2.2.2 a) = 0 then s else uRs (E.2.2.2 a) :: s) h
  · exact pl _ _ h
  · exact pl _ _ h
  · exact pl _ _ h
  · exact pl _ _ h
  · injection h with h
    injection h with e1 e2
    rw [← e1, ← e2]
    exact ⟨_, rfl, hL⟩
theorem ztr_mono {op a b : Nat} {l2 : Nat → Nat} (h16 : uLo μ ≤ 16) (hL : zLe l' l) (h : ztr E m μ op a b st l' = some (st', l2)) : ∃ l3, ztr E m μ op a b st l = some (st', l3) ∧ zLe l2 l3 := by
  unfold ztr at h ⊢
  cases e1 : zpop (zsh op).2.1 st with
  | none => rw [e1] at h; cases h
  | some s1 =>
    rw [e1, Option.bind_some] at h
    rw [Option.bind_some]
    cases e2 : zheed E m μ op a b s1 l' with
    | none => rw [e2] at h; cases h
    | some v =>
      obtain ⟨l3, e3, e4⟩ := zheed_mono (l := l) (st' := v.1) (l2 := v.2) h16 hL e2
      rw [e2, Option.bind_some] at h
      rw [e3, Option.bind_some]
      by_cases c : ((zsh op).2.2 ++ v.1).length ≤ uSk μ
      · rw [if_pos c] at h
        injection h with h
        injection h with h1 h2
        rw [if_pos c, h1]
        exact ⟨l3, rfl, h2 ▸ e4⟩
      · rw [if_neg c] at h; cases h
theorem zpop_k : ∀ {ks st : List Nat}, zkS st → zpop ks st = some st' → zkS st' ∧ st'.length ≤ st.length
  | [], st, h, e => by
    injection e with e
    subst e
    exact ⟨h, Nat.le_refl _⟩
  | k :: ks, [], h, e => by cases e
  | k :: ks, s :: st, h, e => by
    have e' : (if s = k then zpop ks st else none) = some st' := e
    by_cases c : s = k
    · rw [if_pos c] at e'
      have := zpop_k (ks := ks) (st := st) (fun j hj => h j (List.mem_cons_of_mem s hj)) e'
      exact ⟨this.1, Nat.le_succ_of_le this.2⟩
    · rw [if_neg c] at e'; cases e'
theorem zkS.cons {k : Nat} (h : zkS st) (h1 : 1 ≤ k) (h3 : k ≤ 3) : zkS (k :: st) := fun j hj => by
  rcases List.mem_cons.mp hj with e | e
  · subst e; exact ⟨h1, h3⟩
  · exact h j e
theorem zkS.tl {k : Nat} (h : zkS (k :: st)) : zkS st := fun j hj => h j (List.mem_cons_of_mem k hj)
theorem zkS.hd {k : Nat} (h : zkS (k :: st)) : 1 ≤ k ∧ k ≤ 3 := h k (List.mem_cons_self)
theorem zk16.set {a k : Nat} (h : zk16 l) (ha : a < 16) (hk : k ≤ 3) : zk16 (zset l a k) := by
  refine ⟨fun i => ?_, fun i hi => ?_⟩
  · show (if i = a then k else l i) ≤ 3
    have := h.1 i
    split <;> omega
  · show (if i = a then k else l i) = 0
    rw [if_neg (by omega)]
    exact h.2 i hi
theorem zheed_k {op a b : Nat} (h16 : uLo μ ≤ 16) (hR : ∀ a, a ≤ m → uRs (E.2.2.2 a) ≤ 3) (hS : zkS st) (hl : zk16 l) (h : zheed E m μ op a b st l = some (st', l')) : zkS st' ∧ zk16 l' := by
  have pl : ∀ (P : Prop) [Decidable P] (s2 : List Nat) (l2 : Nat → Nat), (P → zkS s2 ∧ zk16 l2) → (if P then some (s2, l2) else none) = some (st', l') → zkS st' ∧ zk16 l' := fun P _ s2 l2 hh e => by
    by_cases c : P
    · rw [if_pos c] at e
      injection e with e
      injection e with e1 e2
      rw [← e1, ← e2]
      exact hh c
    · rw [if_neg c] at e; cases e
  have mp : ∀ (P : Prop) [Decidable P] (o : Option (List Nat)) (g : List Nat → List Nat), (∀ s, P → o = some s → zkS (g s)) → (if P then o.map fun s => (g s, l) else none) = some (st', l') → zkS st' ∧ zk16 l' := fun P _ o g hh e => by
    by_cases c : P
    · rw [if_pos c] at e
      cases o with
      | none => cases e
      | some v =>
        injection e with e
        injection e with e1 e2
        rw [← e1, ← e2]
        exact ⟨hh v c rfl, hl⟩
    · rw [if_neg c] at e; cases e
  unfold zheed at h
  split at h
  · exact pl _ _ _ (fun _ => ⟨hS, hl⟩) h
  · exact pl _ _ _ (fun _ => ⟨hS, hl⟩) h
  · exact pl _ _ _ (fun _ => ⟨hS, hl⟩) h
  · exact pl _ _ _ (fun c => ⟨hS, hl.set (by omega) (by omega)⟩) h
  · exact pl _ _ _ (fun c => ⟨hS, hl.set (by omega) (by omega)⟩) h
  · exact pl _ _ _ (fun c => ⟨hS, hl.set (by omega) (by omega)⟩) h
  · exact pl _ _ _ (fun _ => ⟨hS, hl⟩) h
  · cases st with
    | nil => cases h
    | cons k s1 => exact pl _ _ _ (fun _ => ⟨hS.tl, hl⟩) h
  · cases st with
    | nil => cases h
    | cons k s1 => exact pl _ _ _ (fun _ => ⟨hS.cons hS.hd.1 hS.hd.2, hl⟩) h
  · cases st with
    | nil => cases h
    | cons k s1 =>
      cases s1 with
      | nil => cases h
      | cons j s2 => exact pl _ _ _ (fun _ => ⟨(hS.tl.tl.cons hS.hd.1 hS.hd.2).cons hS.tl.hd.1 hS.tl.hd.2, hl⟩) h
  · exact pl _ _ _ (fun _ => ⟨hS, hl⟩) h
  · exact pl _ _ _ (fun _ => ⟨hS, hl⟩) h
  · exact pl _ _ _ (fun _ => ⟨hS, hl⟩) h
  · exact pl _ _ _ (fun _ => ⟨hS, hl⟩) h
  · refine pl _ _ _ (fun _ => ⟨hS.cons ?_ ?_, hl⟩) h
    · unfold zkf; split <;> omega
    · unfold zkf; split <;> omega
  · exact mp _ _ (fun s => s) (fun s _ e => (zpop_k hS e).1) h
  · refine mp _ _ (fun s => if uRs (E.2.2.2 a) = 0 then s else uRs (E.2.2.2 a) :: s) (fun s c e => ?_) h
    have := (zpop_k hS e).1
    by_cases z : uRs (E.2.2.2 a) = 0
    · rw [if_pos z]; exact this
    · rw [if_neg z]; exact this.cons (by omega) (hR a c)
  · exact pl _ _ _ (fun _ => ⟨hS, hl⟩) h
  · exact pl _ _ _ (fun _ => ⟨hS, hl⟩) h
  · exact pl _ _ _ (fun _ => ⟨hS, hl⟩) h
  · exact pl _ _ _ (fun _ => ⟨hS, hl⟩) h
  · injection h with h
    injection h with e1 e2
    rw [← e1, ← e2]
    exact ⟨hS, hl⟩
theorem zsh_k : ∀ op, op < 256 → (∀ k, k ∈ (zsh op).2.2 → 1 ≤ k ∧ k ≤ 3) := by decide +kernel
theorem ztr_k {op a b : Nat} (ho : op < 256) (h16 : uLo μ ≤ 16) (hR : ∀ a, a ≤ m → uRs (E.2.2.2 a) ≤ 3) (hS : zkS st) (hl : zk16 l) (h : ztr E m μ op a b st l = some (st', l')) : st'.length ≤ uSk μ ∧ zkS st' ∧ zk16 l' := by
  unfold ztr at h
  cases e1 : zpop (zsh op).2.1 st with
  | none => rw [e1] at h; cases h
  | some s1 =>
    rw [e1, Option.bind_some] at h
    cases e2 : zheed E m μ op a b s1 l with
    | none => rw [e2] at h; cases h
    | some v =>
      have h1 := zheed_k h16 hR (zpop_k hS e1).1 hl (show zheed E m μ op a b s1 l = some (v.1, v.2) from e2)
      rw [e2, Option.bind_some] at h
      by_cases c : ((zsh op).2.2 ++ v.1).length ≤ uSk μ
      · rw [if_pos c] at h
        injection h with h
        injection h with e3 e4
        subst e3; subst e4
        refine ⟨c, fun k hk => ?_, h1.2⟩
        rcases List.mem_append.mp hk with hk | hk
        · exact zsh_k op ho k hk
        · exact h1.1 k hk
      · rw [if_neg c] at h; cases h
theorem zhan_ok (hn : uLen μ ≤ 200) (hl : zk16 l) : ∀ {c j : Nat} {σ σ' : zTau}, zhan μ p l c j σ = some σ' → zOs (uLen μ) (uSk μ) σ → zAb σ σ' ∧ zOs (uLen μ) (uSk μ) σ' ∧ (σ' = σ ∨ zwt σ' < zwt σ) ∧ ∀ i, j ≤ i → i < j + c → uHs μ (4 * i) ≤ p → p < uHs μ (4 * i + 1) → 0 < uSk μ ∧ zflow σ' (uLen μ) (uHs μ (4 * i + 2) : Nat) [3] l
  | 0, j, σ, σ', h, hO => by
    injection h with h
    subst h
    exact ⟨zAb.rf, hO, Or.inl rfl, fun i h1 h2 => by omega⟩
  | c + 1, j, σ, σ', h, hO => by
    unfold zhan at h
    by_cases g : uHs μ (4 * j) ≤ p ∧ p < uHs μ (4 * j + 1)
    · rw [if_pos g] at h
      by_cases z : 0 < uSk μ
      · rw [if_pos z] at h
        cases e : zlead (uLen μ) (uHs μ (4 * j + 2) : Nat) [3] l σ with
        | none => rw [e] at h; cases h
        | some σ1 =>
          rw [e, Option.bind_some] at h
          have k1 := zlead_ok e
          have k2 := zlead_os e hO (show [3].length ≤ uSk μ from z) (fun k hk => by rw [List.mem_singleton.mp hk]; omega) hl
          have k3 := zlead_wt e hO hn hl
          obtain ⟨i1, i2, i3, i4⟩ := zhan_ok hn hl h k2
          refine ⟨k1.1.tr i1, i2, ?_, fun i h1 h2 h3 h4 => ?_⟩
          · rcases i3 with i3 | i3
            · rw [i3]; exact k3
            · rcases k3 with k3 | k3
              · rw [k3] at i3; exact Or.inr i3
              · exact Or.inr (Nat.lt_trans i3 k3)
          · by_cases c : i = j
            · subst c
              exact ⟨z, k1.2.ab i1⟩
            · exact i4 i (by omega) (by omega) h3 h4
      · rw [if_neg z] at h; cases h
    · rw [if_neg g, Option.bind_some] at h
      obtain ⟨i1, i2, i3, i4⟩ := zhan_ok hn hl h hO
      refine ⟨i1, i2, i3, fun i h1 h2 h3 h4 => ?_⟩
      by_cases c : i = j
      · subst c
        exact absurd ⟨h3, h4⟩ g
      · exact i4 i (by omega) (by omega) h3 h4
theorem zhan_to : ∀ {c j : Nat} {σ : zTau}, zAb σ τ → (∀ i, j ≤ i → i < j + c → uHs μ (4 * i) ≤ p → p < uHs μ (4 * i + 1) → 0 < uSk μ ∧ zflow τ (uLen μ) (uHs μ (4 * i + 2) : Nat) [3] l) → ∃ σ', zhan μ p l c j σ = some σ' ∧ zAb σ' τ
  | 0, j, σ, h, _ => ⟨σ, rfl, h⟩
  | c + 1, j, σ, h, hf => by
    unfold zhan
    by_cases g : uHs μ (4 * j) ≤ p ∧ p < uHs μ (4 * j + 1)
    · obtain ⟨z, f1⟩ := hf j (Nat.le_refl j) (by omega) g.1 g.2
      obtain ⟨σ1, e1, e2⟩ := zlead_to h f1
      rw [if_pos g, if_pos z, e1, Option.bind_some]
      exact zhan_to e2 fun i h1 h2 => hf i (by omega) (by omega)
    · rw [if_neg g, Option.bind_some]
      exact zhan_to h fun i h1 h2 => hf i (by omega) (by omega)
theorem zlook_ok {K : Nat} (hK : zMuOk K μ) (hR : ∀ a, a ≤ m → uRs (E.2.2.2 a) ≤ 3) (hO : zOs (uLen μ) (uSk μ) σ) (hp : σ p = some (st, l)) (h : zlook E m μ p st l σ = some σ') : zAb σ σ' ∧ zOs (uLen μ) (uSk μ) σ' ∧ (σ' = σ ∨ zwt σ' < zwt σ) ∧ zloc E m μ σ' p st l := by
  obtain ⟨p1, p2, p3, p4⟩ := hO p st l hp
  have hn := hK.1
  have h16 : uLo μ ≤ 16 := hK.2.2.2.2.2.2.2.2.1
  unfold zlook at h
  by_cases c : 0 < (zsh (uC μ p)).1 ∧ p + (zsh (uC μ p)).1 ≤ uLen μ
  · rw [if_pos c] at h
    cases e1 : zhan μ p l (uH μ) 0 σ with
    | none => rw [e1] at h; cases h
    | some σ1 =>
      rw [e1, Option.bind_some] at h
      obtain ⟨a1, a2, a3, a4⟩ := zhan_ok hn p4 e1 hO
      cases e2 : ztr E m μ (uC μ p) (uC μ (p + 1)) (uC μ (p + 2)) st l with
      | none => rw [e2] at h; cases h
      | some v =>
        rw [e2, Option.bind_some] at h
        obtain ⟨b1, b2, b3⟩ := ztr_k (hK.2.1 p p1) h16 hR p3 p4 (show _ = some (v.1, v.2) from e2)
        unfold zout at h
        have step : ∀ {σ1 σ2 : zTau} {q : Int} (P : Prop) [Decidable P], (if P then zlead (uLen μ) q v.1 v.2 σ1 else some σ1) = some σ2 → zOs (uLen μ) (uSk μ) σ1 → zAb σ1 σ2 ∧ zOs (uLen μ) (uSk μ) σ2 ∧ (σ2 = σ1 ∨ zwt σ2 < zwt σ1) ∧ (P → zflow σ2 (uLen μ) q v.1 v.2) := fun {σ1 σ2 q} P _ e hO1 => by
          by_cases d : P
          · rw [if_pos d] at e
            have k1 := zlead_ok e
            exact ⟨k1.1, zlead_os e hO1 b1 b2 b3, zlead_wt e hO1 hn b3, fun _ => k1.2⟩
          · rw [if_neg d] at e
            injection e with e
            subst e
            exact ⟨zAb.rf, hO1, Or.inl rfl, fun hd => absurd hd d⟩
        cases e3 : (if 153 ≤ uC μ p ∧ uC μ p ≤ 167 ∨ uC μ p = 198 ∨ uC μ p = 199 then zlead (uLen μ) (zto p (uC μ (p + 1)) (uC μ (p + 2))) v.1 v.2 σ1 else some σ1) with
        | none => rw [e3] at h; cases h
        | some σ2 =>
          rw [e3, Option.bind_some] at h
          obtain ⟨c1, c2, c3, c4⟩ := step _ e3 a2
          obtain ⟨d1, d2, d3, d4⟩ := step _ h c2
          have tr : ∀ {x y z : zTau}, (y = x ∨ zwt y < zwt x) → (z = y ∨ zwt z < zwt y) → (z = x ∨ zwt z < zwt x) := fun {x y z} h1 h2 => by
            rcases h2 with h2 | h2
            · rw [h2]; exact h1
            · rcases h1 with h1 | h1
              · rw [h1] at h2; exact Or.inr h2
              · exact Or.inr (Nat.lt_trans h2 h1)
          refine ⟨(a1.tr c1).tr d1, d2, tr (tr a3 c3) d3, p1, p2, c.1, c.2, ⟨v.1, v.2, e2, fun j => (c4 j).ab d1, d4⟩, fun j hj h1 h2 => ?_⟩
          obtain ⟨f1, f2⟩ := a4 j (Nat.zero_le j) (by omega) h1 h2
          exact ⟨f1, f2.ab (c1.tr d1)⟩
  · rw [if_neg c] at h; cases h
theorem zlook_to {K : Nat} (hK : zMuOk K μ) (hp : σ p = some (st, l)) (hA : zAb σ τ) (hg : zgood E m μ τ) : ∃ σ', zlook E m μ p st l σ = some σ' ∧ zAb σ' τ := by
  have h16 : uLo μ ≤ 16 := hK.2.2.2.2.2.2.2.2.1
  obtain ⟨l0, e0, hL⟩ := hA p st l hp
  obtain ⟨g1, g2, g3, g4, ⟨st', l', g5, g6, g7⟩, g8⟩ := hg.2.2 p st l0 e0
  unfold zlook
  rw [if_pos ⟨g3, g4⟩]
  obtain ⟨σ1, e1, A1⟩ := zhan_to (l := l) (c := uH μ) (j := 0) (p := p) (μ := μ) hA (fun i _ h2 h3 h4 => by
    obtain ⟨f1, f2⟩ := g8 i (by omega) h3 h4
    exact ⟨f1, f2.le hL⟩)
  rw [e1, Option.bind_some]
  obtain ⟨l3, e3, hL3⟩ := ztr_mono h16 hL g5
  rw [e3, Option.bind_some]
  unfold zout
  have step : ∀ {σ1 : zTau} {q : Int} (P : Prop) [Decidable P], (P → zflow τ (uLen μ) q st' l') → zAb σ1 τ → ∃ σ2, (if P then zlead (uLen μ) q st' l3 σ1 else some σ1) = some σ2 ∧ zAb σ2 τ := fun {σ1 q} P _ hf hA1 => by
    by_cases d : P
    · rw [if_pos d]
      exact zlead_to hA1 ((hf d).le hL3)
    · rw [if_neg d]
      exact ⟨σ1, rfl, hA1⟩
  obtain ⟨σ2, e4, A2⟩ := step (153 ≤ uC μ p ∧ uC μ p ≤ 167 ∨ uC μ p = 198 ∨ uC μ p = 199) g6 A1
  rw [e4, Option.bind_some]
  exact step _ g7 A2
end ZLK
