/-! ===== judging: what is known of every place, and how it comes down ===== -/
def zk16 (l : Nat → Nat) : Prop := (∀ k, l k ≤ 3) ∧ ∀ k, 16 ≤ k → l k = 0
def zkS (st : List Nat) : Prop := ∀ k, k ∈ st → 1 ≤ k ∧ k ≤ 3
def zmt (l' l : Nat → Nat) : Nat → Nat := fun k => if l' k = l k then l' k else 0
def zpu (σ : zTau) (q : Nat) (v : List Nat × (Nat → Nat)) : zTau := fun p => if p = q then some v else σ p
def zAb (σ τ : zTau) : Prop := ∀ p st l, σ p = some (st, l) → ∃ l', τ p = some (st, l') ∧ zLe l' l
def zOs (n s : Nat) (σ : zTau) : Prop := ∀ p st l, σ p = some (st, l) → p < n ∧ st.length ≤ s ∧ zkS st ∧ zk16 l
def zcn (l : Nat → Nat) : Nat := zs (fun k => if l k = 0 then 0 else 1) 16
def zwp (σ : zTau) (p : Nat) : Nat := match σ p with
  | none => 17
  | some v => zcn v.2
def zwt (σ : zTau) : Nat := zs (zwp σ) 200
def zlead (n : Nat) (q : Int) (st : List Nat) (l : Nat → Nat) (σ : zTau) : Option zTau :=
  if 0 ≤ q ∧ q < (n : Int) then (match σ q.toNat with
    | none => some (zpu σ q.toNat (st, l))
    | some v => if v.1 = st then some (zpu σ q.toNat (v.1, zmt v.2 l)) else none) else none
def zhan (μ : zMu) (p : Nat) (l : Nat → Nat) : Nat → Nat → zTau → Option zTau
  | 0, _, σ => some σ
  | n + 1, j, σ => (if uHs μ (4 * j) ≤ p ∧ p < uHs μ (4 * j + 1) then (if 0 < uSk μ then zlead (uLen μ) (uHs μ (4 * j + 2) : Nat) [3] l σ else none) else some σ).bind (zhan μ p l n (j + 1))
def zout (μ : zMu) (p : Nat) (v : List Nat × (Nat → Nat)) (σ : zTau) : Option zTau :=
  (if 153 ≤ uC μ p ∧ uC μ p ≤ 167 ∨ uC μ p = 198 ∨ uC μ p = 199 then zlead (uLen μ) (zto p (uC μ (p + 1)) (uC μ (p + 2))) v.1 v.2 σ else some σ).bind fun σ2 =>
    if uC μ p < 167 ∨ 177 < uC μ p ∧ uC μ p ≠ 191 then zlead (uLen μ) (p + (zsh (uC μ p)).1 : Nat) v.1 v.2 σ2 else some σ2
def zlook (E : zEn) (m : Nat) (μ : zMu) (p : Nat) (st : List Nat) (l : Nat → Nat) (σ : zTau) : Option zTau :=
  if 0 < (zsh (uC μ p)).1 ∧ p + (zsh (uC μ p)).1 ≤ uLen μ then
    (zhan μ p l (uH μ) 0 σ).bind fun σ1 => (ztr E m μ (uC μ p) (uC μ (p + 1)) (uC μ (p + 2)) st l).bind fun v => zout μ p v σ1
  else none
/-- what holds at one place -/
def zloc (E : zEn) (m : Nat) (μ : zMu) (τ : zTau) (p : Nat) (st : List Nat) (l : Nat → Nat) : Prop := p < uLen μ ∧ st.length ≤ uSk μ ∧ 0 < (zsh (uC μ p)).1 ∧ p + (zsh (uC μ p)).1 ≤ uLen μ ∧
    (∃ st' l', ztr E m μ (uC μ p) (uC μ (p + 1)) (uC μ (p + 2)) st l = some (st', l') ∧ (zjumps (uC μ p) → zflow τ (uLen μ) (zto p (uC μ (p + 1)) (uC μ (p + 2))) st' l') ∧ (zgoes (uC μ p) → zflow τ (uLen μ) (p + (zsh (uC μ p)).1 : Nat) st' l')) ∧
    ∀ j, j < uH μ → uHs μ (4 * j) ≤ p → p < uHs μ (4 * j + 1) → 0 < uSk μ ∧ zflow τ (uLen μ) (uHs μ (4 * j + 2)) [3] l
section ZAB
variable {E : zEn} {m n s p : Nat} {μ : zMu} {σ σ' τ : zTau} {st st' : List Nat} {l l' : Nat → Nat} {q : Int}
theorem zLe.rf : zLe l l := fun _ _ => Or.inr rfl
theorem zmt_le1 : zLe (zmt l' l) l' := fun k _ => by
  show (if l' k = l k then l' k else 0) = 0 ∨ (if l' k = l k then l' k else 0) = l' k
  by_cases c : l' k = l k
  · right; rw [if_pos c]
  · left; rw [if_neg c]
theorem zmt_le2 : zLe (zmt l' l) l := fun k _ => by
  show (if l' k = l k then l' k else 0) = 0 ∨ (if l' k = l k then l' k else 0) = l k
  by_cases c : l' k = l k
  · right; rw [if_pos c]; exact c
  · left; rw [if_neg c]
theorem zmt_ge {a : Nat → Nat} (h1 : zLe a l') (h2 : zLe a l) : zLe a (zmt l' l) := fun k hk => by
  show a k = 0 ∨ a k = if l' k = l k then l' k else 0
  rcases h1 k hk with e | e
  · exact Or.inl e
  · rcases h2 k hk with e' | e'
    · exact Or.inl e'
    · right; rw [if_pos (e.symm.trans e')]; exact e
theorem zmt_k (h1 : zk16 l') (h2 : zk16 l) : zk16 (zmt l' l) := by
  refine ⟨fun k => ?_, fun k hk => ?_⟩
  · show (if l' k = l k then l' k else 0) ≤ 3
    have := h1.1 k
    split <;> omega
  · show (if l' k = l k then l' k else 0) = 0
    have := h1.2 k hk
    split <;> omega
theorem zAb.rf : zAb σ σ := fun _ _ l h => ⟨l, h, zLe.rf⟩
theorem zAb.tr (h : zAb σ σ') (h' : zAb σ' τ) : zAb σ τ := fun p st l e => by
  obtain ⟨l1, e1, e2⟩ := h p st l e
  obtain ⟨l2, e3, e4⟩ := h' p st l1 e1
  exact ⟨l2, e3, e4.tr e2⟩
theorem zflow.ab (h : zflow σ n q st l) (h' : zAb σ τ) : zflow τ n q st l := by
  obtain ⟨a1, a2, l1, a3, a4⟩ := h
  obtain ⟨l2, e1, e2⟩ := h' _ _ _ a3
  exact ⟨a1, a2, l2, e1, e2.tr a4⟩
theorem zflow.le (h : zflow σ n q st l') (h' : zLe l' l) : zflow σ n q st l := by
  obtain ⟨a1, a2, l1, a3, a4⟩ := h
  exact ⟨a1, a2, l1, a3, zLe.tr a4 h'⟩
theorem zpu_at {a : Nat} {v : List Nat × (Nat → Nat)} : zpu σ a v a = some v := if_pos rfl
theorem zpu_ne {a : Nat} {v : List Nat × (Nat → Nat)} (h : p ≠ a) : zpu σ a v p = σ p := if_neg h
theorem zlead_ok (h : zlead n q st l σ = some σ') : zAb σ σ' ∧ zflow σ' n q st l := by
  unfold zlead at h
  by_cases c : 0 ≤ q ∧ q < (n : Int)
  · rw [if_pos c] at h
    cases e : σ q.toNat with
    | none =>
      rw [e] at h
      injection h with h
      subst h
      refine ⟨fun p st1 l1 e1 => ?_, c.1, c.2, l, zpu_at, zLe.rf⟩
      have hp : p ≠ q.toNat := fun hp => by rw [hp, e] at e1; cases e1
      exact ⟨l1, (zpu_ne hp).trans e1, zLe.rf⟩
    | some v =>
      rw [e] at h
      dsimp only at h
      by_cases cs : v.1 = st
      · rw [if_pos cs] at h
        injection h with h
        subst h
        refine ⟨fun p st1 l1 e1 => ?_, c.1, c.2, zmt v.2 l, by rw [zpu_at, cs], zmt_le2⟩
        by_cases hp : p = q.toNat
        · subst hp
          rw [e] at e1
          injection e1 with e1
          refine ⟨zmt v.2 l, by rw [zpu_at, e1], ?_⟩
          rw [e1]
          exact zmt_le1
        · exact ⟨l1, (zpu_ne hp).trans e1, zLe.rf⟩
      · rw [if_neg cs] at h
        cases h
  · rw [if_neg c] at h
    cases h
theorem zlead_to (h : zAb σ τ) (hf : zflow τ n q st l) : ∃ σ', zlead n q st l σ = some σ' ∧ zAb σ' τ := by
  obtain ⟨a1, a2, l1, a3, a4⟩ := hf
  unfold zlead
  rw [if_pos ⟨a1, a2⟩]
  cases e : σ q.toNat with
  | none =>
    refine ⟨_, rfl, fun p st1 l2 e1 => ?_⟩
    by_cases hp : p = q.toNat
    · subst hp
      rw [zpu_at] at e1
      injection e1 with e1
      injection e1 with e1 e2
      subst e1; subst e2
      exact ⟨l1, a3, a4⟩
    · rw [zpu_ne hp] at e1
      exact h p st1 l2 e1
  | some v =>
    obtain ⟨l3, e3, e4⟩ := h q.toNat v.1 v.2 e
    rw [a3] at e3
    injection e3 with e3
    injection e3 with e5 e6
    subst e6
    dsimp only
    rw [if_pos e5.symm]
    refine ⟨_, rfl, fun p st1 l2 e1 => ?_⟩
    by_cases hp : p = q.toNat
    · subst hp
      rw [zpu_at] at e1
      injection e1 with e1
      injection e1 with e1 e2
      subst e1; subst e2
      refine ⟨l1, by rw [a3, e5], zmt_ge e4 a4⟩
    · rw [zpu_ne hp] at e1
      exact h p st1 l2 e1
theorem zlead_os (h : zlead n q st l σ = some σ') (hO : zOs n s σ) (h1 : st.length ≤ s) (h2 : zkS st) (h3 : zk16 l) : zOs n s σ' := by
  unfold zlead at h
  by_cases c : 0 ≤ q ∧ q < (n : Int)
  · rw [if_pos c] at h
    cases e : σ q.toNat with
    | none =>
      rw [e] at h
      injection h with h
      subst h
      intro p st1 l1 e1
      by_cases hp : p = q.toNat
      · subst hp
        rw [zpu_at] at e1
        injection e1 with e1
        injection e1 with e1 e2
        subst e1; subst e2
        exact ⟨by omega, h1, h2, h3⟩
      · rw [zpu_ne hp] at e1
        exact hO p st1 l1 e1
    | some v =>
      rw [e] at h
      dsimp only at h
      by_cases cs : v.1 = st
      · rw [if_pos cs] at h
        injection h with h
        subst h
        intro p st1 l1 e1
        by_cases hp : p = q.toNat
        · subst hp
          rw [zpu_at] at e1
          injection e1 with e1
          injection e1 with e1 e2
          subst e1; subst e2
          obtain ⟨b1, b2, b3, b4⟩ := hO q.toNat v.1 v.2 e
          exact ⟨b1, b2, b3, zmt_k b4 h3⟩
        · rw [zpu_ne hp] at e1
          exact hO p st1 l1 e1
      · rw [if_neg cs] at h
        cases h
  · rw [if_neg c] at h
    cases h
theorem zcn_le : zcn l ≤ 16 := by
  unfold zcn
  have : zs (fun k => if l k = 0 then 0 else 1) 16 ≤ zs (fun _ => 1) 16 := zs_le fun i _ => by split <;> omega
  rw [zs_one] at this
  exact this
theorem zs_lt {f g : Nat → Nat} {a n : Nat} (h : ∀ i, i < n → f i ≤ g i) (ha : a < n) (h' : f a < g a) : zs f n < zs g n := by
  have h1 := zs_upd (f := f) (g := fun i => if i = a then g a else f i) (a := a) (fun i hi => if_neg hi) ha
  have h2 : zs (fun i => if i = a then g a else f i) n ≤ zs g n := zs_le fun i hi => by
    by_cases c : i = a
    · rw [if_pos c, c]; exact Nat.le_refl _
    · rw [if_neg c]; exact h i hi
  rw [if_pos rfl] at h1
  omega
theorem zcn_lt (h1 : zk16 l') (h2 : zk16 l) (h : zmt l' l ≠ l') : zcn (zmt l' l) < zcn l' := by
  have : ∃ k, k < 16 ∧ l' k ≠ l k ∧ l' k ≠ 0 := by
    refine Classical.byContradiction fun hn => h (funext fun k => ?_)
    show (if l' k = l k then l' k else 0) = l' k
    by_cases c : l' k = l k
    · rw [if_pos c]
    · rw [if_neg c]
      by_cases c2 : k < 16
      · by_cases c3 : l' k = 0
        · exact c3.symm
        · exact absurd ⟨k, c2, c, c3⟩ hn
      · exact (h1.2 k (by omega)).symm
  obtain ⟨k, a1, a2, a3⟩ := this
  refine zs_lt (a := k) (fun i _ => ?_) a1 ?_
  · show (if (if l' i = l i then l' i else 0) = 0 then 0 else 1) ≤ if l' i = 0 then 0 else 1
    by_cases c : l' i = l i
    · rw [if_pos c]; exact Nat.le_refl _
    · rw [if_neg c, if_pos rfl]; exact Nat.zero_le _
  · show (if (if l' k = l k then l' k else 0) = 0 then 0 else 1) < if l' k = 0 then 0 else 1
    rw [if_neg a2, if_pos rfl, if_neg a3]
    exact Nat.zero_lt_one
theorem zwp_at {v : List Nat × (Nat → Nat)} (h : σ p = some v) : zwp σ p = zcn v.2 := by unfold zwp; rw [h]
theorem zwp_no (h : σ p = none) : zwp σ p = 17 := by unfold zwp; rw [h]
theorem zwt_up {a : Nat} {v : List Nat × (Nat → Nat)} (ha : a < 200) (h : zcn v.2 < zwp σ a) : zwt (zpu σ a v) < zwt σ := by
  have h1 := zs_upd (f := zwp σ) (g := zwp (zpu σ a v)) (a := a) (n := 200) (fun i hi => by unfold zwp; rw [zpu_ne hi]) ha
  rw [zwp_at (σ := zpu σ a v) (p := a) zpu_at] at h1
  unfold zwt
  omega
theorem zpu_id {a : Nat} {v : List Nat × (Nat → Nat)} (h : σ a = some v) : zpu σ a v = σ := funext fun p => by
  by_cases c : p = a
  · subst c; rw [zpu_at, h]
  · exact zpu_ne c
theorem zlead_wt (h : zlead n q st l σ = some σ') (hO : zOs n s σ) (hn : n ≤ 200) (h3 : zk16 l) : σ' = σ ∨ zwt σ' < zwt σ := by
  unfold zlead at h
  by_cases c : 0 ≤ q ∧ q < (n : Int)
  · rw [if_pos c] at h
    cases e : σ q.toNat with
    | none =>
      rw [e] at h
      injection h with h
      subst h
      right
      refine zwt_up (by omega) ?_
      have := zcn_le (l := l)
      rw [zwp_no e]
      show zcn l < 17
      omega
    | some v =>
      rw [e] at h
      dsimp only at h
      by_cases cs : v.1 = st
      · rw [if_pos cs] at h
        injection h with h
        subst h
        by_cases ce : zmt v.2 l = v.2
        · left
          rw [ce]
          exact zpu_id e
        · right
          refine zwt_up (by omega) ?_
          rw [zwp_at e]
          exact zcn_lt (hO q.toNat v.1 v.2 e).2.2.2 h3 ce
      · rw [if_neg cs] at h
        cases h
  · rw [if_neg c] at h
    cases h
end ZAB
