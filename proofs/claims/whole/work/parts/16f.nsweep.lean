/-! ===== the reference's heap: its order, sweeping ===== -/
def zgb (M : zM) (t : Nat) : Nat := zN (M.1 34 t)
def zHm (M : zM) (ν : Nat → Nat) (c ce : Nat) : Prop :=
  M.1 100 36 = Int32.ofNat c ∧ M.1 100 38 = Int32.ofNat ce ∧ c ≤ 200 ∧ ce ≤ 1700 ∧ (∀ k, k < c → M.1 35 k = Int32.ofNat (ν k) ∧ ν k < 201 ∧ M.1 29 (ν k) = 1) ∧ (∀ i j, i < c → j < c → ν i = ν j → i = j) ∧
  (∀ t, t < 201 → M.1 29 t = 1 → ∃ k, k < c ∧ ν k = t) ∧ (∀ t, t < 201 → M.1 29 t = 0 ∨ M.1 29 t = 1) ∧ (∀ k, k < c → zgb M (ν k) = zs (fun j => zgz M (ν j)) k) ∧ ce = zs (fun j => zgz M (ν j)) c
def zMcp (M : zM) (s d n : Nat) : zM := (M.1, fun o k => if o = 37 ∧ d ≤ k ∧ k < d + n then M.2 37 (s + (k - d)) else M.2 o k)
def zJn (M0 : zM) (ν : Nat → Nat) (c : Nat) (S : Nat → Bool) (M : zM) (ψ : Nat → Nat) (k l ce : Nat) : Prop :=
  (∀ o x, o ≠ 29 → o ≠ 34 → o ≠ 35 → ¬ (o = 100 ∧ x = 38) → M.1 o x = M0.1 o x) ∧ (∀ o x, o ≠ 37 → M.2 o x = M0.2 o x) ∧ l ≤ k ∧ k ≤ c ∧ M.1 100 38 = Int32.ofNat ce ∧
  (∀ j, j < l → M.1 35 j = Int32.ofNat (ψ j)) ∧ (∀ j, k ≤ j → j < c → M.1 35 j = Int32.ofNat (ν j)) ∧ (∀ a a', a < l → a' < l → ψ a = ψ a' → a = a') ∧
  (∀ x, (∃ j, j < l ∧ ψ j = x) ↔ (S x = true ∧ ∃ j, j < k ∧ ν j = x)) ∧ (∀ j, j < l → zgb M (ψ j) = zs (fun e => zgz M0 (ψ e)) j) ∧ ce = zs (fun e => zgz M0 (ψ e)) l ∧ ce ≤ zs (fun e => zgz M0 (ν e)) k ∧
  (∀ j, j < l → ∀ e, e < zgz M0 (ψ j) → M.2 37 (zgb M (ψ j) + e) = M0.2 37 (zgb M0 (ψ j) + e)) ∧
  (∀ j, k ≤ j → j < c → zgb M (ν j) = zgb M0 (ν j) ∧ ∀ e, e < zgz M0 (ν j) → M.2 37 (zgb M0 (ν j) + e) = M0.2 37 (zgb M0 (ν j) + e)) ∧
  (∀ j, j < k → M.1 29 (ν j) = if S (ν j) = true then 1 else 0) ∧ ∀ t, (∀ j, j < k → ν j ≠ t) → M.1 29 t = M0.1 29 t
section ZNS
variable {N w b : Nat} {M M0 : zM}
theorem zMcp_37 {s d n k : Nat} : (zMcp M s d n).2 37 k = if d ≤ k ∧ k < d + n then M.2 37 (s + (k - d)) else M.2 37 k := by
  show (if 37 = 37 ∧ d ≤ k ∧ k < d + n then _ else _) = _
  by_cases c : d ≤ k ∧ k < d + n
  · rw [if_pos ⟨rfl, c⟩, if_pos c]
  · rw [if_neg (fun q => c q.2), if_neg c]
theorem zMcp_o {s d n o k : Nat} (h : o ≠ 37) : (zMcp M s d n).2 o k = M.2 o k := if_neg (fun q => h q.1)
theorem zMcp_0 {s d : Nat} : zMcp M s d 0 = M := Prod.ext rfl (funext fun o => funext fun k => if_neg (by omega))
theorem zMcp_s {s d i : Nat} (h : d ≤ s) : zK (zMcp M s d i) 37 (d + i) (M.2 37 (s + i)) = zMcp M s d (i + 1) := Prod.ext rfl (funext fun o => funext fun k => by
  show (if o = 37 ∧ k = d + i then M.2 37 (s + i) else if o = 37 ∧ d ≤ k ∧ k < d + i then M.2 37 (s + (k - d)) else M.2 o k) = if o = 37 ∧ d ≤ k ∧ k < d + (i + 1) then M.2 37 (s + (k - d)) else M.2 o k
  by_cases c : o = 37 ∧ k = d + i
  · rw [if_pos c, if_pos ⟨c.1, by omega, by omega⟩, c.2, Nat.add_sub_cancel_left]
  · rw [if_neg c]
    by_cases e : o = 37 ∧ d ≤ k ∧ k < d + i
    · rw [if_pos e, if_pos ⟨e.1, e.2.1, by omega⟩]
    · rw [if_neg e, if_neg (by omega)])
theorem zgb_c {t : Nat} (h : M.1 34 t = M0.1 34 t) : zgb M t = zgb M0 t := by unfold zgb; rw [h]
theorem zgz_c {t : Nat} (h : M.1 33 t = M0.1 33 t) : zgz M t = zgz M0 t := by unfold zgz; rw [h]
/-- the copy of one thing's cells -/
theorem zn_s48 {Kt : Nat → Int32 → Int32 → zv_X → Option zv_X} {t ce l k : Nat} (ht : t < 201) (hce : M.1 100 38 = Int32.ofNat ce) (hd : ce ≤ zgb M t) (hs : zgb M t + zgz M t ≤ 1700) (hl : l < 201) :
    ∀ (m fuel i : Nat), i + m = zgz M t → m < fuel → ∀ (C : zC) (r : zv_X), mX9_sweep_48 Kt N fuel (b + 75) (Int32.ofNat l) (Int32.ofNat k) (Int32.ofNat t) (Int32.ofNat i) (zc w b C (zMcp M (zgb M t) ce i) r) = Kt (b + 75) (Int32.ofNat (l + 1)) (Int32.ofNat (k + 1)) (zc w b C (zJ (zJ (zJ (zMcp M (zgb M t) ce (zgz M t)) 34 t (Int32.ofNat ce)) 100 38 (Int32.ofNat (ce + zgz M t))) 35 l (Int32.ofNat t)) r) := by
  have e33 : ∀ i, (zMcp M (zgb M t) ce i).1 33 t = Int32.ofNat (zgz M t) := fun i => (zN_of _).symm
  have e34 : ∀ i, (zMcp M (zgb M t) ce i).1 34 t = Int32.ofNat (zgb M t) := fun i => (zN_of _).symm
  have e38 : ∀ i, (zMcp M (zgb M t) ce i).1 100 38 = Int32.ofNat ce := fun i => hce
  intro m
  induction m with
  | zero =>
    intro fuel i hi hf C r
    obtain ⟨fuel, rfl⟩ : ∃ g, fuel = g + 1 := ⟨fuel - 1, by omega⟩
    have g38 : ∀ i v, (zJ (zMcp M (zgb M t) ce i) 34 t v).1 100 38 = Int32.ofNat ce := fun i v => by rw [zJ1, if_neg (by omega)]; exact e38 i
    have g33 : ∀ i v, (zJ (zMcp M (zgb M t) ce i) 34 t v).1 33 t = Int32.ofNat (zgz M t) := fun i v => by rw [zJ1, if_neg (by omega)]; exact e33 i
    have : i = zgz M t := by omega
    subst this
    unfold mX9_sweep_48 mX9_sweep_126
    simp (disch := omega) only [zqg_75_33, zqa_100, e33, Option.bind_some, zi_le]
    rw [if_pos (Nat.le_refl _)]
    simp (disch := omega) only [zqg_75_34, zqg_75_38, e38, zqs_101, zqg_75_33, zqa_100, g38, g33, zqp_75_38, zqg_75_35, zqs_102, Option.bind_some, zi_lit, zi_add]
  | succ m ih =>
    intro fuel i hi hf C r
    obtain ⟨fuel, rfl⟩ : ∃ g, fuel = g + 1 := ⟨fuel - 1, by omega⟩
    have e := ih fuel (i + 1) (by omega) (by omega) C r
    rw [← zMcp_s hd] at e
    have ev : (zMcp M (zgb M t) ce i).2 37 (zgb M t + i) = M.2 37 (zgb M t + i) := by rw [zMcp_37, if_neg (by omega)]
    unfold mX9_sweep_48
    simp (disch := omega) only [zqg_75_33, zqa_100, e33, Option.bind_some, zi_le]
    rw [if_neg (by omega)]
    simp (disch := omega) only [zqg_75_37, zqg_75_38, e38, zqg_75_34, zqa_101, e34, zi_add, zqa_103, ev, zqs_103, Option.bind_some, zi_lit]
    exact e
/-- one is kept -/
theorem zJn_keep {ν ψ : Nat → Nat} {c ce0 k l ce : Nat} {S : Nat → Bool} (hH : zHm M0 ν c ce0) (hJ : zJn M0 ν c S M ψ k l ce) (hk : k < c) (hS : S (ν k) = true) :
    zJn M0 ν c S (zJ (zJ (zJ (zMcp (zJ M 29 (ν k) 1) (zgb M0 (ν k)) ce (zgz M0 (ν k))) 34 (ν k) (Int32.ofNat ce)) 100 38 (Int32.ofNat (ce + zgz M0 (ν k)))) 35 l (Int32.ofNat (ν k))) (zset ψ l (ν k)) (k + 1) (l + 1) (ce + zgz M0 (ν k)) := by
  obtain ⟨c1, c2, c3, c4, c5, c6, c7, c8, c9, c10⟩ := hH
  obtain ⟨j1, j2, j3, j4, j5, j6, j7, j8, j9, j10, j11, j12, j13, j14, j15, j16⟩ := hJ
  have hsucc : zs (fun j => zgz M0 (ν j)) (k + 1) = zgb M0 (ν k) + zgz M0 (ν k) := by rw [c9 k hk]; rfl
  have hle : zs (fun j => zgz M0 (ν j)) (k + 1) ≤ ce0 := by rw [c10]; exact zs_mono (by omega)
  have c9k := c9 k hk
  have hlow : ∀ a, a < l → zset ψ l (ν k) a = ψ a := fun a ha => if_neg (by omega)
  have hkk : zset ψ l (ν k) l = ν k := if_pos rfl
  have hne : ∀ a, a < l → ψ a ≠ ν k := fun a ha e => by
    obtain ⟨_, j, hj, e'⟩ := (j9 (ψ a)).1 ⟨a, ha, rfl⟩
    have := c6 j k (by omega) hk (e'.trans e)
    omega
  have h34 : ∀ y, y ≠ ν k → (zJ (zJ (zJ (zMcp (zJ M 29 (ν k) 1) (zgb M0 (ν k)) ce (zgz M0 (ν k))) 34 (ν k) (Int32.ofNat ce)) 100 38 (Int32.ofNat (ce + zgz M0 (ν k)))) 35 l (Int32.ofNat (ν k))).1 34 y = M.1 34 y := fun y hy => by
    rw [zJ1, if_neg (by omega), zJ1, if_neg (by omega), zJ1, if_neg (fun q => hy q.2)]
    show (zJ M 29 (ν k) 1).1 34 y = _
    rw [zJ1, if_neg (by omega)]
  have h37 : ∀ y, (zJ (zJ (zJ (zMcp (zJ M 29 (ν k) 1) (zgb M0 (ν k)) ce (zgz M0 (ν k))) 34 (ν k) (Int32.ofNat ce)) 100 38 (Int32.ofNat (ce + zgz M0 (ν k)))) 35 l (Int32.ofNat (ν k))).2 37 y = if ce ≤ y ∧ y < ce + zgz M0 (ν k) then M.2 37 (zgb M0 (ν k) + (y - ce)) else M.2 37 y := fun y => by
    rw [zJ2, zJ2, zJ2, zMcp_37]
    rfl
  have hx : zgb (zJ (zJ (zJ (zMcp (zJ M 29 (ν k) 1) (zgb M0 (ν k)) ce (zgz M0 (ν k))) 34 (ν k) (Int32.ofNat ce)) 100 38 (Int32.ofNat (ce + zgz M0 (ν k)))) 35 l (Int32.ofNat (ν k))) (ν k) = ce := by
    unfold zgb
    rw [zJ1, if_neg (by omega), zJ1, if_neg (by omega), zJ1, if_pos ⟨rfl, rfl⟩, zN_nat (by omega)]
  have h29 : ∀ y, (zJ (zJ (zJ (zMcp (zJ M 29 (ν k) 1) (zgb M0 (ν k)) ce (zgz M0 (ν k))) 34 (ν k) (Int32.ofNat ce)) 100 38 (Int32.ofNat (ce + zgz M0 (ν k)))) 35 l (Int32.ofNat (ν k))).1 29 y = if y = ν k then 1 else M.1 29 y := fun y => by
    rw [zJ1, if_neg (by omega), zJ1, if_neg (by omega), zJ1, if_neg (by omega)]
    show (zJ M 29 (ν k) 1).1 29 y = _
    rw [zJ1]
    by_cases e : y = ν k
    · rw [if_pos ⟨rfl, e⟩, if_pos e]
    · rw [if_neg (fun q => e q.2), if_neg e]
  have hsum : ∀ a, a ≤ l → zs (fun e => zgz M0 (zset ψ l (ν k) e)) a = zs (fun e => zgz M0 (ψ e)) a := fun a ha => zs_congr fun e he => by rw [hlow e (by omega)]
  refine ⟨fun o x h1 h2 h3 h4 => ?_, fun o x h1 => ?_, by omega, by omega, ?_, fun j hj => ?_, fun j h1 h2 => ?_, fun a a' ha ha' e => ?_, fun x => ⟨fun ⟨j, hj, e⟩ => ?_, fun ⟨h1, j, hj, e⟩ => ?_⟩, fun j hj => ?_, ?_, by omega, fun j hj e he => ?_, fun j h1 h2 => ?_, fun j hj => ?_, fun t ht => ?_⟩
  · rw [zJ1, if_neg (fun q => h3 q.1), zJ1, if_neg h4, zJ1, if_neg (fun q => h2 q.1)]
    show (zJ M 29 (ν k) 1).1 o x = _
    rw [zJ1, if_neg (fun q => h1 q.1)]
    exact j1 o x h1 h2 h3 h4
  · rw [zJ2, zJ2, zJ2, zMcp_o h1, zJ2]
    exact j2 o x h1
  · rw [zJ1, if_neg (by omega), zJ1, if_pos ⟨rfl, rfl⟩]
  · rw [zJ1]
    by_cases e : j = l
    · rw [if_pos ⟨rfl, e⟩, e, hkk]
    · rw [if_neg (fun q => e q.2), hlow j (by omega), zJ1, if_neg (by omega), zJ1, if_neg (by omega)]
      show (zJ M 29 (ν k) 1).1 35 j = _
      rw [zJ1, if_neg (by omega)]
      exact j6 j (by omega)
  · rw [zJ1, if_neg (by omega), zJ1, if_neg (by omega), zJ1, if_neg (by omega)]
    show (zJ M 29 (ν k) 1).1 35 j = _
    rw [zJ1, if_neg (by omega)]
    exact j7 j (by omega) h2
  · by_cases d : a = l
    · by_cases d' : a' = l
      · omega
      · rw [d, hkk, hlow a' (by omega)] at e
        exact absurd e.symm (hne a' (by omega))
    · by_cases d' : a' = l
      · rw [d', hkk, hlow a (by omega)] at e
        exact absurd e (hne a (by omega))
      · rw [hlow a (by omega), hlow a' (by omega)] at e
        exact j8 a a' (by omega) (by omega) e
  · by_cases d : j = l
    · rw [d, hkk] at e
      subst e
      exact ⟨hS, k, by omega, rfl⟩
    · rw [hlow j (by omega)] at e
      obtain ⟨a1, j', a2, a3⟩ := (j9 x).1 ⟨j, by omega, e⟩
      exact ⟨a1, j', by omega, a3⟩
  · by_cases d : j = k
    · subst d
      exact ⟨l, by omega, by rw [hkk]; exact e⟩
    · obtain ⟨j', a2, a3⟩ := (j9 x).2 ⟨h1, j, by omega, e⟩
      exact ⟨j', by omega, by rw [hlow j' a2]; exact a3⟩
  · by_cases d : j = l
    · rw [d, hkk, hx, hsum l (Nat.le_refl l)]
      exact j11
    · rw [hlow j (by omega), hsum j (by omega), ← j10 j (by omega)]
      exact zgb_c (h34 _ (hne j (by omega)))
  · show ce + zgz M0 (ν k) = zs _ l + zgz M0 (zset ψ l (ν k) l)
    rw [hkk, hsum l (Nat.le_refl l), j11]
  · by_cases d : j = l
    · rw [d, hkk] at he
      rw [d, hkk, hx, h37, if_pos ⟨by omega, by omega⟩, Nat.add_sub_cancel_left]
      exact (j14 k (Nat.le_refl k) hk).2 e he
    · rw [hlow j (by omega)] at he
      rw [hlow j (by omega), zgb_c (M0 := M) (h34 _ (hne j (by omega))), h37]
      have s1 : zs (fun e => zgz M0 (ψ e)) (j + 1) ≤ zs (fun e => zgz M0 (ψ e)) l := zs_mono (by omega)
      have s2 : zs (fun e => zgz M0 (ψ e)) (j + 1) = zs (fun e => zgz M0 (ψ e)) j + zgz M0 (ψ j) := rfl
      have s3 := j10 j (by omega)
      rw [if_neg (by omega)]
      exact j13 j (by omega) e he
  · obtain ⟨g1, g2⟩ := j14 j (by omega) h2
    have hj : ν j ≠ ν k := fun e => by
      have := c6 j k h2 hk e
      omega
    refine ⟨(zgb_c (h34 _ hj)).trans g1, fun e he => ?_⟩
    have s1 : zs (fun j => zgz M0 (ν j)) (k + 1) ≤ zs (fun j => zgz M0 (ν j)) j := zs_mono (by omega)
    have s2 := c9 j h2
    rw [h37, if_neg (by omega)]
    exact g2 e he
  · rw [h29]
    by_cases e : ν j = ν k
    · rw [if_pos e, e, if_pos hS]
    · rw [if_neg e]
      refine j15 j ?_
      by_cases d : j = k
      · exact absurd (by rw [d]) e
      · omega
  · rw [h29, if_neg (fun e => ht k (by omega) e.symm)]
    exact j16 t fun j hj => ht j (by omega)
theorem zn_s9 {ν : Nat → Nat} {c ce0 : Nat} {S : Nat → Bool} (hN : 1700 < N) (hH : zHm M0 ν c ce0) (hS : ∀ t, t < 201 → M0.1 30 t = if S t = true then 1 else 0) :
    ∀ (m fuel k l ce : Nat) (M : zM) (ψ : Nat → Nat), k + m = c → m < fuel → zJn M0 ν c S M ψ k l ce → ∃ (M' : zM) (ψ' : Nat → Nat) (l' ce' : Nat), zJn M0 ν c S M' ψ' c l' ce' ∧ zHM w b (mX9_sweep_9 N fuel (b + 75) (Int32.ofNat l) (Int32.ofNat k)) M id (zJ M' 100 36 (Int32.ofNat l')) := by
  intro m
  induction m with
  | zero =>
    intro fuel k l ce M ψ hk hf hJ
    obtain ⟨fuel, rfl⟩ : ∃ g, fuel = g + 1 := ⟨fuel - 1, by omega⟩
    have : k = c := by omega
    subst this
    refine ⟨M, ψ, l, ce, hJ, fun C r => ?_⟩
    have e36 : M.1 100 36 = Int32.ofNat k := (hJ.1 100 36 (by decide) (by decide) (by decide) (by decide)).trans hH.1
    have := hH.2.2.1
    unfold mX9_sweep_9
    simp (disch := omega) only [zqg_75_36, e36, Option.bind_some, zi_le]
    rw [if_pos (by omega), zqp_75_36, Option.bind_some]
    rfl
  | succ m ih =>
    intro fuel k l ce M ψ hk hf hJ
    obtain ⟨fuel, rfl⟩ : ∃ g, fuel = g + 1 := ⟨fuel - 1, by omega⟩
    have hH' := hH
    have hJ' := hJ
    obtain ⟨c1, c2, c3, c4, c5, c6, c7, c8, c9, c10⟩ := hH
    obtain ⟨j1, j2, j3, j4, j5, j6, j7, j8, j9, j10, j11, j12, j13, j14, j15, j16⟩ := hJ
    obtain ⟨d1, d2, d3⟩ := c5 k (by omega)
    have e36 : M.1 100 36 = Int32.ofNat c := (j1 100 36 (by decide) (by decide) (by decide) (by decide)).trans c1
    have e35 : M.1 35 k = Int32.ofNat (ν k) := j7 k (Nat.le_refl k) (by omega)
    have e30 : M.1 30 (ν k) = if S (ν k) = true then 1 else 0 := (j1 30 _ (by decide) (by decide) (by decide) (by omega)).trans (hS _ d2)
    have f30 : ∀ v, (zJ M 29 (ν k) v).1 30 (ν k) = if S (ν k) = true then 1 else 0 := fun v => by rw [zJ1, if_neg (by omega)]; exact e30
    have o1 : ∀ {P : Prop} [Decidable P], ((if P then 1 else 0 : Int32) = 0 ∨ (if P then 1 else 0 : Int32) = 1) := fun {P} _ => by
      by_cases h : P
      · rw [if_pos h]; exact Or.inr rfl
      · rw [if_neg h]; exact Or.inl rfl
    have hsucc : zs (fun j => zgz M0 (ν j)) (k + 1) = zgb M0 (ν k) + zgz M0 (ν k) := by rw [c9 k (by omega)]; rfl
    have hle : zs (fun j => zgz M0 (ν j)) (k + 1) ≤ ce0 := by rw [c10]; exact zs_mono (by omega)
    by_cases hSx : S (ν k) = true
    · obtain ⟨M', ψ', l', ce', h1, h2⟩ := ih fuel (k + 1) (l + 1) (ce + zgz M0 (ν k)) _ _ (by omega) (by omega) (zJn_keep hH' hJ' (by omega) hSx)
      refine ⟨M', ψ', l', ce', h1, fun C r => ?_⟩
      have h2 := h2 C r
      have hb : zgb (zJ M 29 (ν k) 1) (ν k) = zgb M0 (ν k) := (zgb_c (M0 := M) (by rw [zJ1, if_neg (by omega)])).trans (j14 k (Nat.le_refl k) (by omega)).1
      have hz : zgz (zJ M 29 (ν k) 1) (ν k) = zgz M0 (ν k) := zgz_c (by rw [zJ1, if_neg (by omega)]; exact j1 33 _ (by decide) (by decide) (by decide) (by omega))
      have h3 := zn_s48 (N := N) (w := w) (b := b) (M := zJ M 29 (ν k) 1) (Kt := mX9_sweep_9 N fuel) (t := ν k) (ce := ce) (l := l) (k := k) d2 (by rw [zJ1, if_neg (by omega)]; exact j5) (by rw [hb, c9 k (by omega)]; exact j12) (by rw [hb, hz]; omega) (by omega) (zgz (zJ M 29 (ν k) 1) (ν k)) N 0 (by omega) (by rw [hz]; omega) C r
      rw [zMcp_0, hb, hz] at h3
      show mX9_sweep_9 N (fuel + 1) (b + 75) (Int32.ofNat l) (Int32.ofNat k) (zc w b C M r) = _
      unfold mX9_sweep_9
      simp (disch := omega) only [zqg_75_36, e36, Option.bind_some, zi_le]
      rw [if_neg (by omega)]
      simp (disch := omega) only [zqg_75_35, zqa_102, e35, zqg_75_29, zqg_75_30, zqa_97, e30, Option.bind_some]
      rw [zqs_96 o1 d2]
      simp (disch := omega) only [zqg_75_30, zqa_97, f30, Option.bind_some]
      rw [if_pos hSx, if_neg (by decide)]
      exact h3.trans h2
    · obtain ⟨M', ψ', l', ce', h1, h2⟩ := ih fuel (k + 1) l ce (zJ M 29 (ν k) 0) ψ (by omega) (by omega) ⟨fun o x g1 g2 g3 g4 => by rw [zJ1, if_neg (fun q => g1 q.1)]; exact j1 o x g1 g2 g3 g4, j2, by omega, by omega, by rw [zJ1, if_neg (by omega)]; exact j5, fun j hj => by rw [zJ1, if_neg (by omega)]; exact j6 j hj, fun j g1 g2 => by rw [zJ1, if_neg (by omega)]; exact j7 j (by omega) g2, j8, fun x => ⟨fun h => by
          obtain ⟨a1, j', a2, a3⟩ := (j9 x).1 h
          exact ⟨a1, j', by omega, a3⟩, fun ⟨a1, j', a2, a3⟩ => (j9 x).2 ⟨a1, j', by
          by_cases e : j' = k
          · subst e; subst a3; exact absurd a1 hSx
          · omega, a3⟩⟩, fun j hj => by rw [← j10 j hj]; exact zgb_c (by rw [zJ1, if_neg (by omega)]), j11, Nat.le_trans j12 (zs_mono (by omega)), fun j hj e he => by
          rw [zgb_c (M := zJ M 29 (ν k) 0) (M0 := M) (by rw [zJ1, if_neg (by omega)])]; exact j13 j hj e he, fun j g1 g2 => by
          rw [zgb_c (M := zJ M 29 (ν k) 0) (M0 := M) (by rw [zJ1, if_neg (by omega)])]; exact j14 j (by omega) g2, fun j hj => by
          rw [zJ1]
          by_cases e : ν j = ν k
          · rw [if_pos ⟨rfl, e⟩, e, if_neg hSx]
          · rw [if_neg (fun q => e q.2)]
            refine j15 j ?_
            by_cases d : j = k
            · exact absurd (by rw [d]) e
            · omega, fun t ht => by
          rw [zJ1, if_neg (fun q => ht k (by omega) q.2.symm)]
          exact j16 t fun j hj => ht j (by omega)⟩
      refine ⟨M', ψ', l', ce', h1, fun C r => ?_⟩
      have h2 := h2 C r
      show mX9_sweep_9 N (fuel + 1) (b + 75) (Int32.ofNat l) (Int32.ofNat k) (zc w b C M r) = _
      unfold mX9_sweep_9 mX9_sweep_126
      simp (disch := omega) only [zqg_75_36, e36, Option.bind_some, zi_le]
      rw [if_neg (by omega)]
      simp (disch := omega) only [zqg_75_35, zqa_102, e35, zqg_75_29, zqg_75_30, zqa_97, e30, Option.bind_some]
      rw [zqs_96 o1 d2]
      simp (disch := omega) only [zqg_75_30, zqa_97, f30, Option.bind_some]
      rw [if_neg hSx, if_pos rfl, zi_lit, zi_add]
      exact h2
/-- what a change of the heap keeps of a thing -/
def zKm (M M' : zM) (t : Nat) : Prop := M'.1 31 t = M.1 31 t ∧ M'.1 32 t = M.1 32 t ∧ M'.1 33 t = M.1 33 t ∧ ∀ e, e < zgz M t → M'.2 37 (zgb M' t + e) = M.2 37 (zgb M t + e)
theorem zn_sweep {ν : Nat → Nat} {c ce0 : Nat} {S : Nat → Bool} (hN : 1700 < N) (hH : zHm M0 ν c ce0) (hS : ∀ t, t < 201 → M0.1 30 t = if S t = true then 1 else 0) :
    ∃ (M' : zM) (ν' : Nat → Nat) (c' ce' : Nat), zHM w b (mX9_sweep N (b + 75)) M0 id M' ∧ zHm M' ν' c' ce' ∧ (∀ x, (∃ i, i < c' ∧ ν' i = x) ↔ (S x = true ∧ ∃ i, i < c ∧ ν i = x)) ∧ (∀ x, (∃ i, i < c' ∧ ν' i = x) → zKm M0 M' x) ∧
      (∀ o x, o ≠ 29 → o ≠ 34 → o ≠ 35 → ¬ (o = 100 ∧ (x = 36 ∨ x = 38)) → M'.1 o x = M0.1 o x) ∧ ∀ o x, o ≠ 37 → M'.2 o x = M0.2 o x := by
  have hH' := hH
  obtain ⟨c1, c2, c3, c4, c5, c6, c7, c8, c9, c10⟩ := hH
  have z34 : ∀ t, zgb (zJ M0 100 38 (Int32.ofNat 0)) t = zgb M0 t := fun t => zgb_c (by rw [zJ1, if_neg (by omega)])
  obtain ⟨M', ψ', l', ce', hJ, hrun⟩ := zn_s9 (N := N) (w := w) (b := b) hN hH' hS c N 0 0 0 (zJ M0 100 38 (Int32.ofNat 0)) ν (by omega) (by omega) ⟨fun o x h1 h2 h3 h4 => by rw [zJ1, if_neg h4], fun _ _ _ => rfl, Nat.le_refl 0, Nat.zero_le c, by rw [zJ1, if_pos ⟨rfl, rfl⟩], fun j hj => absurd hj (Nat.not_lt_zero j), fun j _ h => by rw [zJ1, if_neg (by omega)]; exact (c5 j h).1, fun a _ h => absurd h (Nat.not_lt_zero a), fun x => ⟨fun ⟨j, hj, _⟩ => absurd hj (Nat.not_lt_zero j), fun ⟨_, j, hj, _⟩ => absurd hj (Nat.not_lt_zero j)⟩, fun j hj => absurd hj (Nat.not_lt_zero j), rfl, Nat.zero_le _, fun j hj => absurd hj (Nat.not_lt_zero j), fun j _ _ => ⟨z34 _, fun _ _ => rfl⟩, fun j hj => absurd hj (Nat.not_lt_zero j), fun t _ => by rw [zJ1, if_neg (by omega)]⟩
  obtain ⟨j1, j2, j3, j4, j5, j6, j7, j8, j9, j10, j11, j12, j13, j14, j15, j16⟩ := hJ
  have ob : ∀ t, zgb (zJ M' 100 36 (Int32.ofNat l')) t = zgb M' t := fun t => zgb_c (by rw [zJ1, if_neg (by omega)])
  have oz : ∀ t, zgz (zJ M' 100 36 (Int32.ofNat l')) t = zgz M0 t := fun t => zgz_c (by rw [zJ1, if_neg (by omega)]; exact j1 33 t (by decide) (by decide) (by decide) (by omega))
  have ef : (fun e => zgz (zJ M' 100 36 (Int32.ofNat l')) (ψ' e)) = fun e => zgz M0 (ψ' e) := funext fun e => oz _
  have back : ∀ i, i < l' → S (ψ' i) = true ∧ ∃ j, j < c ∧ ν j = ψ' i := fun i hi => (j9 (ψ' i)).1 ⟨i, hi, rfl⟩
  have al : ∀ t, t < 201 → (M'.1 29 t = 1 ∧ ∃ k, k < l' ∧ ψ' k = t) ∨ M'.1 29 t = 0 := fun t ht => by
    rcases c8 t ht with h | h
    · refine Or.inr ?_
      rw [j16 t fun j hj e => ?_]
      · exact h
      · have := (c5 j hj).2.2
        rw [e, h] at this
        exact absurd this (by decide)
    · obtain ⟨k, hk, e⟩ := c7 t ht h
      have := j15 k hk
      rw [e] at this
      by_cases hS : S t = true
      · rw [if_pos hS] at this
        exact Or.inl ⟨this, (j9 t).2 ⟨hS, k, hk, e⟩⟩
      · rw [if_neg hS] at this
        exact Or.inr this
  refine ⟨zJ M' 100 36 (Int32.ofNat l'), ψ', l', ce', fun C r => ?_, ⟨?_, ?_, by omega, by omega, fun i hi => ?_, j8, fun t ht h => ?_, fun t ht => ?_, fun i hi => ?_, ?_⟩, j9, fun x ⟨i, hi, e⟩ => ⟨?_, ?_, ?_, fun e' he => ?_⟩, fun o x h1 h2 h3 h4 => ?_, fun o x h1 => j2 o x h1⟩
  · have e := hrun C r
    unfold mX9_sweep mX9_sweep_0
    rw [zi_lit, zqp_75_38, Option.bind_some]
    exact e
  · rw [zJ1, if_pos ⟨rfl, rfl⟩]
  · rw [zJ1, if_neg (by omega)]; exact j5
  · rw [zJ1, if_neg (by omega), zJ1, if_neg (by omega)]
    obtain ⟨b1, j, b2, b3⟩ := back i hi
    refine ⟨j6 i hi, ?_, ?_⟩
    · rw [← b3]; exact (c5 j b2).2.1
    · have := j15 j b2
      rw [b3, if_pos b1] at this
      exact this
  · rw [zJ1, if_neg (by omega)] at h
    rcases al t ht with h1 | h1
    · exact h1.2
    · rw [h1] at h; exact absurd h (by decide)
  · rw [zJ1, if_neg (by omega)]
    rcases al t ht with h1 | h1
    · exact Or.inr h1.1
    · exact Or.inl h1
  · rw [ob, ef]; exact j10 i hi
  · rw [ef]; exact j11
  · rw [zJ1, if_neg (by omega)]; exact j1 31 x (by decide) (by decide) (by decide) (by omega)
  · rw [zJ1, if_neg (by omega)]; exact j1 32 x (by decide) (by decide) (by decide) (by omega)
  · rw [zJ1, if_neg (by omega)]; exact j1 33 x (by decide) (by decide) (by decide) (by omega)
  · subst e
    rw [ob, zJ2]
    exact j13 i hi e' he
  · rw [zJ1, if_neg (by omega)]
    exact j1 o x h1 h2 h3 (by omega)
end ZNS
