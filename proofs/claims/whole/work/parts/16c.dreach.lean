/-! ===== the class's search ===== -/
def zcS (C : zC) (q : Int32) (σ : zS) : zC := (fun o k => if o = 20 ∧ 1 ≤ k ∧ σ.1 (k - 1) = true then q else if o = 22 then Int32.ofNat (σ.2.1 k + 1) else if o = 16 ∧ k = 10 then Int32.ofNat σ.2.2 else C.1 o k, C.2)
/-- handle u + 1: what it has at a place, its places, its words -/
abbrev zhb (C : zC) (tag k : Nat) : Prop := ((C.1 4 tag >>> (Int32.ofNat k &&& Int32.ofNat 31)) &&& Int32.ofNat 1) = Int32.ofNat 1
def zha (C : zC) (u : Nat) : Nat := zN (C.1 18 (u + 1))
def zht (C : zC) (u : Nat) : Int32 := C.1 17 (zha C u)
def zhW (C : zC) (u : Nat) : Nat := zN (C.1 19 (u + 1))
def zhz (C : zC) (u : Nat) : Nat := zhW C u - 2
def zhf (C : zC) (u k : Nat) : Nat := if zht C u = -12 ∨ (0 ≤ zht C u ∧ zhb C (zN (zht C u)) k) then zN (C.1 17 (zha C u + 2 + k)) else 0
def zhS (C : zC) (f k : Nat) : Nat := zN (C.1 (f + 140) k)
def zhT (C : zC) (F t : Nat) : Prop := ∃ f, f < F ∧ ∃ k, k < zN (C.1 (f + 100) 2) ∧ zhS C f k = t + 1
def zho (C : zC) (w u : Nat) : Prop := u < w / 2 ∧ zha C u + zhW C u ≤ w ∧ 2 ≤ zhW C u ∧ (0 ≤ zht C u → zN (zht C u) < 30 ∧ zhW C u ≤ 10)
theorem zfo_zero {g : Nat → Nat} : ∀ {m k : Nat} {σ : zS}, (∀ i, k ≤ i → i < k + m → g i = 0) → zfo g k m σ = σ
  | 0, _, _, _ => rfl
  | m + 1, k, σ, h => by
    show zfo g (k + 1) m (zme σ (g k)) = σ
    rw [h k (Nat.le_refl k) (by omega)]
    exact zfo_zero (m := m) (k := k + 1) (σ := σ) (fun i h1 h2 => h i (by omega) (by omega))
theorem zfo_topn {n : Nat} {σ : zS} {g : Nat → Nat} {m k : Nat} (h : ∀ i, k ≤ i → i < k + m → g i ≤ n) (hc : σ.2.2 ≤ zws n (fun _ => 1) σ.1) : (zfo g k m σ).2.2 ≤ zws n (fun _ => 1) (zfo g k m σ).1 := by
  have := (zfo_st (n := n) (P := fun _ => True) (σ := σ) (g := g) (k := k) (m := m) (fun i h1 h2 u h3 => ⟨by have := h i h1 h2; omega, trivial⟩)).1.cnt
  omega
theorem zme_topn {n : Nat} {σ : zS} {v : Nat} (hv : v ≤ n) (hc : σ.2.2 ≤ zws n (fun _ => 1) σ.1) : (zme σ v).2.2 ≤ zws n (fun _ => 1) (zme σ v).1 := by
  have := (zme_st' (n := n) (P := fun _ => True) (σ := σ) (v := v) (fun u h => ⟨by omega, trivial⟩)).cnt
  omega
section ZDR
variable {N w b : Nat} {C : zC} {r : zv_X} {q : Int32} {σ : zS}
theorem zcS_o {o k : Nat} (h1 : o ≠ 20) (h2 : o ≠ 22) (h3 : ¬ (o = 16 ∧ k = 10)) : (zcS C q σ).1 o k = C.1 o k := by
  show (if o = 20 ∧ 1 ≤ k ∧ σ.1 (k - 1) = true then _ else if o = 22 then _ else if o = 16 ∧ k = 10 then _ else _) = _
  rw [if_neg (fun e => h1 e.1), if_neg h2, if_neg h3]
theorem zcS_2 : (zcS C q σ).2 = C.2 := rfl
theorem zcS_in {u : Nat} : (zcS C q σ).1 20 (u + 1) = if σ.1 u = true then q else C.1 20 (u + 1) := by
  show (if 20 = 20 ∧ 1 ≤ u + 1 ∧ σ.1 (u + 1 - 1) = true then q else if 20 = 22 then Int32.ofNat (σ.2.1 (u + 1) + 1) else if 20 = 16 ∧ u + 1 = 10 then Int32.ofNat σ.2.2 else C.1 20 (u + 1)) = _
  rw [Nat.add_sub_cancel]
  by_cases c : σ.1 u = true
  · rw [if_pos ⟨rfl, by omega, c⟩, if_pos c]
  · rw [if_neg (fun e => c e.2.2), if_neg c, if_neg (by decide), if_neg (fun e => absurd e.1 (by decide))]
theorem zcS_l {j : Nat} : (zcS C q σ).1 22 j = Int32.ofNat (σ.2.1 j + 1) := by
  show (if 22 = 20 ∧ 1 ≤ j ∧ σ.1 (j - 1) = true then q else if 22 = 22 then Int32.ofNat (σ.2.1 j + 1) else if 22 = 16 ∧ j = 10 then Int32.ofNat σ.2.2 else C.1 22 j) = _
  rw [if_neg (fun e => absurd e.1 (by decide)), if_pos rfl]
theorem zcS_n : (zcS C q σ).1 16 10 = Int32.ofNat σ.2.2 := by
  show (if 16 = 20 ∧ 1 ≤ 10 ∧ σ.1 (10 - 1) = true then q else if 16 = 22 then Int32.ofNat (σ.2.1 10 + 1) else if 16 = 16 ∧ 10 = 10 then Int32.ofNat σ.2.2 else C.1 16 10) = _
  rw [if_neg (fun e => absurd e.1 (by decide)), if_neg (by decide), if_pos ⟨rfl, rfl⟩]
theorem zcS_add {u : Nat} : zI (zI (zI (zcS C q σ) 20 (u + 1) q) 22 σ.2.2 (Int32.ofNat (u + 1))) 16 10 (Int32.ofNat (σ.2.2 + 1)) = zcS C q (zup σ.1 u, zset σ.2.1 σ.2.2 u, σ.2.2 + 1) := by
  refine Prod.ext (funext fun o => funext fun k => ?_) rfl
  show (if o = 16 ∧ k = 10 then Int32.ofNat (σ.2.2 + 1) else if o = 22 ∧ k = σ.2.2 then Int32.ofNat (u + 1) else if o = 20 ∧ k = u + 1 then q else if o = 20 ∧ 1 ≤ k ∧ σ.1 (k - 1) = true then q else if o = 22 then Int32.ofNat (σ.2.1 k + 1) else if o = 16 ∧ k = 10 then Int32.ofNat σ.2.2 else C.1 o k) =
    if o = 20 ∧ 1 ≤ k ∧ (if k - 1 = u then true else σ.1 (k - 1)) = true then q else if o = 22 then Int32.ofNat ((if k = σ.2.2 then u else σ.2.1 k) + 1) else if o = 16 ∧ k = 10 then Int32.ofNat (σ.2.2 + 1) else C.1 o k
  by_cases a : o = 20
  · subst a
    by_cases c : k = u + 1
    · subst c; simp
    · by_cases c1 : 1 ≤ k
      · have : k - 1 ≠ u := by omega
        simp [c, c1, this]
      · simp [c, c1]
  · by_cases a' : o = 22
    · subst a'
      by_cases c : k = σ.2.2
      · simp [c]
      · simp [c]
    · simp [a, a']
      by_cases c : o = 16 ∧ k = 10
      · simp [c]
      · simp [c]
theorem zd_reach {v : Nat} (hw : w ≤ 400) (hv : v ≤ w / 2) (hs : C.1 16 9 = q) (hq : ∀ u, u < w / 2 → C.1 20 (u + 1) ≠ q) (hc : σ.2.2 ≤ zws (w / 2) (fun _ => 1) σ.1) : zHC w b (mX2_reach N (b + 16) (Int32.ofNat v)) (zcS C q σ) r id (zcS C q (zme σ v)) r := by
  intro M
  unfold mX2_reach mX2_reach_0 mX2_reach_17
  have es : (zcS C q σ).1 16 9 = q := by rw [zcS_o (by decide) (by decide) (by omega)]; exact hs
  cases v with
  | zero => rw [if_pos (show Int32.ofNat 0 = 0 from rfl)]; rfl
  | succ u =>
    rw [if_neg (by rw [zi_lit, zi_eq (by omega) (by omega)]; omega), zqg_16_4, Option.bind_some, zqa_20 hw (by omega), Option.bind_some, zqg_16_9, Option.bind_some, es, zcS_in]
    by_cases c : σ.1 u = true
    · have e1 : zme σ (u + 1) = σ := if_pos c
      rw [if_pos c, if_pos rfl, e1]
      rfl
    · have e1 : zme σ (u + 1) = (zup σ.1 u, zset σ.2.1 σ.2.2 u, σ.2.2 + 1) := if_neg c
      have hk := zme_cnt (n := w / 2) (σ := σ) (v := u) (by omega) c
      rw [if_neg c, if_neg (hq u (by omega)), Option.bind_some, Option.bind_some, zqs_20 hw (by omega), Option.bind_some, zqg_16_6, Option.bind_some, zqg_16_10, Option.bind_some]
      have e2 : (zI (zcS C q σ) 20 (u + 1) q).1 16 10 = Int32.ofNat σ.2.2 := by rw [zI1, if_neg (by omega), zcS_n]
      rw [e2, zqs_22 hw (by omega), Option.bind_some, zqg_16_10, Option.bind_some, zqp_16_10, Option.bind_some]
      have e3 : (zI (zI (zcS C q σ) 20 (u + 1) q) 22 σ.2.2 (Int32.ofNat (u + 1))).1 16 10 = Int32.ofNat σ.2.2 := by rw [zI1, if_neg (by omega), e2]
      rw [e3, zi_lit, zi_add, zcS_add, e1]
      rfl
theorem zd_show {f : Nat} (hw : w ≤ 400) (hf16 : f < 16) (hs : C.1 16 9 = q) (hq : ∀ u, u < w / 2 → C.1 20 (u + 1) ≠ q) (ht : zN (C.1 (f + 100) 2) ≤ 28) (hv : ∀ k, k < zN (C.1 (f + 100) 2) → zhS C f k ≤ w / 2) :
    ∀ (m fuel k : Nat) (σ : zS), k + m = zN (C.1 (f + 100) 2) → m < fuel → σ.2.2 ≤ zws (w / 2) (fun _ => 1) σ.1 → zHC w b (mX1_showReferences_2 N fuel (b + (3 * f + 27)) (b + 16) (Int32.ofNat k)) (zcS C q σ) r id (zcS C q (zfo (zhS C f) k m σ)) r := by
  have e2 : ∀ σ : zS, (zcS C q σ).1 (f + 100) 2 = Int32.ofNat (zN (C.1 (f + 100) 2)) := fun σ => by rw [zcS_o (by omega) (by omega) (by omega)]; exact (zN_of _).symm
  intro m
  induction m with
  | zero =>
    intro fuel k σ hk hf hc M
    obtain ⟨fuel, rfl⟩ : ∃ g, fuel = g + 1 := ⟨fuel - 1, by omega⟩
    unfold mX1_showReferences_2
    simp (disch := omega) only [zqgF_2, e2, Option.bind_some, zi_le]
    rw [if_pos (by omega)]
    rfl
  | succ m ih =>
    intro fuel k σ hk hf hc M
    obtain ⟨fuel, rfl⟩ : ∃ g, fuel = g + 1 := ⟨fuel - 1, by omega⟩
    have hvk := hv k (by omega)
    have ihk := ih fuel (k + 1) (zme σ (zhS C f k)) (by omega) (by omega) (zme_topn hvk hc) M
    have me := zd_reach (N := N) (w := w) (b := b) (C := C) (r := r) (σ := σ) hw hvk hs hq hc M
    have e4 : (zcS C q σ).1 (f + 140) k = Int32.ofNat (zhS C f k) := by rw [zcS_o (by omega) (by omega) (by omega)]; exact (zN_of _).symm
    unfold mX1_showReferences_2
    simp (disch := omega) only [zqgF_2, e2, Option.bind_some, zi_le]
    rw [if_neg (by omega)]
    simp (disch := omega) only [zqgF_1, zqaF_2, e4, Option.bind_some, zqk_16, if_true, me, zi_lit, zi_add, id]
    exact ihk
def zhr (C : zC) : Nat → Nat → zS → zS
  | 0, _, σ => σ
  | n + 1, f, σ => zhr C n (f + 1) (zfo (zhS C f) 0 (zN (C.1 (f + 100) 2)) σ)
theorem zhr_st {n : Nat} : ∀ {m f : Nat} {σ : zS} {P : Nat → Prop}, (∀ g, f ≤ g → g < f + m → ∀ k u, k < zN (C.1 (g + 100) 2) → zhS C g k = u + 1 → u < n ∧ P u) → zSt n P σ (zhr C m f σ) ∧ ∀ g u, f ≤ g → g < f + m → (∃ k, k < zN (C.1 (g + 100) 2) ∧ zhS C g k = u + 1) → (zhr C m f σ).1 u = true
  | 0, f, σ, P, _ => ⟨zSt.rf, fun g u h1 h2 => by omega⟩
  | m + 1, f, σ, P, h => by
    have hS := h f (Nat.le_refl f) (by omega)
    have s2 := zfo_st (n := n) (P := P) (g := zhS C f) (k := 0) (m := zN (C.1 (f + 100) 2)) (σ := σ) (fun i _ h2 u hu => hS i u (by omega) hu)
    have ih := zhr_st (m := m) (f := f + 1) (σ := zfo (zhS C f) 0 (zN (C.1 (f + 100) 2)) σ) (P := P) (fun g h1 h2 => h g (by omega) (by omega))
    refine ⟨s2.1.tr ih.1, fun g u h1 h2 h3 => ?_⟩
    by_cases c : g = f
    · subst c
      obtain ⟨k, a1, a2⟩ := h3
      exact ih.1.1 u (s2.2 k u (Nat.zero_le k) (by omega) a2)
    · exact ih.2 g u (by omega) (by omega) h3
/-- what a handle has in turn -/
theorem zd_what {u : Nat} (hw : w ≤ 400) (hs : C.1 16 9 = q) (hq : ∀ u, u < w / 2 → C.1 20 (u + 1) ≠ q) (hg : zho C w u) (hv : ∀ k, k < zhz C u → zhf C u k ≤ w / 2) (hT : zht C u = -12 ∨ 0 ≤ zht C u) :
    ∀ (m fuel k : Nat) (σ : zS), k + m = zhz C u → m < fuel → σ.2.2 ≤ zws (w / 2) (fun _ => 1) σ.1 → zHC w b (mX2_reachWhatHas_41 N fuel (b + 16) (Int32.ofNat (zha C u + 2)) (Int32.ofNat (zhz C u)) (zht C u) (Int32.ofNat k)) (zcS C q σ) r id (zcS C q (zfo (zhf C u) k m σ)) r := by
  obtain ⟨hu, h1, h2, h3⟩ := hg
  have hz : zhz C u = zhW C u - 2 := rfl
  intro m
  induction m with
  | zero =>
    intro fuel k σ hk hf hc M
    obtain ⟨fuel, rfl⟩ : ∃ g, fuel = g + 1 := ⟨fuel - 1, by omega⟩
    unfold mX2_reachWhatHas_41
    simp (disch := omega) only [zi_le]
    rw [if_pos (by omega)]
    rfl
  | succ m ih =>
    intro fuel k σ hk hf hc M
    obtain ⟨fuel, rfl⟩ : ∃ g, fuel = g + 1 := ⟨fuel - 1, by omega⟩
    have hvk := hv k (by omega)
    have ihk := ih fuel (k + 1) (zme σ (zhf C u k)) (by omega) (by omega) (zme_topn hvk hc) M
    have me := zd_reach (N := N) (w := w) (b := b) (C := C) (r := r) (σ := σ) hw hvk hs hq hc M
    have e4 : (zcS C q σ).1 17 (zha C u + 2 + k) = Int32.ofNat (zN (C.1 17 (zha C u + 2 + k))) := by rw [zcS_o (by omega) (by omega) (by omega)]; exact (zN_of _).symm
    have yes : zhf C u k = zN (C.1 17 (zha C u + 2 + k)) → mX2_reachWhatHas_67 (mX2_reachWhatHas_41 N fuel) N (b + 16) (Int32.ofNat (zha C u + 2)) (Int32.ofNat (zhz C u)) (zht C u) (Int32.ofNat k) (zc w b (zcS C q σ) M r) = some (zc w b (zcS C q (zfo (zhf C u) k (m + 1) σ)) M r) := by
      intro e
      have me2 : mX2_reach N (b + 16) (Int32.ofNat (zN (C.1 17 (zha C u + 2 + k)))) (zc w b (zcS C q σ) M r) = some (zc w b (zcS C q (zme σ (zhf C u k))) M r) := by rw [← e]; exact me
      unfold mX2_reachWhatHas_67 mX2_reachWhatHas_80
      simp (disch := omega) only [zqg_16_1, zi_add, zqa_17 hw, e4, Option.bind_some, zqk_16, if_true, me2, zi_lit]
      exact ihk
    have no : zhf C u k = 0 → mX2_reachWhatHas_80 (mX2_reachWhatHas_41 N fuel) N (b + 16) (Int32.ofNat (zha C u + 2)) (Int32.ofNat (zhz C u)) (zht C u) (Int32.ofNat k) (zc w b (zcS C q σ) M r) = some (zc w b (zcS C q (zfo (zhf C u) k (m + 1) σ)) M r) := by
      intro e
      have e2 : zfo (zhf C u) k (m + 1) σ = zfo (zhf C u) (k + 1) m (zme σ 0) := by rw [← e]; rfl
      rw [e] at ihk
      unfold mX2_reachWhatHas_80
      rw [zi_lit, zi_add, e2]
      exact ihk
    unfold mX2_reachWhatHas_41
    simp (disch := omega) only [zi_le]
    rw [if_neg (by omega)]
    by_cases c : zht C u = -12
    · rw [if_pos (by rw [c]; decide)]
      exact yes (if_pos (Or.inl c))
    · have c0 : 0 ≤ zht C u := by rcases hT with h | h; exact absurd h c; exact h
      obtain ⟨t30, w10⟩ := h3 c0
      rw [if_neg (Int32.not_lt.mpr c0)]
      have eR : (zcS C q σ).1 4 (zN (zht C u)) = C.1 4 (zN (zht C u)) := zcS_o (by decide) (by decide) (by omega)
      have et : zht C u = Int32.ofNat (zN (zht C u)) := (zN_of _).symm
      have eA : zm_aI (zc w b (zcS C q σ) M r) (b + 4) (zht C u) = some (C.1 4 (zN (zht C u))) := by
        have := zqa_4 (w := w) (b := b) (C := zcS C q σ) (M := M) (r := r) t30
        rw [← et, eR] at this
        exact this
      unfold mX7_kindOfField mX7_kindOfField_0 mX7_kindOfField_19
      simp only [zqg_16_0, zqk_1, zqg_1_2, eA, Option.bind_some, if_true, zi_lit]
      by_cases c3 : zhb C (zN (zht C u)) k
      · have c3' := c3
        unfold zhb at c3'
        rw [if_pos c3', Option.bind_some, if_pos (show Int32.ofNat 3 = Int32.ofNat 3 from rfl)]
        exact yes (if_pos (Or.inr ⟨c0, c3⟩))
      · have c3' := c3
        unfold zhb at c3'
        rw [if_neg c3', Option.bind_some, if_neg (show ¬ Int32.ofNat 1 = Int32.ofNat 3 by decide)]
        exact no (if_neg (fun e => by rcases e with e | e; exact c e; exact c3 e.2))
theorem zd_whatHas {u : Nat} (hN : 400 < N) (hw : w ≤ 400) (hs : C.1 16 9 = q) (hq : ∀ u, u < w / 2 → C.1 20 (u + 1) ≠ q) (hg : zho C w u) (hv : ∀ k, k < zhz C u → zhf C u k ≤ w / 2) (hc : σ.2.2 ≤ zws (w / 2) (fun _ => 1) σ.1) : zHC w b (mX2_reachWhatHas N (b + 16) (Int32.ofNat (u + 1))) (zcS C q σ) r id (zcS C q (zfo (zhf C u) 0 (zhz C u) σ)) r := by
  intro M
  have hg' := hg
  obtain ⟨hu, h1, h2, h3⟩ := hg
  have e18 : (zcS C q σ).1 18 (u + 1) = Int32.ofNat (zha C u) := by rw [zcS_o (by decide) (by decide) (by omega)]; exact (zN_of _).symm
  have e19 : (zcS C q σ).1 19 (u + 1) = Int32.ofNat (zhW C u) := by rw [zcS_o (by decide) (by decide) (by omega)]; exact (zN_of _).symm
  have e17 : (zcS C q σ).1 17 (zha C u) = zht C u := zcS_o (by decide) (by decide) (by omega)
  have hz : zhz C u = zhW C u - 2 := rfl
  unfold mX2_reachWhatHas mX2_reachWhatHas_0 mX2_tag mX2_tag_0 mX2_reachWhatHas_38
  simp (disch := omega) only [zqg_16_1, zqg_16_2, zqg_16_3, zqa_18 hw, zqa_19 hw, zqa_17 hw, e18, e19, e17, Option.bind_some, zqk_16, if_true]
  have run : zht C u = -12 ∨ 0 ≤ zht C u → mX2_reachWhatHas_41 N N (b + 16) (Int32.ofNat (zha C u) + 2) (Int32.ofNat (zhW C u) - 2) (zht C u) 0 (zc w b (zcS C q σ) M r) = some (id (zc w b (zcS C q (zfo (zhf C u) 0 (zhz C u) σ)) M r)) := fun hT => by
    have := zd_what (N := N) (w := w) (b := b) (C := C) (r := r) (q := q) (u := u) hw hs hq hg' hv hT (zhz C u) N 0 σ (by omega) (by omega) hc M
    rw [show (Int32.ofNat (zha C u) + 2 : Int32) = Int32.ofNat (zha C u + 2) from zi_add _ 2, show (Int32.ofNat (zhW C u) - 2 : Int32) = Int32.ofNat (zhz C u) from zi_sub h2]
    exact this
  by_cases c0 : 0 ≤ zht C u
  · rw [if_pos c0]
    exact run (Or.inr c0)
  · rw [if_neg c0]
    by_cases c : zht C u = -12
    · rw [if_pos c]
      exact run (Or.inl c)
    · rw [if_neg c]
      have : zfo (zhf C u) 0 (zhz C u) σ = σ := zfo_zero fun i _ _ => if_neg (fun e => by rcases e with e | e; exact c e; exact c0 e.1)
      rw [this]
      rfl
/-- the state between two of the list -/
def zIw (C : zC) (n : Nat) (Rt : Nat → Prop) (σ : zS) (i : Nat) : Prop :=
  (∀ t, Rt t → σ.1 t = true) ∧ (∀ t, σ.1 t = true → ∃ j, j < σ.2.2 ∧ σ.2.1 j = t) ∧ (∀ t, σ.1 t = true → t < n ∧ zRc Rt (zhf C) (zhz C) t) ∧ (∀ j, j < σ.2.2 → σ.2.1 j < n ∧ zRc Rt (zhf C) (zhz C) (σ.2.1 j)) ∧
  (∀ j, j < i → ∀ k v, k < zhz C (σ.2.1 j) → zhf C (σ.2.1 j) k = v + 1 → σ.1 v = true) ∧ i ≤ σ.2.2 ∧ zpw (zhW C) σ = zws n (zhW C) σ.1 ∧ σ.2.2 = zws n (fun _ => 1) σ.1
theorem zd_rw4 {Rt : Nat → Prop} (hN : 400 < N) (hw : w ≤ 400) (hs : C.1 16 9 = q) (hq : ∀ u, u < w / 2 → C.1 20 (u + 1) ≠ q) (hA : ∀ t, zRc Rt (zhf C) (zhz C) t → zho C w t) : ∀ (e fuel i : Nat) (σ : zS), i + e = w / 2 → e < fuel → zIw C (w / 2) Rt σ i → ∃ (σ' : zS) (all : Nat), zFi (w / 2) (zhW C) Rt (zhf C) (zhz C) σ' all ∧ zHC w b (mX2_reachedWords_4 N fuel (b + 16) (Int32.ofNat (zs (fun j => zhW C (σ.2.1 j)) i)) (Int32.ofNat i)) (zcS C q σ) r (fun x => (x, Int32.ofNat all)) (zcS C q σ') r := by
  have le : ∀ S : Nat → Bool, zws (w / 2) (fun _ => 1) S ≤ w / 2 := fun S => by
    have := zws_le (n := w / 2) (W := fun _ => 1) (S := S)
    rw [zs_one] at this
    exact this
  have fin : ∀ (fuel i : Nat) (σ : zS), 0 < fuel → i ≤ w / 2 → i = σ.2.2 → zIw C (w / 2) Rt σ i → ∃ (σ' : zS) (all : Nat), zFi (w / 2) (zhW C) Rt (zhf C) (zhz C) σ' all ∧ zHC w b (mX2_reachedWords_4 N fuel (b + 16) (Int32.ofNat (zs (fun j => zhW C (σ.2.1 j)) i)) (Int32.ofNat i)) (zcS C q σ) r (fun x => (x, Int32.ofNat all)) (zcS C q σ') r := by
    intro fuel i σ hf hi h0 hI
    obtain ⟨fuel, rfl⟩ : ∃ g, fuel = g + 1 := ⟨fuel - 1, by omega⟩
    obtain ⟨i1, i2, i3, i4, i5, i6, i7, i8⟩ := hI
    refine ⟨σ, zs (fun j => zhW C (σ.2.1 j)) i, ⟨i1, fun t ht => ?_, i3, ?_⟩, fun M => ?_⟩
    · obtain ⟨j, hj, e⟩ := i2 t ht
      subst e
      exact i5 j (by omega)
    · rw [h0]; exact i7
    · unfold mX2_reachedWords_4 mX2_reachedWords_51
      simp (disch := omega) only [zqg_16_6, zqn_22, zqg_16_10, zcS_n, Option.bind_some, zi_le]
      by_cases c : w / 2 ≤ i
      · rw [if_pos c]
      · rw [if_neg c, if_pos (by omega)]
  intro e
  induction e with
  | zero =>
    intro fuel i σ hi hf hI
    have := hI.2.2.2.2.2.2.2
    have h2 := le σ.1
    have := hI.2.2.2.2.2.1
    exact fin fuel i σ hf (by omega) (by omega) hI
  | succ e ih =>
    intro fuel i σ hi hf hI
    by_cases h0 : i = σ.2.2
    · exact fin fuel i σ (by omega) (by omega) h0 hI
    · obtain ⟨fuel, rfl⟩ : ∃ g, fuel = g + 1 := ⟨fuel - 1, by omega⟩
      obtain ⟨i1, i2, i3, i4, i5, i6, i7, i8⟩ := hI
      have h201 := le σ.1
      obtain ⟨ht, hR⟩ := i4 i (by omega)
      have hg := hA _ hR
      have hv : ∀ k, k < zhz C (σ.2.1 i) → zhf C (σ.2.1 i) k ≤ w / 2 := fun k hk => by
        cases hz : zhf C (σ.2.1 i) k with
        | zero => omega
        | succ v => have := (hA v (hR.st hk hz)).1; omega
      have hst := zfo_st (n := w / 2) (P := zRc Rt (zhf C) (zhz C)) (g := zhf C (σ.2.1 i)) (k := 0) (m := zhz C (σ.2.1 i)) (σ := σ) (fun j _ hj u hu => ⟨(hA u (hR.st (by omega) hu)).1, hR.st (by omega) hu⟩)
      have cnt := hst.1.cnt
      obtain ⟨⟨b1, b2, b3, b4, b5, b6, b7⟩, hin⟩ := hst
      have k1 := zd_whatHas (N := N) (w := w) (b := b) (C := C) (r := r) (σ := σ) hN hw hs hq hg hv (by omega)
      have hi' : (zfo (zhf C (σ.2.1 i)) 0 (zhz C (σ.2.1 i)) σ).2.1 i = σ.2.1 i := b4 i (by omega)
      have hsum : zs (fun j => zhW C ((zfo (zhf C (σ.2.1 i)) 0 (zhz C (σ.2.1 i)) σ).2.1 j)) (i + 1) = zs (fun j => zhW C (σ.2.1 j)) i + zhW C (σ.2.1 i) := by
        show zs _ i + zhW C ((zfo (zhf C (σ.2.1 i)) 0 (zhz C (σ.2.1 i)) σ).2.1 i) = _
        rw [hi']
        refine congrArg (· + zhW C (σ.2.1 i)) (zs_congr fun j hj => ?_)
        rw [b4 j (by omega)]
      have hI2 : zIw C (w / 2) Rt (zfo (zhf C (σ.2.1 i)) 0 (zhz C (σ.2.1 i)) σ) (i + 1) := by
        refine ⟨fun t h => b1 t (i1 t h), fun t h => ?_, fun t h => ?_, fun j hj => ?_, fun j hj k v hk hkv => ?_, by omega, ?_, by omega⟩
        · rcases b5 t h with h | ⟨j, h1, h2, h3⟩
          · obtain ⟨j, h1, h2⟩ := i2 t h
            exact ⟨j, by omega, (b4 j h1).trans h2⟩
          · exact ⟨j, h2, h3⟩
        · rcases b2 t h with h | h
          · exact i3 t h
          · exact ⟨(hA t h).1, h⟩
        · by_cases c : j < σ.2.2
          · rw [b4 j c]; exact i4 j c
          · exact b6 j (by omega) hj
        · rw [b4 j (by omega)] at hk hkv
          by_cases c : j = i
          · subst c
            exact hin k v (Nat.zero_le k) (by omega) hkv
          · exact b1 v (i5 j (by omega) k v hk hkv)
        · have := b7 (zhW C)
          omega
      obtain ⟨σ', all', hF, hrun⟩ := ih fuel (i + 1) (zfo (zhf C (σ.2.1 i)) 0 (zhz C (σ.2.1 i)) σ) (by omega) (by omega) hI2
      refine ⟨σ', all', hF, fun M => ?_⟩
      have e1 := k1 M
      have e2 := hrun M
      rw [hsum] at e2
      have e19 : (zcS C q σ).1 19 (σ.2.1 i + 1) = Int32.ofNat (zhW C (σ.2.1 i)) := by rw [zcS_o (by decide) (by decide) (by omega)]; exact (zN_of _).symm
      unfold mX2_reachedWords_4
      simp (disch := omega) only [zqg_16_6, zqn_22, zqg_16_10, zcS_n, Option.bind_some, zi_le]
      rw [if_neg (by omega), if_neg (by omega)]
      simp (disch := omega) only [zqg_16_3, zqa_22 hw, zqa_19 hw, zcS_l, e19, Option.bind_some, zqk_16, if_true, e1, zi_add, zi_lit, id]
      exact e2
/-- the frames' roots, one frame after the other -/
theorem zd_m10 {f0 : Nat} (hN : 28 < N) (hw : w ≤ 400) (hs : C.1 16 9 = q) (hq : ∀ u, u < w / 2 → C.1 20 (u + 1) ≠ q) (hd : C.1 15 6 = Int32.ofNat f0) (hf0 : f0 < 16) (ht : ∀ f, f ≤ f0 → zN (C.1 (f + 100) 2) ≤ 28) (hv : ∀ f, f ≤ f0 → ∀ k, k < zN (C.1 (f + 100) 2) → zhS C f k ≤ w / 2) (tag len : Int32) (wan : Int64) :
    ∀ (m fuel f : Nat) (σ : zS), f + m = f0 + 1 → m < fuel → σ.2.2 ≤ zws (w / 2) (fun _ => 1) σ.1 → ∃ g, ∀ M : zM, mX4_make_10 N fuel (b + 15) tag len wan (Int32.ofNat f) (zc w b (zcS C q σ) M r) = mX4_make_10 N (g + 1) (b + 15) tag len wan (Int32.ofNat (f0 + 1)) (zc w b (zcS C q (zhr C m f σ)) M r) := by
  intro m
  induction m with
  | zero =>
    intro fuel f σ hk hf hc
    refine ⟨fuel - 1, fun M => ?_⟩
    rw [show fuel - 1 + 1 = fuel by omega, show f = f0 + 1 by omega]
    rfl
  | succ m ih =>
    intro fuel f σ hk hf hc
    obtain ⟨fuel, rfl⟩ : ∃ g, fuel = g + 1 := ⟨fuel - 1, by omega⟩
    have htf := ht f (by omega)
    have hvf := hv f (by omega)
    obtain ⟨g, hg⟩ := ih fuel (f + 1) (zfo (zhS C f) 0 (zN (C.1 (f + 100) 2)) σ) (by omega) (by omega) (zfo_topn (fun i _ h => hvf i (by omega)) hc)
    refine ⟨g, fun M => ?_⟩
    have e1 := zd_show (N := N) (w := w) (b := b) (C := C) (r := r) (f := f) hw (by omega) hs hq htf hvf (zN (C.1 (f + 100) 2)) N 0 σ (by omega) (by omega) hc M
    have e6 : (zcS C q σ).1 15 6 = Int32.ofNat f0 := by rw [zcS_o (by decide) (by decide) (by omega)]; exact hd
    have eS : mX1_showReferences N (b + (3 * f + 27)) (b + 16) (zc w b (zcS C q σ) M r) = some (zc w b (zcS C q (zfo (zhS C f) 0 (zN (C.1 (f + 100) 2)) σ)) M r) := e1
    rw [mX4_make_10]
    simp (disch := omega) only [zqg_15_6, e6, Option.bind_some, zi_lt]
    rw [if_neg (by omega)]
    simp (disch := omega) only [zqg_15_4, zqa_23, zqg_15_2, zqkF, Option.bind_some, if_true, eS, zi_lit, zi_add]
    exact hg M
end ZDR
