/-! ===== the reference's search ===== -/
theorem zi_pred (k : Nat) : Int32.ofNat (k + 1) + (-1) = Int32.ofNat k := by
  rw [Int32.ofNat_add, Int32.add_assoc, show Int32.ofNat 1 + (-1) = 0 by decide, Int32.add_zero]
def zwd (so n : Nat) : Nat := if so = 4 ∨ so = 8 then 2 + (n + 3) / 4 else if so = 5 ∨ so = 9 then 2 + (n + 1) / 2 else if so = 11 then 2 + 2 * n else 2 + n
def zmS (M : zM) (σ : zS) : zM := (fun o k => if o = 30 ∧ k < 201 then (if σ.1 k = true then 1 else 0) else if o = 39 then Int32.ofNat (σ.2.1 k) else M.1 o k, M.2)
def zmC (M : zM) (i : Nat) : zM := (fun o k => if o = 30 ∧ k < i then 0 else M.1 o k, M.2)
/-- what a thing has at a place, as a value: 0 is nothing -/
def zgr (M : zM) (t k : Nat) : Nat := if zN (M.1 32 t) = 12 ∨ zN (M.1 32 t) = 0 ∧ M.1 4 (8 * zN (M.1 31 t) + k) = 3 then zN8 (M.2 37 (zN (M.1 34 t) + k)) else 0
def zgL (M : zM) (f k : Nat) : Nat := if M.1 44 (16 * f + k) = 3 then zN8 (M.2 43 (16 * f + k)) else 0
def zgS (M : zM) (f k : Nat) : Nat := if M.1 46 (12 * f + k) = 3 then zN8 (M.2 45 (12 * f + k)) else 0
def zgT (M : zM) (F t : Nat) : Prop := ∃ f, f < F ∧ ((∃ k, k < 16 ∧ zgL M f k = t + 1) ∨ ∃ k, k < zN (M.1 42 f) ∧ zgS M f k = t + 1)
def zgz (M : zM) (t : Nat) : Nat := zN (M.1 33 t)
def zgW (M : zM) (t : Nat) : Nat := zwd (zN (M.1 32 t)) (zN (M.1 33 t))
/-- a thing may be read -/
def zgo (M : zM) (t : Nat) : Prop := t < 201 ∧ zN (M.1 34 t) + zN (M.1 33 t) ≤ 1700 ∧ zN (M.1 31 t) < 30 ∧ zN (M.1 32 t) ≤ 12 ∧ (zN (M.1 32 t) = 0 → zN (M.1 33 t) ≤ 8)
theorem zl_add (a b : Nat) : Int64.ofNat a + Int64.ofNat b = Int64.ofNat (a + b) := (Int64.ofNat_add a b).symm
theorem zl_mul (a b : Nat) : Int64.ofNat a * Int64.ofNat b = Int64.ofNat (a * b) := (Int64.ofNat_mul a b).symm
theorem zl_div {a b : Nat} (ha : a < 2 ^ 63) (hb : b < 2 ^ 63) : Int64.ofNat a / Int64.ofNat b = Int64.ofNat (a / b) := (Int64.ofNat_div ha hb).symm
theorem zl_lit (n : Nat) : (OfNat.ofNat n : Int64) = Int64.ofNat (OfNat.ofNat n) := rfl
theorem zk_wordsOf {so n : Nat} (hs : so ≤ 12) (hn : n < 2 ^ 31) : pX9_wordsOf (Int32.ofNat so) (Int64.ofNat n) = some (Int64.ofNat (zwd so n)) := by
  have hk : so = 0 ∨ so = 1 ∨ so = 2 ∨ so = 3 ∨ so = 4 ∨ so = 5 ∨ so = 6 ∨ so = 7 ∨ so = 8 ∨ so = 9 ∨ so = 10 ∨ so = 11 ∨ so = 12 := by omega
  rcases hk with h | h | h | h | h | h | h | h | h | h | h | h | h <;> subst h <;> simp (decide := true) (disch := omega) only [pX9_wordsOf, pX9_wordsOf_0, pX9_wordsOf_11, pX9_wordsOf_36, pX9_wordsOf_71, zwd, zi_lit, zi_eq, if_true, if_false, ite_true, ite_false, zl_lit, zl_add, zl_mul, zl_div, reduceIte, Nat.reduceEqDiff, or_true, true_or, or_false, or_self]
section ZNR
variable {N w b F : Nat} {M : zM} {σ : zS}
theorem zmS_o {o k : Nat} (h : o ≠ 30) (h' : o ≠ 39) : (zmS M σ).1 o k = M.1 o k := by
  show (if o = 30 ∧ k < 201 then _ else if o = 39 then _ else _) = _
  rw [if_neg (fun q => h q.1), if_neg h']
theorem zmS_2 : (zmS M σ).2 = M.2 := rfl
theorem zmS_met {t : Nat} (h : t < 201) : (zmS M σ).1 30 t = if σ.1 t = true then 1 else 0 := if_pos ⟨rfl, h⟩
theorem zmS_pile {j : Nat} : (zmS M σ).1 39 j = Int32.ofNat (σ.2.1 j) := by
  show (if 39 = 30 ∧ j < 201 then (if σ.1 j = true then 1 else 0) else if 39 = 39 then Int32.ofNat (σ.2.1 j) else M.1 39 j) = _
  rw [if_neg (fun q => absurd q.1 (by decide)), if_pos rfl]
theorem zmS_add {t : Nat} (ht : t < 201) : zJ (zJ (zmS M σ) 30 t 1) 39 σ.2.2 (Int32.ofNat t) = zmS M (zup σ.1 t, zset σ.2.1 σ.2.2 t, σ.2.2 + 1) := by
  refine Prod.ext (funext fun o => funext fun k => ?_) rfl
  show (if o = 39 ∧ k = σ.2.2 then Int32.ofNat t else if o = 30 ∧ k = t then 1 else if o = 30 ∧ k < 201 then (if σ.1 k = true then 1 else 0) else if o = 39 then Int32.ofNat (σ.2.1 k) else M.1 o k) = if o = 30 ∧ k < 201 then (if zup σ.1 t k = true then 1 else 0) else if o = 39 then Int32.ofNat (zset σ.2.1 σ.2.2 t k) else M.1 o k
  unfold zup zset
  by_cases a : o = 30
  · subst a
    by_cases c : k = t
    · subst c; simp [ht]
    · simp [c]
  · by_cases a' : o = 39
    · subst a'
      by_cases c : k = σ.2.2
      · simp [c]
      · simp [c]
    · simp [a, a']
theorem zn_meet {v : Nat} (hv : v ≤ 201) (ht : σ.2.2 ≤ 201) : zHM w b (mX9_meet N (b + 75) (Int64.ofNat v) (Int32.ofNat σ.2.2)) (zmS M σ) (fun x => (x, Int32.ofNat (zme σ v).2.2)) (zmS M (zme σ v)) := by
  intro C r
  unfold mX9_meet mX9_meet_0 mX9_meet_21
  cases v with
  | zero =>
    rw [if_pos (by decide)]
    rfl
  | succ t =>
    have e : (Int64.ofNat (t + 1)).toInt32 - 1 = Int32.ofNat t := by rw [Int64.toInt32_ofNat', zi_lit, zi_sub (by omega)]; rfl
    rw [e, if_neg (by rw [zi_nn (by omega)]; exact id)]
    have hm : zm_aB (zc w b C (zmS M σ) r) (b + 97) (Int32.ofNat t) = some (if σ.1 t = true then 1 else 0) := by
      rw [zqa_97 (by omega), zmS_met (by omega)]
    rw [zqg_75_30, Option.bind_some, hm, Option.bind_some]
    by_cases c : σ.1 t = true
    · have e1 : zme σ (t + 1) = σ := if_pos c
      rw [if_pos c, if_neg (by decide), e1]
    · have e1 : zme σ (t + 1) = (zup σ.1 t, zset σ.2.1 σ.2.2 t, σ.2.2 + 1) := if_neg c
      rw [if_neg c, if_pos rfl, Option.bind_some, zqs_97 (Or.inr rfl) (by omega), Option.bind_some, zqg_75_39, Option.bind_some, zqs_104 (by omega), Option.bind_some, e1, zmS_add (by omega), zi_lit, zi_add]
theorem zme_top {v : Nat} (hv : v ≤ 201) (hc : σ.2.2 ≤ zws 201 (fun _ => 1) σ.1) : (zme σ v).2.2 ≤ zws 201 (fun _ => 1) (zme σ v).1 := by
  have := (zme_st' (n := 201) (P := fun _ => True) (σ := σ) (v := v) (fun u h => ⟨by omega, trivial⟩)).cnt
  omega
theorem zws201 {S : Nat → Bool} : zws 201 (fun _ => 1) S ≤ 201 := by
  have := zws_le (n := 201) (W := fun _ => 1) (S := S)
  rw [zs_one] at this
  exact this
theorem zn_r203 {Kt : Nat → Int32 → Int64 → zv_X → Option (zv_X × Int64)} {t : Nat} (hg : zgo M t) (hv : ∀ k, k < zgz M t → zgr M t k ≤ 201) (all : Int64) :
    ∀ (m fuel k : Nat) (σ : zS), k + m = zgz M t → m < fuel → σ.2.2 ≤ zws 201 (fun _ => 1) σ.1 → ∀ (C : zC) (r : zv_X), mX9_reach_203 Kt N fuel (b + 75) (Int32.ofNat σ.2.2) all (Int32.ofNat t) (Int32.ofNat k) (zc w b C (zmS M σ) r) = Kt (b + 75) (Int32.ofNat (zfo (zgr M t) k m σ).2.2) all (zc w b C (zmS M (zfo (zgr M t) k m σ)) r) := by
  obtain ⟨ht, hs, hcl, hso, h8⟩ := hg
  have e33 : ∀ σ : zS, (zmS M σ).1 33 t = Int32.ofNat (zgz M t) := fun σ => by rw [zmS_o (by decide) (by decide)]; exact (zN_of _).symm
  have e34 : ∀ σ : zS, (zmS M σ).1 34 t = Int32.ofNat (zN (M.1 34 t)) := fun σ => by rw [zmS_o (by decide) (by decide)]; exact (zN_of _).symm
  have e32 : ∀ σ : zS, (zmS M σ).1 32 t = Int32.ofNat (zN (M.1 32 t)) := fun σ => by rw [zmS_o (by decide) (by decide)]; exact (zN_of _).symm
  have e31 : ∀ σ : zS, (zmS M σ).1 31 t = Int32.ofNat (zN (M.1 31 t)) := fun σ => by rw [zmS_o (by decide) (by decide)]; exact (zN_of _).symm
  have hz : zgz M t = zN (M.1 33 t) := rfl
  intro m
  induction m with
  | zero =>
    intro fuel k σ hk hf hc C r
    obtain ⟨fuel, rfl⟩ : ∃ g, fuel = g + 1 := ⟨fuel - 1, by omega⟩
    unfold mX9_reach_203
    simp (disch := omega) only [zqg_75_33, zqa_100, e33, Option.bind_some, zi_le]
    rw [if_pos (by omega)]
    rfl
  | succ m ih =>
    intro fuel k σ hk hf hc C r
    obtain ⟨fuel, rfl⟩ : ∃ g, fuel = g + 1 := ⟨fuel - 1, by omega⟩
    have ihk := ih fuel (k + 1) (zme σ (zgr M t k)) (by omega) (by omega) (zme_top (hv k (by omega)) hc) C r
    have me := zn_meet (N := N) (w := w) (b := b) (M := M) (σ := σ) (v := zgr M t k) (hv k (by omega)) (Nat.le_trans hc zws201) C r
    have yes : zgr M t k = zN8 (M.2 37 (zN (M.1 34 t) + k)) → mX9_reach_259 Kt (mX9_reach_203 Kt N fuel) N (b + 75) (Int32.ofNat σ.2.2) all (Int32.ofNat t) (Int32.ofNat k) (zc w b C (zmS M σ) r) = Kt (b + 75) (Int32.ofNat (zfo (zgr M t) k (m + 1) σ).2.2) all (zc w b C (zmS M (zfo (zgr M t) k (m + 1) σ)) r) := by
      intro e
      have ev : Int64.ofNat (zgr M t k) = M.2 37 (zN (M.1 34 t) + k) := by rw [e, zN8_of]
      rw [ev] at me
      unfold mX9_reach_259 mX9_reach_264 mX9_reach_295
      rw [if_neg (by decide)]
      simp (disch := omega) only [zqg_75_37, zqg_75_34, zqa_101, e34, zi_add, zqa_103, zmS_2, Option.bind_some, zqk_75, if_true, me, zi_lit]
      exact ihk
    have no : zgr M t k = 0 → mX9_reach_263 Kt (mX9_reach_203 Kt N fuel) N (b + 75) (Int32.ofNat σ.2.2) all (Int32.ofNat t) (Int32.ofNat k) (zc w b C (zmS M σ) r) = Kt (b + 75) (Int32.ofNat (zfo (zgr M t) k (m + 1) σ).2.2) all (zc w b C (zmS M (zfo (zgr M t) k (m + 1) σ)) r) := by
      intro e
      rw [e] at ihk
      unfold mX9_reach_263 mX9_reach_264 mX9_reach_295
      rw [if_pos rfl]
      simp (disch := omega) only [zi_lit, zi_add]
      have e2 : zfo (zgr M t) k (m + 1) σ = zfo (zgr M t) (k + 1) m (zme σ 0) := by rw [← e]; rfl
      rw [e2]
      exact ihk
    unfold mX9_reach_203
    simp (disch := omega) only [zqg_75_33, zqa_100, e33, Option.bind_some, zi_le]
    rw [if_neg (by omega)]
    simp (disch := omega) only [zqg_75_32, zqa_99, e32, Option.bind_some, zi_lit, zi_eq]
    by_cases c : zN (M.1 32 t) = 12
    · rw [if_pos c]
      exact yes (if_pos (Or.inl c))
    · rw [if_neg c]
      by_cases c0 : zN (M.1 32 t) = 0
      · rw [if_pos c0]
        have h8' := h8 c0
        simp (disch := omega) only [zqg_75_4, zqg_75_31, zqa_98, e31, zi_mul, zi_add, zqa_78, Option.bind_some]
        rw [zmS_o (by decide) (by decide)]
        by_cases c3 : M.1 4 (8 * zN (M.1 31 t) + k) = Int32.ofNat 3
        · rw [if_pos c3]
          exact yes (if_pos (Or.inr ⟨c0, c3⟩))
        · rw [if_neg c3]
          exact no (if_neg (fun q => by rcases q with q | q; exact c q; exact c3 q.2))
      · rw [if_neg c0]
        exact no (if_neg (fun q => by rcases q with q | q; exact c q; exact c0 q.1))
/-- the state between two pops -/
def zIv (M : zM) (Rt : Nat → Prop) (σ : zS) (all d : Nat) : Prop :=
  (∀ t, Rt t → σ.1 t = true) ∧ (∀ t, σ.1 t = true → (∃ j, j < σ.2.2 ∧ σ.2.1 j = t) ∨ ∀ k v, k < zgz M t → zgr M t k = v + 1 → σ.1 v = true) ∧ (∀ t, σ.1 t = true → t < 201 ∧ zRc Rt (zgr M) (zgz M) t) ∧
  (∀ j, j < σ.2.2 → σ.2.1 j < 201 ∧ zRc Rt (zgr M) (zgz M) (σ.2.1 j)) ∧ all + zpw (zgW M) σ = zws 201 (zgW M) σ.1 ∧ d + σ.2.2 = zws 201 (fun _ => 1) σ.1
theorem zn_r164 {Rt : Nat → Prop} (hN : 1700 < N) (hA : ∀ t, zRc Rt (zgr M) (zgz M) t → zgo M t) : ∀ (e fuel : Nat) (σ : zS) (all d : Nat), d + e = 201 → e < fuel → zIv M Rt σ all d → ∃ (σ' : zS) (all' : Nat), zFi 201 (zgW M) Rt (zgr M) (zgz M) σ' all' ∧ ∀ (C : zC) (r : zv_X), mX9_reach_164 N fuel (b + 75) (Int32.ofNat σ.2.2) (Int64.ofNat all) (zc w b C (zmS M σ) r) = some (zc w b C (zmS M σ') r, Int64.ofNat all') := by
  have fin : ∀ (fuel : Nat) (σ : zS) (all d : Nat), 0 < fuel → σ.2.2 = 0 → zIv M Rt σ all d → ∃ (σ' : zS) (all' : Nat), zFi 201 (zgW M) Rt (zgr M) (zgz M) σ' all' ∧ ∀ (C : zC) (r : zv_X), mX9_reach_164 N fuel (b + 75) (Int32.ofNat σ.2.2) (Int64.ofNat all) (zc w b C (zmS M σ) r) = some (zc w b C (zmS M σ') r, Int64.ofNat all') := by
    intro fuel σ all d hf h0 hI
    obtain ⟨fuel, rfl⟩ : ∃ g, fuel = g + 1 := ⟨fuel - 1, by omega⟩
    obtain ⟨i1, i2, i3, i4, i5, i6⟩ := hI
    refine ⟨σ, all, ⟨i1, fun t ht => ?_, i3, ?_⟩, fun C r => ?_⟩
    · rcases i2 t ht with ⟨j, hj, _⟩ | h
      · omega
      · exact h
    · have : zpw (zgW M) σ = 0 := by unfold zpw; rw [h0]; rfl
      omega
    · unfold mX9_reach_164
      rw [h0, if_pos (by decide)]
  intro e
  induction e with
  | zero =>
    intro fuel σ all d hd hf hI
    have := hI.2.2.2.2.2
    have h2 := zws201 (S := σ.1)
    exact fin fuel σ all d hf (by omega) hI
  | succ e ih =>
    intro fuel σ all d hd hf hI
    by_cases h0 : σ.2.2 = 0
    · exact fin fuel σ all d (by omega) h0 hI
    · obtain ⟨fuel, rfl⟩ : ∃ g, fuel = g + 1 := ⟨fuel - 1, by omega⟩
      obtain ⟨i1, i2, i3, i4, i5, i6⟩ := hI
      obtain ⟨s, hs⟩ : ∃ s, σ.2.2 = s + 1 := ⟨σ.2.2 - 1, by omega⟩
      have h201 := zws201 (S := σ.1)
      obtain ⟨ht, hR⟩ := i4 s (by omega)
      have hg := hA _ hR
      have hv : ∀ k, k < zgz M (σ.2.1 s) → zgr M (σ.2.1 s) k ≤ 201 := fun k hk => by
        cases hq : zgr M (σ.2.1 s) k with
        | zero => omega
        | succ v => have := (hA v (hR.st hk hq)).1; omega
      have hz : zgz M (σ.2.1 s) = zN (M.1 33 (σ.2.1 s)) := rfl
      have hst := zfo_st (n := 201) (P := zRc Rt (zgr M) (zgz M)) (g := zgr M (σ.2.1 s)) (k := 0) (m := zgz M (σ.2.1 s)) (σ := (σ.1, σ.2.1, s)) (fun i _ hi u hu => ⟨(hA u (hR.st (by omega) hu)).1, hR.st (by omega) hu⟩)
      have cnt := hst.1.cnt
      obtain ⟨⟨b1, b2, b3, b4, b5, b6, b7⟩, hin⟩ := hst
      have hp : zpw (zgW M) σ = zpw (zgW M) (σ.1, σ.2.1, s) + zgW M (σ.2.1 s) := by unfold zpw; rw [hs]; rfl
      have hW : zws 201 (zgW M) (zfo (zgr M (σ.2.1 s)) 0 (zgz M (σ.2.1 s)) (σ.1, σ.2.1, s)).1 + zpw (zgW M) (σ.1, σ.2.1, s) = zws 201 (zgW M) σ.1 + zpw (zgW M) (zfo (zgr M (σ.2.1 s)) 0 (zgz M (σ.2.1 s)) (σ.1, σ.2.1, s)) := b7 (zgW M)
      have k1 : ∀ (C : zC) (r : zv_X), _ := zn_r203 (N := N) (w := w) (b := b) (Kt := mX9_reach_164 N fuel) hg hv (Int64.ofNat (all + zgW M (σ.2.1 s))) (zgz M (σ.2.1 s)) N 0 (σ.1, σ.2.1, s) (by omega) (by have := hg.2.1; omega) (by show s ≤ zws 201 (fun _ => 1) σ.1; omega)
      have hI2 : zIv M Rt (zfo (zgr M (σ.2.1 s)) 0 (zgz M (σ.2.1 s)) (σ.1, σ.2.1, s)) (all + zgW M (σ.2.1 s)) (d + 1) := by
        refine ⟨fun t h => b1 t (i1 t h), fun t h => ?_, fun t h => ?_, fun j hj => ?_, ?_, ?_⟩
        · rcases b5 t h with h | ⟨j, h1, h2, h3⟩
          · rcases i2 t h with ⟨j, h1, h2⟩ | h2
            · by_cases c : j = s
              · subst c
                exact Or.inr fun k v hk hkv => hin k v (Nat.zero_le k) (by rw [h2]; omega) (by rw [h2]; exact hkv)
              · refine Or.inl ⟨j, ?_, (b4 j (by show j < s; omega)).trans h2⟩
                have : s ≤ (zfo (zgr M (σ.2.1 s)) 0 (zgz M (σ.2.1 s)) (σ.1, σ.2.1, s)).2.2 := b3
                omega
            · exact Or.inr fun k v hk hkv => b1 v (h2 k v hk hkv)
          · exact Or.inl ⟨j, h2, h3⟩
        · rcases b2 t h with h | h
          · exact i3 t h
          · exact ⟨(hA t h).1, h⟩
        · by_cases c : j < s
          · rw [b4 j c]; exact i4 j (by omega)
          · exact b6 j (by show s ≤ j; omega) hj
        · omega
        · have : (zfo (zgr M (σ.2.1 s)) 0 (zgz M (σ.2.1 s)) (σ.1, σ.2.1, s)).2.2 + zws 201 (fun _ => 1) σ.1 = zws 201 (fun _ => 1) (zfo (zgr M (σ.2.1 s)) 0 (zgz M (σ.2.1 s)) (σ.1, σ.2.1, s)).1 + s := by
            have c2 : zws 201 (fun _ => 1) (zfo (zgr M (σ.2.1 s)) 0 (zgz M (σ.2.1 s)) (σ.1, σ.2.1, s)).1 + s = zws 201 (fun _ => 1) σ.1 + (zfo (zgr M (σ.2.1 s)) 0 (zgz M (σ.2.1 s)) (σ.1, σ.2.1, s)).2.2 := cnt
            omega
          omega
      obtain ⟨σ', all', hF, hrun⟩ := ih fuel (zfo (zgr M (σ.2.1 s)) 0 (zgz M (σ.2.1 s)) (σ.1, σ.2.1, s)) (all + zgW M (σ.2.1 s)) (d + 1) (by omega) (by omega) hI2
      refine ⟨σ', all', hF, fun C r => ?_⟩
      have e1 := k1 C r
      have e2 := hrun C r
      have e32 : (zmS M σ).1 32 (σ.2.1 s) = Int32.ofNat (zN (M.1 32 (σ.2.1 s))) := by rw [zmS_o (by decide) (by decide)]; exact (zN_of _).symm
      have e33 : (zmS M σ).1 33 (σ.2.1 s) = Int32.ofNat (zN (M.1 33 (σ.2.1 s))) := by rw [zmS_o (by decide) (by decide)]; exact (zN_of _).symm
      have hq := hg.2.1
      have eW := zk_wordsOf (so := zN (M.1 32 (σ.2.1 s))) (n := zN (M.1 33 (σ.2.1 s))) hg.2.2.2.1 (by omega)
      unfold mX9_reach_164
      rw [hs, if_neg (by simp (disch := omega) only [zi_lit, zi_le]; omega), zi_pred]
      simp (disch := omega) only [zqg_75_39, zqg_75_32, zqg_75_33, zqa_104, zmS_pile, zqa_99, zqa_100, e32, e33, Option.bind_some, zi_l64, qX9_wordsOf, eW, Option.map_some, zl_add]
      exact e1.trans e2
/-- roots on a stack -/
theorem zn_r100 {Kt : Nat → Int32 → Int64 → Int32 → zv_X → Option (zv_X × Int64)} {f : Nat} (hf16 : f < 16) (hd : zN (M.1 42 f) ≤ 12) (hv : ∀ k, k < zN (M.1 42 f) → zgS M f k ≤ 201) (all : Int64) :
    ∀ (m fuel k : Nat) (σ : zS), k + m = zN (M.1 42 f) → m < fuel → σ.2.2 ≤ zws 201 (fun _ => 1) σ.1 → ∀ (C : zC) (r : zv_X), mX9_reach_100 Kt N fuel (b + 75) (Int32.ofNat σ.2.2) all (Int32.ofNat f) (Int32.ofNat k) (zc w b C (zmS M σ) r) = Kt (b + 75) (Int32.ofNat (zfo (zgS M f) k m σ).2.2) all (Int32.ofNat (f + 1)) (zc w b C (zmS M (zfo (zgS M f) k m σ)) r) := by
  have e42 : ∀ σ : zS, (zmS M σ).1 42 f = Int32.ofNat (zN (M.1 42 f)) := fun σ => by rw [zmS_o (by decide) (by decide)]; exact (zN_of _).symm
  intro m
  induction m with
  | zero =>
    intro fuel k σ hk hf hc C r
    obtain ⟨fuel, rfl⟩ : ∃ g, fuel = g + 1 := ⟨fuel - 1, by omega⟩
    unfold mX9_reach_100
    simp (disch := omega) only [zqg_75_42, zqa_107, e42, Option.bind_some, zi_le, zi_lit, zi_add]
    rw [if_pos (by omega)]
    rfl
  | succ m ih =>
    intro fuel k σ hk hf hc C r
    obtain ⟨fuel, rfl⟩ : ∃ g, fuel = g + 1 := ⟨fuel - 1, by omega⟩
    have ihk := ih fuel (k + 1) (zme σ (zgS M f k)) (by omega) (by omega) (zme_top (hv k (by omega)) hc) C r
    have me := zn_meet (N := N) (w := w) (b := b) (M := M) (σ := σ) (v := zgS M f k) (hv k (by omega)) (Nat.le_trans hc zws201) C r
    unfold mX9_reach_100 mX9_reach_151
    simp (disch := omega) only [zqg_75_42, zqa_107, e42, Option.bind_some, zi_le]
    rw [if_neg (by omega)]
    simp (disch := omega) only [zqg_75_46, zi_lit, zi_mul, zi_add, zqa_111, Option.bind_some]
    rw [zmS_o (by decide) (by decide)]
    by_cases c : M.1 46 (12 * f + k) = Int32.ofNat 3
    · have ev : Int64.ofNat (zgS M f k) = M.2 45 (12 * f + k) := by unfold zgS; rw [if_pos (show M.1 46 (12 * f + k) = 3 from c), zN8_of]
      rw [ev] at me
      rw [if_pos c]
      simp (disch := omega) only [if_true, zqg_75_45, zqa_110, zmS_2, Option.bind_some, zqk_75, me]
      exact ihk
    · have ez : zgS M f k = 0 := by unfold zgS; exact if_neg c
      rw [if_neg c]
      have e2 : zfo (zgS M f) k (m + 1) σ = zfo (zgS M f) (k + 1) m (zme σ 0) := by rw [← ez]; rfl
      rw [ez] at ihk
      rw [e2]
      exact ihk
/-- roots in locals -/
theorem zn_r44 {Kt : Nat → Int32 → Int64 → Int32 → zv_X → Option (zv_X × Int64)} {f : Nat} (hf16 : f < 16) (hv : ∀ k, k < 16 → zgL M f k ≤ 201) (all : Int64) :
    ∀ (m fuel k : Nat) (σ : zS), k + m = 16 → m < fuel → σ.2.2 ≤ zws 201 (fun _ => 1) σ.1 → ∀ (C : zC) (r : zv_X), mX9_reach_44 Kt N fuel (b + 75) (Int32.ofNat σ.2.2) all (Int32.ofNat f) (Int32.ofNat k) (zc w b C (zmS M σ) r) = mX9_reach_100 Kt N N (b + 75) (Int32.ofNat (zfo (zgL M f) k m σ).2.2) all (Int32.ofNat f) (Int32.ofNat 0) (zc w b C (zmS M (zfo (zgL M f) k m σ)) r) := by
  intro m
  induction m with
  | zero =>
    intro fuel k σ hk hf hc C r
    obtain ⟨fuel, rfl⟩ : ∃ g, fuel = g + 1 := ⟨fuel - 1, by omega⟩
    unfold mX9_reach_44
    simp (disch := omega) only [Option.bind_some, zi_le, zi_lit, zi_add]
    rw [if_pos (by omega)]
    rfl
  | succ m ih =>
    intro fuel k σ hk hf hc C r
    obtain ⟨fuel, rfl⟩ : ∃ g, fuel = g + 1 := ⟨fuel - 1, by omega⟩
    have ihk := ih fuel (k + 1) (zme σ (zgL M f k)) (by omega) (by omega) (zme_top (hv k (by omega)) hc) C r
    have me := zn_meet (N := N) (w := w) (b := b) (M := M) (σ := σ) (v := zgL M f k) (hv k (by omega)) (Nat.le_trans hc zws201) C r
    unfold mX9_reach_44 mX9_reach_90
    simp (disch := omega) only [Option.bind_some, zi_lit, zi_le]
    rw [if_neg (by omega)]
    simp (disch := omega) only [zqg_75_44, zi_mul, zi_add, zqa_109, Option.bind_some]
    rw [zmS_o (by decide) (by decide)]
    by_cases c : M.1 44 (16 * f + k) = Int32.ofNat 3
    · have ev : Int64.ofNat (zgL M f k) = M.2 43 (16 * f + k) := by unfold zgL; rw [if_pos (show M.1 44 (16 * f + k) = 3 from c), zN8_of]
      rw [ev] at me
      rw [if_pos c]
      simp (disch := omega) only [if_true, zqg_75_43, zqa_108, zmS_2, Option.bind_some, zqk_75, me]
      exact ihk
    · have ez : zgL M f k = 0 := by unfold zgL; exact if_neg c
      rw [if_neg c]
      have e2 : zfo (zgL M f) k (m + 1) σ = zfo (zgL M f) (k + 1) m (zme σ 0) := by rw [← ez]; rfl
      rw [ez] at ihk
      rw [e2]
      exact ihk
theorem zfo_top {g : Nat → Nat} {m k : Nat} (h : ∀ i, k ≤ i → i < k + m → g i ≤ 201) (hc : σ.2.2 ≤ zws 201 (fun _ => 1) σ.1) : (zfo g k m σ).2.2 ≤ zws 201 (fun _ => 1) (zfo g k m σ).1 := by
  have := (zfo_st (n := 201) (P := fun _ => True) (σ := σ) (g := g) (k := k) (m := m) (fun i h1 h2 u h3 => ⟨by have := h i h1 h2; omega, trivial⟩)).1.cnt
  omega
/-- all frames' roots -/
def zfr (M : zM) : Nat → Nat → zS → zS
  | 0, _, σ => σ
  | n + 1, f, σ => zfr M n (f + 1) (zfo (zgS M f) 0 (zN (M.1 42 f)) (zfo (zgL M f) 0 16 σ))
theorem zn_r32 (hN : 17 < N) (hF : M.1 100 47 = Int32.ofNat F) (hF16 : F ≤ 16) (hd : ∀ f, f < F → zN (M.1 42 f) ≤ 12) (hv : ∀ t, zgT M F t → t < 201) (all : Int64) :
    ∀ (m fuel f : Nat) (σ : zS), f + m = F → m < fuel → σ.2.2 ≤ zws 201 (fun _ => 1) σ.1 → ∀ (C : zC) (r : zv_X), mX9_reach_32 N fuel (b + 75) (Int32.ofNat σ.2.2) all (Int32.ofNat f) (zc w b C (zmS M σ) r) = mX9_reach_164 N N (b + 75) (Int32.ofNat (zfr M m f σ).2.2) all (zc w b C (zmS M (zfr M m f σ)) r) := by
  have e47 : ∀ σ : zS, (zmS M σ).1 100 47 = Int32.ofNat F := fun σ => by rw [zmS_o (by decide) (by decide)]; exact hF
  intro m
  induction m with
  | zero =>
    intro fuel f σ hk hf hc C r
    obtain ⟨fuel, rfl⟩ : ∃ g, fuel = g + 1 := ⟨fuel - 1, by omega⟩
    unfold mX9_reach_32
    simp (disch := omega) only [zqg_75_47, e47, Option.bind_some, zi_le]
    rw [if_pos (by omega)]
    rfl
  | succ m ih =>
    intro fuel f σ hk hf hc C r
    obtain ⟨fuel, rfl⟩ : ∃ g, fuel = g + 1 := ⟨fuel - 1, by omega⟩
    have v1 : ∀ k, k < 16 → zgL M f k ≤ 201 := fun k hk => by
      cases hq : zgL M f k with
      | zero => omega
      | succ v => have := hv v ⟨f, by omega, Or.inl ⟨k, hk, hq⟩⟩; omega
    have v2 : ∀ k, k < zN (M.1 42 f) → zgS M f k ≤ 201 := fun k hk => by
      cases hq : zgS M f k with
      | zero => omega
      | succ v => have := hv v ⟨f, by omega, Or.inr ⟨k, hk, hq⟩⟩; omega
    have d12 := hd f (by omega)
    have c1 := zfo_top (σ := σ) (g := zgL M f) (k := 0) (m := 16) (fun i _ h => v1 i (by omega)) hc
    have c2 := zfo_top (σ := zfo (zgL M f) 0 16 σ) (g := zgS M f) (k := 0) (m := zN (M.1 42 f)) (fun i _ h => v2 i (by omega)) c1
    have e1 := zn_r44 (N := N) (w := w) (b := b) (Kt := mX9_reach_32 N fuel) (show f < 16 by omega) v1 all 16 N 0 σ (by omega) (by omega) hc C r
    have e2 := zn_r100 (N := N) (w := w) (b := b) (Kt := mX9_reach_32 N fuel) (show f < 16 by omega) d12 v2 all (zN (M.1 42 f)) N 0 (zfo (zgL M f) 0 16 σ) (by omega) (by omega) c1 C r
    have e3 := ih fuel (f + 1) (zfo (zgS M f) 0 (zN (M.1 42 f)) (zfo (zgL M f) 0 16 σ)) (by omega) (by omega) c2 C r
    unfold mX9_reach_32
    simp (disch := omega) only [zqg_75_47, e47, Option.bind_some, zi_le]
    rw [if_neg (by omega)]
    exact e1.trans (e2.trans e3)
theorem zfr_st : ∀ {m f : Nat} {σ : zS} {P : Nat → Prop}, (∀ g, f ≤ g → g < f + m → (∀ k u, k < 16 → zgL M g k = u + 1 → u < 201 ∧ P u) ∧ ∀ k u, k < zN (M.1 42 g) → zgS M g k = u + 1 → u < 201 ∧ P u) → zSt 201 P σ (zfr M m f σ) ∧ ∀ g u, f ≤ g → g < f + m → ((∃ k, k < 16 ∧ zgL M g k = u + 1) ∨ ∃ k, k < zN (M.1 42 g) ∧ zgS M g k = u + 1) → (zfr M m f σ).1 u = true
  | 0, f, σ, P, _ => ⟨zSt.rf, fun g u h1 h2 => by omega⟩
  | m + 1, f, σ, P, h => by
    obtain ⟨hL, hS⟩ := h f (Nat.le_refl f) (by omega)
    have s1 := zfo_st (n := 201) (P := P) (g := zgL M f) (k := 0) (m := 16) (σ := σ) (fun i _ h2 u hu => hL i u (by omega) hu)
    have s2 := zfo_st (n := 201) (P := P) (g := zgS M f) (k := 0) (m := zN (M.1 42 f)) (σ := zfo (zgL M f) 0 16 σ) (fun i _ h2 u hu => hS i u (by omega) hu)
    have ih := zfr_st (m := m) (f := f + 1) (σ := zfo (zgS M f) 0 (zN (M.1 42 f)) (zfo (zgL M f) 0 16 σ)) (P := P) (fun g h1 h2 => h g (by omega) (by omega))
    refine ⟨s1.1.tr (s2.1.tr ih.1), fun g u h1 h2 h3 => ?_⟩
    by_cases c : g = f
    · subst c
      refine ih.1.1 u ?_
      rcases h3 with ⟨k, a1, a2⟩ | ⟨k, a1, a2⟩
      · exact s2.1.1 u (s1.2 k u (Nat.zero_le k) (by omega) a2)
      · exact s2.2 k u (Nat.zero_le k) (by omega) a2
    · exact ih.2 g u (by omega) (by omega) h3
def zS0 (M : zM) : zS := (fun _ => false, fun k => zN (M.1 39 k), 0)
theorem zmC_end : zmC M 201 = zmS M (zS0 M) := by
  refine Prod.ext (funext fun o => funext fun k => ?_) rfl
  show (if o = 30 ∧ k < 201 then 0 else M.1 o k) = if o = 30 ∧ k < 201 then (if false = true then 1 else 0) else if o = 39 then Int32.ofNat (zN (M.1 39 k)) else M.1 o k
  by_cases c : o = 30 ∧ k < 201
  · rw [if_pos c, if_pos c, if_neg (by decide)]
  · rw [if_neg c, if_neg c]
    by_cases d : o = 39
    · rw [if_pos d, zN_of, d]
    · rw [if_neg d]
theorem zmC_0 : zmC M 0 = M := by
  refine Prod.ext (funext fun o => funext fun k => ?_) rfl
  exact if_neg (fun q => absurd q.2 (Nat.not_lt_zero k))
theorem zmC_s {i : Nat} : zJ (zmC M i) 30 i 0 = zmC M (i + 1) := by
  refine Prod.ext (funext fun o => funext fun k => ?_) rfl
  show (if o = 30 ∧ k = i then 0 else if o = 30 ∧ k < i then 0 else M.1 o k) = if o = 30 ∧ k < i + 1 then 0 else M.1 o k
  by_cases c : o = 30 ∧ k < i
  · rw [if_pos c, if_pos (show o = 30 ∧ k < i + 1 from ⟨c.1, by omega⟩)]
    by_cases d : o = 30 ∧ k = i
    · rw [if_pos d]
    · rw [if_neg d]
  · rw [if_neg c]
    by_cases d : o = 30 ∧ k = i
    · rw [if_pos d, if_pos (show o = 30 ∧ k < i + 1 from ⟨d.1, by omega⟩)]
    · rw [if_neg d, if_neg (fun q => by have := q.1; by_cases e : k = i; exact d ⟨this, e⟩; exact c ⟨this, by omega⟩)]
theorem zn_r7 : ∀ (m fuel i : Nat), i + m = 201 → m < fuel → ∀ (C : zC) (r : zv_X), mX9_reach_7 N fuel (b + 75) (Int32.ofNat 0) (Int64.ofNat 0) (Int32.ofNat i) (zc w b C (zmC M i) r) = mX9_reach_32 N N (b + 75) (Int32.ofNat 0) (Int64.ofNat 0) (Int32.ofNat 0) (zc w b C (zmC M 201) r) := by
  intro m
  induction m with
  | zero =>
    intro fuel i hi hf C r
    obtain ⟨fuel, rfl⟩ : ∃ g, fuel = g + 1 := ⟨fuel - 1, by omega⟩
    unfold mX9_reach_7
    simp (disch := omega) only [zi_lit, zi_le]
    rw [if_pos (by omega), show i = 201 by omega]
  | succ m ih =>
    intro fuel i hi hf C r
    obtain ⟨fuel, rfl⟩ : ∃ g, fuel = g + 1 := ⟨fuel - 1, by omega⟩
    have e := ih fuel (i + 1) (by omega) (by omega) C r
    unfold mX9_reach_7
    simp (disch := omega) only [zi_lit, zi_le]
    rw [if_neg (by omega), zqg_75_30, Option.bind_some, zqs_97 (n := i) (v := Int32.ofNat 0) (Or.inl rfl) (by omega), Option.bind_some, zi_add]
    exact (congrArg (fun q => mX9_reach_7 N fuel (b + 75) (Int32.ofNat 0) (Int64.ofNat 0) (Int32.ofNat (i + 1)) (zc w b C q r)) zmC_s).trans e
theorem zn_reach (hN : 1700 < N) (hF : M.1 100 47 = Int32.ofNat F) (hF16 : F ≤ 16) (hd : ∀ f, f < F → zN (M.1 42 f) ≤ 12) (hA : ∀ t, zRc (zgT M F) (zgr M) (zgz M) t → zgo M t) : ∃ (σ : zS) (all : Nat), zFi 201 (zgW M) (zgT M F) (zgr M) (zgz M) σ all ∧ zHM w b (mX9_reach N (b + 75)) M (fun x => (x, Int64.ofNat all)) (zmS M σ) := by
  have hr := zfr_st (M := M) (m := F) (f := 0) (σ := zS0 M) (P := zRc (zgT M F) (zgr M) (zgz M)) (fun g _ h2 => ⟨fun k u h3 h4 => by
    have : zRc (zgT M F) (zgr M) (zgz M) u := zRc.rt ⟨g, by omega, Or.inl ⟨k, h3, h4⟩⟩
    exact ⟨(hA u this).1, this⟩, fun k u h3 h4 => by
    have : zRc (zgT M F) (zgr M) (zgz M) u := zRc.rt ⟨g, by omega, Or.inr ⟨k, h3, h4⟩⟩
    exact ⟨(hA u this).1, this⟩⟩)
  obtain ⟨hst, hin⟩ := hr
  have cnt := hst.cnt
  have hz0 : ∀ W, zws 201 W (zS0 M).1 = 0 := fun W => zs_zero fun i _ => if_neg (show ¬ (false = true) by decide)
  have hp0 : ∀ W, zpw W (zS0 M) = 0 := fun W => rfl
  obtain ⟨b1, b2, b3, b4, b5, b6, b7⟩ := hst
  obtain ⟨σ', all', hFi, hrun⟩ := zn_r164 (N := N) (w := w) (b := b) (M := M) (Rt := zgT M F) hN hA 201 N (zfr M F 0 (zS0 M)) 0 0 (by omega) (by omega) ⟨fun t ⟨f, h1, h2⟩ => hin f t (Nat.zero_le f) (by omega) h2, fun t h => by
      rcases b5 t h with h | ⟨j, _, h2, h3⟩
      · exact absurd (show false = true from h) (by decide)
      · exact Or.inl ⟨j, h2, h3⟩, fun t h => by
      rcases b2 t h with h | h
      · exact absurd (show false = true from h) (by decide)
      · exact ⟨(hA t h).1, h⟩, fun j hj => b6 j (Nat.zero_le j) hj, by
      have := b7 (zgW M)
      rw [hz0, hp0] at this
      omega, by
      rw [hz0] at cnt
      have h0 : (zS0 M).2.2 = 0 := rfl
      omega⟩
  refine ⟨σ', all', hFi, fun C r => ?_⟩
  unfold mX9_reach mX9_reach_0
  have e1 := zn_r7 (N := N) (w := w) (b := b) (M := M) 201 N 0 (by omega) (by omega) C r
  rw [zmC_0, zmC_end] at e1
  have e2 := zn_r32 (N := N) (w := w) (b := b) (M := M) (F := F) (by omega) hF hF16 hd (fun t h => (hA t (zRc.rt h)).1) (Int64.ofNat 0) F N 0 (zS0 M) (by omega) (by omega) (Nat.zero_le _) C r
  exact e1.trans (e2.trans (hrun C r))
end ZNR
