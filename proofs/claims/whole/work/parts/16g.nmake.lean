/-! ===== the reference makes a thing ===== -/
theorem zw_le {a b : Int64} : (lg_cmp a b ≤ 0) ↔ a ≤ b := by
  unfold lg_cmp
  by_cases c : b < a
  · rw [if_pos c]
    exact ⟨fun h => absurd h (by decide), fun h => absurd h (Int64.not_le.mpr c)⟩
  · rw [if_neg c]
    refine ⟨fun _ => Int64.not_lt.mp c, fun _ => ?_⟩
    by_cases d : a = b
    · rw [if_pos d]; decide
    · rw [if_neg d]; decide
theorem zl_le {a b : Nat} (ha : a < 2 ^ 63) (hb : b < 2 ^ 63) : (Int64.ofNat a ≤ Int64.ofNat b) = (a ≤ b) := propext (Int64.ofNat_le_iff_le ha hb)
theorem zl_lt {a b : Nat} (ha : a < 2 ^ 63) (hb : b < 2 ^ 63) : (Int64.ofNat a < Int64.ofNat b) = (a < b) := propext (Int64.ofNat_lt_iff_lt ha hb)
theorem zfirst {P : Nat → Prop} : ∀ n, (∃ t, t < n ∧ P t) → ∃ t, t < n ∧ P t ∧ ∀ s, s < t → ¬ P s
  | 0, ⟨t, h, _⟩ => absurd h (Nat.not_lt_zero t)
  | n + 1, ⟨t, h, hp⟩ => by
    by_cases c : ∃ t, t < n ∧ P t
    · obtain ⟨s, h1, h2, h3⟩ := zfirst n c
      exact ⟨s, by omega, h2, h3⟩
    · refine ⟨t, h, hp, fun s hs hq => c ⟨s, by omega, hq⟩⟩
theorem zwd_sz (so n : Nat) : n + 8 ≤ 4 * zwd so n ∧ 2 ≤ zwd so n ∧ zwd so n ≤ 2 + 2 * n := by
  unfold zwd
  by_cases c1 : so = 4 ∨ so = 8
  · rw [if_pos c1]; omega
  · rw [if_neg c1]
    by_cases c2 : so = 5 ∨ so = 9
    · rw [if_pos c2]; omega
    · rw [if_neg c2]
      by_cases c3 : so = 11
      · rw [if_pos c3]; omega
      · rw [if_neg c3]; omega
def zMz (M : zM) (a n : Nat) : zM := (M.1, fun o k => if o = 37 ∧ a ≤ k ∧ k < a + n then 0 else M.2 o k)
def zMn (M : zM) (t ty so n ce : Nat) : zM := zJ (zJ (zJ (zJ (zJ M 29 t 1) 31 t (Int32.ofNat ty)) 32 t (Int32.ofNat so)) 33 t (Int32.ofNat n)) 34 t (Int32.ofNat ce)
def zMa (M : zM) (t ty so n c ce : Nat) : zM := zJ (zJ (zJ (zMz (zMn M t ty so n ce) ce n) 100 38 (Int32.ofNat (ce + n))) 35 c (Int32.ofNat t)) 100 36 (Int32.ofNat (c + 1))
section ZNM
variable {N w b : Nat} {M : zM}
theorem zMz_0 {a : Nat} : zMz M a 0 = M := Prod.ext rfl (funext fun o => funext fun k => if_neg (by omega))
theorem zMz_s {a i : Nat} : zK (zMz M a i) 37 (a + i) 0 = zMz M a (i + 1) := Prod.ext rfl (funext fun o => funext fun k => by
  show (if o = 37 ∧ k = a + i then 0 else if o = 37 ∧ a ≤ k ∧ k < a + i then 0 else M.2 o k) = if o = 37 ∧ a ≤ k ∧ k < a + (i + 1) then 0 else M.2 o k
  by_cases c : o = 37 ∧ k = a + i
  · rw [if_pos c, if_pos ⟨c.1, by omega, by omega⟩]
  · rw [if_neg c]
    by_cases e : o = 37 ∧ a ≤ k ∧ k < a + i
    · rw [if_pos e, if_pos ⟨e.1, e.2.1, by omega⟩]
    · rw [if_neg e, if_neg (by omega)])
theorem zn_m138 {t n c ce : Nat} (h38 : M.1 100 38 = Int32.ofNat ce) (h36 : M.1 100 36 = Int32.ofNat c) (hc : c < 201) (hce : ce + n ≤ 1700) (ht : t < 201) :
    ∀ (m fuel k : Nat), k + m = n → m < fuel → ∀ (C : zC) (r : zv_X), mX9_make_138 N fuel (b + 75) (Int32.ofNat n) (Int32.ofNat t) (Int32.ofNat k) (zc w b C (zMz M ce k) r) = some (zc w b C (zJ (zJ (zJ (zMz M ce n) 100 38 (Int32.ofNat (ce + n))) 35 c (Int32.ofNat t)) 100 36 (Int32.ofNat (c + 1))) r, Int64.ofNat (t + 1)) := by
  have e38 : ∀ i, (zMz M ce i).1 100 38 = Int32.ofNat ce := fun i => h38
  have e36 : ∀ i v, (zJ (zMz M ce i) 100 38 v).1 100 36 = Int32.ofNat c := fun i v => by rw [zJ1, if_neg (by omega)]; exact h36
  have f36 : ∀ i v a v', (zJ (zJ (zMz M ce i) 100 38 v) 35 a v').1 100 36 = Int32.ofNat c := fun i v a v' => by rw [zJ1, if_neg (by omega)]; exact e36 i v
  intro m
  induction m with
  | zero =>
    intro fuel k hk hf C r
    obtain ⟨fuel, rfl⟩ : ∃ g, fuel = g + 1 := ⟨fuel - 1, by omega⟩
    have : k = n := by omega
    subst this
    unfold mX9_make_138
    simp (disch := omega) only [zi_le]
    rw [if_pos (Nat.le_refl _)]
    simp (disch := omega) only [zqg_75_38, e38, zqp_75_38, zqg_75_35, zqg_75_36, e36, f36, zqs_102, zqp_75_36, Option.bind_some, zi_lit, zi_add, zi_l64, zl_lit, zl_add]
  | succ m ih =>
    intro fuel k hk hf C r
    obtain ⟨fuel, rfl⟩ : ∃ g, fuel = g + 1 := ⟨fuel - 1, by omega⟩
    have e := ih fuel (k + 1) (by omega) (by omega) C r
    rw [← zMz_s] at e
    unfold mX9_make_138
    simp (disch := omega) only [zi_le]
    rw [if_neg (by omega)]
    simp (disch := omega) only [zqg_75_37, zqg_75_38, e38, zi_add, zqs_103, Option.bind_some, zi_lit]
    exact e
theorem zn_m76 {t ty so n ce c : Nat} (h38 : M.1 100 38 = Int32.ofNat ce) (h36 : M.1 100 36 = Int32.ofNat c) (hc : c < 201) (hce : ce + n ≤ 1700) (ht : t < 201) (h0 : M.1 29 t = 0) (hs : ∀ s, s < t → ¬ M.1 29 s = 0) (hN : 1700 < N) :
    ∀ (m fuel i : Nat), i + m = t → m < fuel → ∀ (C : zC) (r : zv_X), mX9_make_76 N fuel (b + 75) (Int32.ofNat ty) (Int32.ofNat so) (Int32.ofNat n) (Int32.ofNat i) (zc w b C M r) = some (zc w b C (zMa M t ty so n c ce) r, Int64.ofNat (t + 1)) := by
  intro m
  induction m with
  | zero =>
    intro fuel i hi hf C r
    obtain ⟨fuel, rfl⟩ : ∃ g, fuel = g + 1 := ⟨fuel - 1, by omega⟩
    have : i = t := by omega
    subst this
    have g38 : ∀ v1 v2 v3 v4, (zJ (zJ (zJ (zJ M 29 i v1) 31 i v2) 32 i v3) 33 i v4).1 100 38 = Int32.ofNat ce := fun v1 v2 v3 v4 => by
      rw [zJ1, if_neg (by omega), zJ1, if_neg (by omega), zJ1, if_neg (by omega), zJ1, if_neg (by omega)]; exact h38
    have n38 : (zMn M i ty so n ce).1 100 38 = Int32.ofNat ce := by unfold zMn; rw [zJ1, if_neg (by omega)]; exact g38 _ _ _ _
    have n36 : (zMn M i ty so n ce).1 100 36 = Int32.ofNat c := by
      unfold zMn
      rw [zJ1, if_neg (by omega), zJ1, if_neg (by omega), zJ1, if_neg (by omega), zJ1, if_neg (by omega), zJ1, if_neg (by omega)]; exact h36
    have e := zn_m138 (N := N) (w := w) (b := b) (M := zMn M i ty so n ce) (t := i) (n := n) (c := c) (ce := ce) n38 n36 hc hce ht n N 0 (by omega) (by omega) C r
    rw [zMz_0] at e
    unfold mX9_make_76
    simp (disch := omega) only [zqg_75_29, zqa_96, h0, Option.bind_some, if_true]
    rw [zqs_96 (Or.inr rfl) ht]
    simp (disch := omega) only [zqg_75_31, zqs_98, zqg_75_32, zqs_99, zqg_75_33, zqs_100, zqg_75_34, zqg_75_38, g38, zqs_101, Option.bind_some]
    exact e
  | succ m ih =>
    intro fuel i hi hf C r
    obtain ⟨fuel, rfl⟩ : ∃ g, fuel = g + 1 := ⟨fuel - 1, by omega⟩
    have e := ih fuel (i + 1) (by omega) (by omega) C r
    unfold mX9_make_76
    simp (disch := omega) only [zqg_75_29, zqa_96, Option.bind_some]
    rw [if_neg (hs i (by omega)), zi_lit, zi_add]
    exact e
theorem zHm.cong {M' : zM} {ν : Nat → Nat} {c ce : Nat} (h : zHm M ν c ce) (h1 : M'.1 100 36 = M.1 100 36) (h2 : M'.1 100 38 = M.1 100 38) (h3 : M'.1 35 = M.1 35) (h4 : M'.1 29 = M.1 29) (h5 : M'.1 34 = M.1 34) (h6 : M'.1 33 = M.1 33) : zHm M' ν c ce := by
  have e1 : zgb M' = zgb M := funext fun t => by unfold zgb; rw [h5]
  have e2 : zgz M' = zgz M := funext fun t => by unfold zgz; rw [h6]
  unfold zHm at h ⊢
  rw [h1, h2, h3, h4, e1, e2]
  exact h
theorem zn_free {ν : Nat → Nat} {c ce : Nat} (h : zHm M ν c ce) : ∃ t, t < 201 ∧ M.1 29 t = 0 ∧ ∀ s, s < t → ¬ M.1 29 s = 0 := by
  obtain ⟨c1, c2, c3, c4, c5, c6, c7, c8, c9, c10⟩ := h
  refine zfirst 201 ?_
  by_cases q : ∃ t, t < 201 ∧ M.1 29 t = 0
  · exact q
  · have all : ∀ t, t < 201 → M.1 29 t = 1 := fun t ht => by
      rcases c8 t ht with h | h
      · exact absurd ⟨t, ht, h⟩ q
      · exact h
    have := zs_bij (f := fun _ => 1) (g := fun _ => 1) (B := fun i y => i < c ∧ ν i = y) (n := c) (m := 201) (fun a x y h1 h2 => h1.2.symm.trans h2.2) (fun a a' y h1 h2 => c6 a a' h1.1 h2.1 (h1.2.trans h2.2.symm)) (fun i hi _ => ⟨ν i, (c5 i hi).2.1, ⟨hi, rfl⟩, rfl⟩) fun y hy _ => by
        obtain ⟨k, h1, h2⟩ := c7 y hy (all y hy)
        exact ⟨k, h1, ⟨h1, h2⟩, rfl⟩
    rw [zs_one, zs_one] at this
    omega
theorem zMa_37 {t ty so n c ce k : Nat} : (zMa M t ty so n c ce).2 37 k = if ce ≤ k ∧ k < ce + n then 0 else M.2 37 k := by
  show (if 37 = 37 ∧ ce ≤ k ∧ k < ce + n then 0 else _) = _
  by_cases e : ce ≤ k ∧ k < ce + n
  · rw [if_pos ⟨rfl, e⟩, if_pos e]
  · rw [if_neg (fun q => e q.2), if_neg e]
    rfl
theorem zMa_2 {t ty so n c ce o k : Nat} (h : o ≠ 37) : (zMa M t ty so n c ce).2 o k = M.2 o k := by
  show (if o = 37 ∧ ce ≤ k ∧ k < ce + n then 0 else _) = _
  rw [if_neg (fun q => h q.1)]
  rfl
theorem zMa_1 {t ty so n c ce o k : Nat} : (zMa M t ty so n c ce).1 o k = if o = 100 ∧ k = 36 then Int32.ofNat (c + 1) else if o = 35 ∧ k = c then Int32.ofNat t else if o = 100 ∧ k = 38 then Int32.ofNat (ce + n) else if o = 34 ∧ k = t then Int32.ofNat ce else if o = 33 ∧ k = t then Int32.ofNat n else if o = 32 ∧ k = t then Int32.ofNat so else if o = 31 ∧ k = t then Int32.ofNat ty else if o = 29 ∧ k = t then 1 else M.1 o k := rfl
theorem zMa_hm {ν : Nat → Nat} {t ty so n c ce : Nat} (h : zHm M ν c ce) (hc : c < 200) (hce : ce + n ≤ 1700) (ht : t < 201) (h0 : M.1 29 t = 0) : zHm (zMa M t ty so n c ce) (zset ν c t) (c + 1) (ce + n) ∧ zgb (zMa M t ty so n c ce) t = ce ∧ (∀ i, i < c → zKm M (zMa M t ty so n c ce) (ν i)) ∧ ∀ y, (zMa M t ty so n c ce).1 29 y = if y = t then 1 else M.1 29 y := by
  obtain ⟨c1, c2, c3, c4, c5, c6, c7, c8, c9, c10⟩ := h
  have n1 : ∀ i, i < c → ν i ≠ t := fun i hi e => by
    have := (c5 i hi).2.2
    rw [e, h0] at this
    exact absurd this (by decide)
  have al : ∀ y, (zMa M t ty so n c ce).1 29 y = if y = t then 1 else M.1 29 y := fun y => by
    rw [zMa_1, if_neg (by omega), if_neg (by omega), if_neg (by omega), if_neg (by omega), if_neg (by omega), if_neg (by omega), if_neg (by omega)]
    by_cases e : y = t
    · rw [if_pos ⟨rfl, e⟩, if_pos e]
    · rw [if_neg (fun q => e q.2), if_neg e]
  have o34 : ∀ y, y ≠ t → (zMa M t ty so n c ce).1 34 y = M.1 34 y := fun y hy => by
    rw [zMa_1, if_neg (by omega), if_neg (by omega), if_neg (by omega), if_neg (by omega), if_neg (by omega), if_neg (by omega), if_neg (by omega), if_neg (by omega)]
  have o33 : ∀ y, y ≠ t → (zMa M t ty so n c ce).1 33 y = M.1 33 y := fun y hy => by
    rw [zMa_1, if_neg (by omega), if_neg (by omega), if_neg (by omega), if_neg (by omega), if_neg (by omega), if_neg (by omega), if_neg (by omega), if_neg (by omega)]
  have b34 : zgb (zMa M t ty so n c ce) t = ce := by
    unfold zgb
    rw [zMa_1, if_neg (by omega), if_neg (by omega), if_neg (by omega), if_pos ⟨rfl, rfl⟩, zN_nat (by omega)]
  have b33 : zgz (zMa M t ty so n c ce) t = n := by
    unfold zgz
    rw [zMa_1, if_neg (by omega), if_neg (by omega), if_neg (by omega), if_neg (by omega), if_pos ⟨rfl, rfl⟩, zN_nat (by omega)]
  have hlow : ∀ a, a < c → zset ν c t a = ν a := fun a ha => if_neg (by omega)
  have hcc : zset ν c t c = t := if_pos rfl
  have hz : ∀ i, i < c → zgz (zMa M t ty so n c ce) (zset ν c t i) = zgz M (ν i) := fun i hi => by rw [hlow i hi]; exact zgz_c (o33 _ (n1 i hi))
  have hsum : ∀ a, a ≤ c → zs (fun e => zgz (zMa M t ty so n c ce) (zset ν c t e)) a = zs (fun e => zgz M (ν e)) a := fun a ha => zs_congr fun e he => hz e (by omega)
  refine ⟨⟨?_, ?_, by omega, hce, fun k hk => ?_, fun i j hi hj e => ?_, fun y hy h => ?_, fun y hy => ?_, fun k hk => ?_, ?_⟩, b34, fun i hi => ⟨?_, ?_, o33 _ (n1 i hi), fun e he => ?_⟩, al⟩
  · rw [zMa_1, if_pos ⟨rfl, rfl⟩]
  · rw [zMa_1, if_neg (by omega), if_neg (by omega), if_pos ⟨rfl, rfl⟩]
  · rw [zMa_1, if_neg (by omega), al]
    by_cases e : k = c
    · rw [if_pos ⟨rfl, e⟩, e, hcc, if_pos rfl]
      exact ⟨rfl, ht, rfl⟩
    · rw [if_neg (fun q => e q.2), hlow k (by omega), if_neg (n1 k (by omega)), if_neg (by omega), if_neg (by omega), if_neg (by omega), if_neg (by omega), if_neg (by omega), if_neg (by omega)]
      exact c5 k (by omega)
  · by_cases d : i = c
    · by_cases d' : j = c
      · omega
      · rw [d, hcc, hlow j (by omega)] at e
        exact absurd e.symm (n1 j (by omega))
    · by_cases d' : j = c
      · rw [d', hcc, hlow i (by omega)] at e
        exact absurd e (n1 i (by omega))
      · rw [hlow i (by omega), hlow j (by omega)] at e
        exact c6 i j (by omega) (by omega) e
  · rw [al] at h
    by_cases e : y = t
    · exact ⟨c, by omega, by rw [hcc, e]⟩
    · rw [if_neg e] at h
      obtain ⟨k, h1, h2⟩ := c7 y hy h
      exact ⟨k, by omega, by rw [hlow k h1, h2]⟩
  · rw [al]
    by_cases e : y = t
    · rw [if_pos e]; exact Or.inr rfl
    · rw [if_neg e]; exact c8 y hy
  · rw [hsum k (by omega)]
    by_cases e : k = c
    · rw [e, hcc, b34]; exact c10
    · rw [hlow k (by omega), ← c9 k (by omega)]
      exact zgb_c (o34 _ (n1 k (by omega)))
  · show ce + n = zs _ c + zgz (zMa M t ty so n c ce) (zset ν c t c)
    rw [hcc, b33, hsum c (Nat.le_refl c), c10]
  · rw [zMa_1, if_neg (by omega), if_neg (by omega), if_neg (by omega), if_neg (by omega), if_neg (by omega), if_neg (by omega), if_neg (fun q => n1 i hi q.2), if_neg (by omega)]
  · rw [zMa_1, if_neg (by omega), if_neg (by omega), if_neg (by omega), if_neg (by omega), if_neg (by omega), if_neg (fun q => n1 i hi q.2), if_neg (by omega), if_neg (by omega)]
  · have h2 : zs (fun j => zgz M (ν j)) (i + 1) ≤ zs (fun j => zgz M (ν j)) c := zs_mono (by omega)
    have h3 : zs (fun j => zgz M (ν j)) (i + 1) = zs (fun j => zgz M (ν j)) i + zgz M (ν i) := rfl
    have h4 := c9 i hi
    rw [zgb_c (M := zMa M t ty so n c ce) (M0 := M) (o34 _ (n1 i hi)), zMa_37, if_neg (by omega)]
theorem zKm.tr {M1 M2 : zM} {x : Nat} (h : zKm M M1 x) (h' : zKm M1 M2 x) : zKm M M2 x := ⟨h'.1.trans h.1, h'.2.1.trans h.2.1, h'.2.2.1.trans h.2.2.1, fun e he => (h'.2.2.2 e (by unfold zgz; rw [h.2.2.1]; exact he)).trans (h.2.2.2 e he)⟩
/-- the reference's make: no room, or a new thing -/
theorem zn_make {F ty so n c ce : Nat} {ν : Nat → Nat} (hN : 1700 < N) (hw : w ≤ 400) (hW : M.1 100 1 = Int32.ofNat w) (hH : zHm M ν c ce) (hF : M.1 100 47 = Int32.ofNat F) (hF16 : F ≤ 16) (hd : ∀ f, f < F → zN (M.1 42 f) ≤ 12)
    (hA : ∀ t, zRc (zgT M F) (zgr M) (zgz M) t → zgo M t ∧ M.1 29 t = 1) (hso : so ≤ 12) (hn : n < 2 ^ 31) :
    ∃ (σ : zS) (all : Nat), zFi 201 (zgW M) (zgT M F) (zgr M) (zgz M) σ all ∧
      (w < all + zwd so n → zHM w b (mX9_make N (b + 75) (Int32.ofNat ty) (Int32.ofNat so) (Int32.ofNat n)) M (fun x => (x, 0)) (zJ (zJ (zmS M σ) 100 48 3) 100 49 1)) ∧
      (all + zwd so n ≤ w → ∃ (M' : zM) (ν' : Nat → Nat) (c' ce' t : Nat), zHM w b (mX9_make N (b + 75) (Int32.ofNat ty) (Int32.ofNat so) (Int32.ofNat n)) M (fun x => (x, Int64.ofNat (t + 1))) M' ∧ zHm M' ν' c' ce' ∧ t < 201 ∧ σ.1 t ≠ true ∧
        (∀ y, σ.1 y = true → M'.1 29 y = 1 ∧ zKm M M' y) ∧ (∀ y, y < 201 → M'.1 29 y = 1 → y = t ∨ σ.1 y = true) ∧ M'.1 29 t = 1 ∧ M'.1 31 t = Int32.ofNat ty ∧ M'.1 32 t = Int32.ofNat so ∧ M'.1 33 t = Int32.ofNat n ∧ (∀ e, e < n → M'.2 37 (zgb M' t + e) = 0) ∧
        M'.1 100 52 = Int32.ofNat (all + zwd so n) ∧ M'.1 100 53 = (if Int32.ofNat (all + zwd so n) ≤ M.1 100 53 then M.1 100 53 else Int32.ofNat (all + zwd so n)) ∧
        (∀ o x, o ≠ 29 → o ≠ 30 → o ≠ 31 → o ≠ 32 → o ≠ 33 → o ≠ 34 → o ≠ 35 → o ≠ 39 → ¬ (o = 100 ∧ (x = 36 ∨ x = 38 ∨ x = 52 ∨ x = 53)) → M'.1 o x = M.1 o x) ∧ ∀ o x, o ≠ 37 → M'.2 o x = M.2 o x) := by
  obtain ⟨σ, all, hFi, hrun⟩ := zn_reach (N := N) (w := w) (b := b) hN hF hF16 hd fun t h => (hA t h).1
  have hFi' := hFi
  obtain ⟨f1, f2, f3, f4⟩ := hFi
  have hall : all ≤ 3402 * 201 := by
    rw [f4]
    have h1 : zws 201 (zgW M) σ.1 ≤ zs (fun _ => 3402 * 1) 201 := zs_le fun i hi => by
      show (if σ.1 i = true then zgW M i else 0) ≤ 3402 * 1
      by_cases e : σ.1 i = true
      · rw [if_pos e]
        have h2 := (hA i (f3 i e).2).1.2.1
        have h3 := (zwd_sz (zN (M.1 32 i)) (zN (M.1 33 i))).2.2
        unfold zgW
        omega
      · rw [if_neg e]; omega
    rw [zs_mul 3402 (f := fun _ => 1), zs_one] at h1
    exact h1
  have hwn := zwd_sz so n
  have eW := zk_wordsOf hso hn
  have start : ∀ (C : zC) (r : zv_X), mX9_make N (b + 75) (Int32.ofNat ty) (Int32.ofNat so) (Int32.ofNat n) (zc w b C M r) = if all + zwd so n ≤ w then ((zm_p (zc w b C (zmS M σ) r) (b + 75) 9 52 (.int (Int32.ofNat (all + zwd so n)))).bind fun x7 => (zm_I x7 (b + 75) 9 52).bind fun v9 => (zm_I x7 (b + 75) 9 53).bind fun v11 => if v9 ≤ v11 then ((zm_I x7 (b + 75) 9 53).bind fun v13 => mX9_make_66 N (b + 75) (Int32.ofNat ty) (Int32.ofNat so) (Int32.ofNat n) v13 (b + 75) x7) else ((zm_I x7 (b + 75) 9 52).bind fun v15 => mX9_make_66 N (b + 75) (Int32.ofNat ty) (Int32.ofNat so) (Int32.ofNat n) v15 (b + 75) x7)) else some (zc w b C (zJ (zJ (zmS M σ) 100 48 3) 100 49 1) r, 0) := by
    intro C r
    have e := hrun C r
    have eM : (zmS M σ).1 100 1 = Int32.ofNat w := by rw [zmS_o (by decide) (by decide)]; exact hW
    unfold mX9_make mX9_make_0
    rw [zqk_75, if_pos rfl, e, Option.bind_some]
    show ((mX9_wordsOf N (Int32.ofNat so) (Int32.ofNat n).toInt64 (zc w b C (zmS M σ) r)).bind _) = _
    rw [qX9_wordsOf, zi_l64 hn, eW, Option.map_some, Option.bind_some]
    simp only [zqg_75_1, eM, Option.bind_some, zl_add, zi_l64 (show w < 2 ^ 31 by omega), Int64.toInt32_ofNat']
    by_cases q : all + zwd so n ≤ w
    · rw [if_pos q, if_pos (zw_le.mpr (by rw [zl_le (by omega) (by omega)]; exact q))]
    · rw [if_neg q, if_neg (fun h => q (by have := zw_le.mp h; rw [zl_le (by omega) (by omega)] at this; exact this)), zqp_75_48, Option.bind_some, zqp_75_49, Option.bind_some]
  refine ⟨σ, all, hFi', fun h C r => by rw [start, if_neg (by omega)], fun h => ?_⟩
  -- the store behind the two numbers
  have hS30 : ∀ v v' t, t < 201 → (zJ (zJ (zmS M σ) 100 52 v) 100 53 v').1 30 t = if σ.1 t = true then 1 else 0 := fun v v' t ht => by
    rw [zJ1, if_neg (by omega), zJ1, if_neg (by omega), zmS_met ht]
  have row : ∀ v v' o, o ≠ 30 → o ≠ 39 → o ≠ 100 → (zJ (zJ (zmS M σ) 100 52 v) 100 53 v').1 o = M.1 o := fun v v' o h1 h2 h3 => funext fun k => by
    rw [zJ1, if_neg (fun q => h3 q.1), zJ1, if_neg (fun q => h3 q.1), zmS_o h1 h2]
  have fld : ∀ v v' k, k ≠ 52 → k ≠ 53 → (zJ (zJ (zmS M σ) 100 52 v) 100 53 v').1 100 k = M.1 100 k := fun v v' k h1 h2 => by
    rw [zJ1, if_neg (fun q => h2 q.2), zJ1, if_neg (fun q => h1 q.2), zmS_o (by decide) (by decide)]
  have mid : ∀ v', (v' = if Int32.ofNat (all + zwd so n) ≤ M.1 100 53 then M.1 100 53 else Int32.ofNat (all + zwd so n)) → ∃ (M' : zM) (ν' : Nat → Nat) (c' ce' t : Nat), zHM w b (mX9_make_66 N (b + 75) (Int32.ofNat ty) (Int32.ofNat so) (Int32.ofNat n) v' (b + 75)) (zJ (zmS M σ) 100 52 (Int32.ofNat (all + zwd so n))) (fun x => (x, Int64.ofNat (t + 1))) M' ∧ zHm M' ν' c' ce' ∧ t < 201 ∧ σ.1 t ≠ true ∧
        (∀ y, σ.1 y = true → M'.1 29 y = 1 ∧ zKm M M' y) ∧ (∀ y, y < 201 → M'.1 29 y = 1 → y = t ∨ σ.1 y = true) ∧ M'.1 29 t = 1 ∧ M'.1 31 t = Int32.ofNat ty ∧ M'.1 32 t = Int32.ofNat so ∧ M'.1 33 t = Int32.ofNat n ∧ (∀ e, e < n → M'.2 37 (zgb M' t + e) = 0) ∧
        M'.1 100 52 = Int32.ofNat (all + zwd so n) ∧ M'.1 100 53 = v' ∧
        (∀ o x, o ≠ 29 → o ≠ 30 → o ≠ 31 → o ≠ 32 → o ≠ 33 → o ≠ 34 → o ≠ 35 → o ≠ 39 → ¬ (o = 100 ∧ (x = 36 ∨ x = 38 ∨ x = 52 ∨ x = 53)) → M'.1 o x = M.1 o x) ∧ ∀ o x, o ≠ 37 → M'.2 o x = M.2 o x := by
    intro v' hv'
    have hH1 : zHm (zJ (zJ (zmS M σ) 100 52 (Int32.ofNat (all + zwd so n))) 100 53 v') ν c ce := hH.cong (fld _ _ _ (by decide) (by decide)) (fld _ _ _ (by decide) (by decide)) (row _ _ _ (by decide) (by decide) (by decide)) (row _ _ _ (by decide) (by decide) (by decide)) (row _ _ _ (by decide) (by decide) (by decide)) (row _ _ _ (by decide) (by decide) (by decide))
    obtain ⟨M1, ν1, c1, ce1, s1, s2, s3, s4, s5, s6⟩ := zn_sweep (N := N) (w := w) (b := b) (S := σ.1) hN hH1 (hS30 _ _)
    have s2' := s2
    obtain ⟨d1, d2, d3, d4, d5, d6, d7, d8, d9, d10⟩ := s2
    have hal : ∀ y, σ.1 y = true → ∃ i, i < c ∧ ν i = y := fun y hy => hH.2.2.2.2.2.2.1 y (f3 y hy).1 (hA y (f3 y hy).2).2
    have hin1 : ∀ y, σ.1 y = true ↔ ∃ i, i < c1 ∧ ν1 i = y := fun y => ⟨fun hy => (s3 y).2 ⟨hy, hal y hy⟩, fun hy => ((s3 y).1 hy).1⟩
    have kz : ∀ y, σ.1 y = true → zKm M M1 y := fun y hy => by
      obtain ⟨g1, g2, g3, g4⟩ := s4 y ((hin1 y).1 hy)
      have r1 := congrFun (row (Int32.ofNat (all + zwd so n)) v' 31 (by decide) (by decide) (by decide)) y
      have r2 := congrFun (row (Int32.ofNat (all + zwd so n)) v' 32 (by decide) (by decide) (by decide)) y
      have r3 := congrFun (row (Int32.ofNat (all + zwd so n)) v' 33 (by decide) (by decide) (by decide)) y
      have r4 := congrFun (row (Int32.ofNat (all + zwd so n)) v' 34 (by decide) (by decide) (by decide)) y
      refine ⟨g1.trans r1, g2.trans r2, g3.trans r3, fun e he => ?_⟩
      rw [g4 e (by rw [zgz_c r3]; exact he), zgb_c r4]
      rfl
    have sumW : zs (fun i => zgW M (ν1 i)) c1 = all := by
      rw [f4]
      refine zs_bij (B := fun i y => i < c1 ∧ ν1 i = y) (fun a x y h1 h2 => h1.2.symm.trans h2.2) (fun a a' y h1 h2 => d6 a a' h1.1 h2.1 (h1.2.trans h2.2.symm)) (fun i hi _ => ?_) fun y hy h0 => ?_
      · refine ⟨ν1 i, (d5 i hi).2.1, ⟨hi, rfl⟩, ?_⟩
        show (if σ.1 (ν1 i) = true then zgW M (ν1 i) else 0) = _
        rw [if_pos ((hin1 _).2 ⟨i, hi, rfl⟩)]
      · have hy1 : σ.1 y = true := by
          by_cases e : σ.1 y = true
          · exact e
          · exact absurd (if_neg e) h0
        obtain ⟨i, hi, he⟩ := (hin1 y).1 hy1
        refine ⟨i, hi, ⟨hi, he⟩, ?_⟩
        show zgW M (ν1 i) = if σ.1 y = true then zgW M y else 0
        rw [if_pos hy1, he]
    have zz : ∀ i, i < c1 → zgz M1 (ν1 i) + 8 ≤ 4 * zgW M (ν1 i) := fun i hi => by
      have h3 := (kz (ν1 i) ((hin1 _).2 ⟨i, hi, rfl⟩)).2.2.1
      rw [zgz_c h3]
      exact (zwd_sz (zN (M.1 32 (ν1 i))) (zN (M.1 33 (ν1 i)))).1
    have c2 : 2 * c1 ≤ all := by
      rw [← sumW, ← zs2]
      exact zs_le fun i hi => by have := zz i hi; omega
    have ce2 : ce1 ≤ 4 * all := by
      rw [← sumW, ← zs_mul 4, d10]
      exact zs_le fun i hi => by have := zz i hi; omega
    obtain ⟨t, t1, t2, t3⟩ := zn_free s2'
    obtain ⟨m1, m2, m3, m4⟩ := zMa_hm (ty := ty) (so := so) (n := n) s2' (by omega) (by omega) t1 t2
    have nS : σ.1 t ≠ true := fun e => by
      obtain ⟨i, hi, he⟩ := (hin1 t).1 e
      have := (d5 i hi).2.2
      rw [he, t2] at this
      exact absurd this (by decide)
    have fr : ∀ o x, o ≠ 29 → o ≠ 30 → o ≠ 31 → o ≠ 32 → o ≠ 33 → o ≠ 34 → o ≠ 35 → o ≠ 39 → ¬ (o = 100 ∧ (x = 36 ∨ x = 38)) → (zMa M1 t ty so n c1 ce1).1 o x = (zJ (zJ (zmS M σ) 100 52 (Int32.ofNat (all + zwd so n))) 100 53 v').1 o x := fun o x h1 h2 h3 h4 h5 h6 h7 h8 h9 => by
      rw [zMa_1, if_neg (by omega), if_neg (by omega), if_neg (by omega), if_neg (by omega), if_neg (by omega), if_neg (by omega), if_neg (by omega), if_neg (by omega)]
      exact s5 o x h1 h6 h7 h9
    refine ⟨zMa M1 t ty so n c1 ce1, zset ν1 c1 t, c1 + 1, ce1 + n, t, fun C r => ?_, m1, t1, nS, fun y hy => ?_, fun y hy h1 => ?_, ?_, ?_, ?_, ?_, fun e he => ?_, ?_, ?_, fun o x h1 h2 h3 h4 h5 h6 h7 h8 h9 => ?_, fun o x h1 => ?_⟩
    · have e1 := s1 C r
      have e2 := zn_m76 (N := N) (w := w) (b := b) (M := M1) (t := t) (ty := ty) (so := so) (n := n) d2 d1 (by omega) (by omega) t1 t2 t3 hN t N 0 (by omega) (by omega) C r
      unfold mX9_make_66
      rw [zqp_75_53, Option.bind_some, zqk_75, if_pos rfl]
      show ((mX9_sweep N (b + 75) (zc w b C (zJ (zJ (zmS M σ) 100 52 (Int32.ofNat (all + zwd so n))) 100 53 v') r)).bind _) = _
      rw [e1, Option.bind_some]
      exact e2
    · obtain ⟨i, hi, he⟩ := (hin1 y).1 hy
      refine ⟨?_, (kz y hy).tr (by rw [← he]; exact m3 i hi)⟩
      rw [m4, ← he]
      by_cases e : ν1 i = t
      · rw [if_pos e]
      · rw [if_neg e]; exact (d5 i hi).2.2
    · rw [m4] at h1
      by_cases e : y = t
      · exact Or.inl e
      · rw [if_neg e] at h1
        exact Or.inr ((hin1 y).2 (d7 y hy h1))
    · rw [m4, if_pos rfl]
    · rw [zMa_1, if_neg (by omega), if_neg (by omega), if_neg (by omega), if_neg (by omega), if_neg (by omega), if_neg (by omega), if_pos ⟨rfl, rfl⟩]
    · rw [zMa_1, if_neg (by omega), if_neg (by omega), if_neg (by omega), if_neg (by omega), if_neg (by omega), if_pos ⟨rfl, rfl⟩]
    · rw [zMa_1, if_neg (by omega), if_neg (by omega), if_neg (by omega), if_neg (by omega), if_pos ⟨rfl, rfl⟩]
    · rw [m2, zMa_37, if_pos ⟨by omega, by omega⟩]
    · rw [fr 100 52 (by decide) (by decide) (by decide) (by decide) (by decide) (by decide) (by decide) (by decide) (by decide), zJ1, if_neg (by decide), zJ1, if_pos ⟨rfl, rfl⟩]
    · rw [fr 100 53 (by decide) (by decide) (by decide) (by decide) (by decide) (by decide) (by decide) (by decide) (by decide), zJ1, if_pos ⟨rfl, rfl⟩]
    · rw [fr o x h1 h2 h3 h4 h5 h6 h7 h8 (by omega), zJ1, if_neg (by omega), zJ1, if_neg (by omega), zmS_o h2 h8]
    · rw [zMa_2 h1]; exact s6 o x h1
  have e53 : ∀ v, (zJ (zmS M σ) 100 52 v).1 100 53 = M.1 100 53 := fun v => by rw [zJ1, if_neg (by decide), zmS_o (by decide) (by decide)]
  have e52 : ∀ v, (zJ (zmS M σ) 100 52 v).1 100 52 = v := fun v => by rw [zJ1, if_pos ⟨rfl, rfl⟩]
  obtain ⟨M', ν', c', ce', t, g1, g2, g3, g4, g5, g6, g7, g8, g9, g10, g11, g12, g13, g14⟩ := mid _ rfl
  refine ⟨M', ν', c', ce', t, fun C r => ?_, g2, g3, g4, g5, g6, g7, g8, g9, g10, g11, g12, g13, g14⟩
  have e := g1 C r
  rw [start, if_pos h, zqp_75_52, Option.bind_some]
  simp only [zqg_75_52, zqg_75_53, e52, e53, Option.bind_some]
  by_cases q : Int32.ofNat (all + zwd so n) ≤ M.1 100 53
  · rw [if_pos q] at e ⊢
    exact e
  · rw [if_neg q] at e ⊢
    exact e
end ZNM
