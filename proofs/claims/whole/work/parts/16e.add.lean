/-! ===== the class's heap: one more ===== -/
def zAd (C : zC) (x u tp wn : Nat) (tag len : Int32) : zC := zI (zI (zI (zFill (zI (zI (zI C 16 7 (Int32.ofNat (u + 1))) 18 (x + 1) (Int32.ofNat tp)) 19 (x + 1) (Int32.ofNat wn)) 17 tp wn) 17 tp tag) 17 (tp + 1) len) 16 8 (Int32.ofNat (tp + wn))
section ZAD
variable {N w b : Nat} {C : zC} {r : zv_X}
theorem zFill_0 {o i : Nat} : zFill C o i 0 = C := Prod.ext (funext fun p => funext fun k => if_neg (by omega)) rfl
theorem zFill_s {o i m : Nat} : zFill (zI C o i 0) o (i + 1) m = zFill C o i (m + 1) := Prod.ext (funext fun p => funext fun k => by
  show (if p = o ∧ i + 1 ≤ k ∧ k < i + 1 + m then 0 else if p = o ∧ k = i then 0 else C.1 p k) = if p = o ∧ i ≤ k ∧ k < i + (m + 1) then 0 else C.1 p k
  by_cases c : p = o ∧ i + 1 ≤ k ∧ k < i + 1 + m
  · rw [if_pos c, if_pos (by omega)]
  · rw [if_neg c]
    by_cases d : p = o ∧ k = i
    · rw [if_pos d, if_pos (by omega)]
    · rw [if_neg d, if_neg (by omega)]) rfl
theorem zd_fill10 {M : zM} {a o L : Nat} (hset : ∀ (C : zC) (n : Nat), n < L → zm_sI (zc w b C M r) a (Int32.ofNat n) 0 = some (zc w b (zI C o n 0) M r)) (hL : L ≤ 400) : ∀ (m fuel i e : Nat) (C : zC), i + m = e → e ≤ L → m < fuel → mJ7_fill_fda19_10 N fuel a (Int32.ofNat e) 0 (Int32.ofNat i) (zc w b C M r) = some (zc w b (zFill C o i m) M r) := by
  intro m
  induction m with
  | zero =>
    intro fuel i e C h1 h2 hf
    obtain ⟨fuel, rfl⟩ : ∃ g, fuel = g + 1 := ⟨fuel - 1, by omega⟩
    unfold mJ7_fill_fda19_10
    rw [if_pos (by rw [zi_le (by omega) (by omega)]; omega), zFill_0]
  | succ m ih =>
    intro fuel i e C h1 h2 hf
    obtain ⟨fuel, rfl⟩ : ∃ g, fuel = g + 1 := ⟨fuel - 1, by omega⟩
    have e1 := ih fuel (i + 1) e (zI C o i 0) (by omega) h2 (by omega)
    rw [zFill_s] at e1
    unfold mJ7_fill_fda19_10
    rw [if_neg (by rw [zi_le (by omega) (by omega)]; omega), hset C i (by omega), Option.bind_some, ← e1, show (Int32.ofNat i + 1 : Int32) = Int32.ofNat (i + 1) from zi_add i 1]
theorem zd_fill {M : zM} {a o L i m : Nat} (hset : ∀ (C : zC) (n : Nat), n < L → zm_sI (zc w b C M r) a (Int32.ofNat n) 0 = some (zc w b (zI C o n 0) M r)) (hn : zm_n (zc w b C M r) a = some (Int32.ofNat L)) (hL : L ≤ 400) (h : i + m ≤ L) (hN : 400 < N) : mJ7_fill_fda19 N a (Int32.ofNat i) (Int32.ofNat (i + m)) 0 (zc w b C M r) = some (zc w b (zFill C o i m) M r) := by
  unfold mJ7_fill_fda19 mJ7_fill_fda19_0 mJ7_rangeCheck_23922 mJ7_rangeCheck_23922_0
  rw [hn, Option.bind_some, if_pos (by rw [zi_le (by omega) (by omega)]; omega), if_pos (by rw [zi_p0 (by omega)]; trivial), if_pos (by rw [zi_le (by omega) (by omega)]; omega), Option.bind_some]
  exact zd_fill10 hset hL m N i (i + m) C rfl h (by omega)
theorem zAd_17 {x u tp wn k : Nat} {tag len : Int32} : (zAd C x u tp wn tag len).1 17 k = if k = tp + 1 then len else if k = tp then tag else if tp ≤ k ∧ k < tp + wn then 0 else C.1 17 k := by
  unfold zAd
  rw [zI1, if_neg (by omega), zI1]
  by_cases c1 : k = tp + 1
  · rw [if_pos ⟨rfl, c1⟩, if_pos c1]
  · rw [if_neg (fun q => c1 q.2), if_neg c1, zI1]
    by_cases c2 : k = tp
    · rw [if_pos ⟨rfl, c2⟩, if_pos c2]
    · rw [if_neg (fun q => c2 q.2), if_neg c2]
      show (if 17 = 17 ∧ tp ≤ k ∧ k < tp + wn then 0 else _) = _
      by_cases c3 : tp ≤ k ∧ k < tp + wn
      · rw [if_pos ⟨rfl, c3⟩, if_pos c3]
      · rw [if_neg (fun q => c3 q.2), if_neg c3, zI1, if_neg (by omega), zI1, if_neg (by omega), zI1, if_neg (by omega)]
theorem zFill_o {o k p a n : Nat} (h : o ≠ p) : (zFill C p a n).1 o k = C.1 o k := if_neg (fun q => h q.1)
theorem zAd_18 {x u tp wn y : Nat} {tag len : Int32} : (zAd C x u tp wn tag len).1 18 (y + 1) = if y = x then Int32.ofNat tp else C.1 18 (y + 1) := by
  unfold zAd
  rw [zI1, if_neg (by omega), zI1, if_neg (by omega), zI1, if_neg (by omega), zFill_o (by decide), zI1, if_neg (by omega), zI1]
  by_cases c : y = x
  · rw [if_pos ⟨rfl, by omega⟩, if_pos c]
  · rw [if_neg (by omega), if_neg c, zI1, if_neg (by omega)]
theorem zAd_19 {x u tp wn y : Nat} {tag len : Int32} : (zAd C x u tp wn tag len).1 19 (y + 1) = if y = x then Int32.ofNat wn else C.1 19 (y + 1) := by
  unfold zAd
  rw [zI1, if_neg (by omega), zI1, if_neg (by omega), zI1, if_neg (by omega), zFill_o (by decide), zI1]
  by_cases c : y = x
  · rw [if_pos ⟨rfl, by omega⟩, if_pos c]
  · rw [if_neg (by omega), if_neg c, zI1, if_neg (by omega), zI1, if_neg (by omega)]
theorem zAd_o {x u tp wn o k : Nat} {tag len : Int32} (h1 : o ≠ 17) (h2 : o ≠ 18) (h3 : o ≠ 19) (h4 : ¬ (o = 16 ∧ (k = 7 ∨ k = 8))) : (zAd C x u tp wn tag len).1 o k = C.1 o k := by
  unfold zAd
  rw [zI1, if_neg (by omega), zI1, if_neg (by omega), zI1, if_neg (by omega), zFill_o h1, zI1, if_neg (by omega), zI1, if_neg (by omega), zI1, if_neg (by omega)]
theorem zd_add30 {ω : Nat → Nat} {u tp wn : Nat} (hN : 400 < N) (hw : w ≤ 400) (hH : zHc w C ω u tp) (hu : u < w / 2) (hwn : 2 ≤ wn) (htp : tp + wn ≤ w) (tag len : Int32) : zHC w b (mX2_add_30 N (b + 16) tag len (Int32.ofNat wn)) C r (fun y => (y, Int32.ofNat (ω u + 1))) (zAd C (ω u) u tp wn tag len) r := by
  intro M
  obtain ⟨c1, c2, c3, c4, c5, c6, c7, c8⟩ := hH
  obtain ⟨d1, d2⟩ := c5 u hu
  have f8 : ∀ v x1 x2 v1 v2, (zI (zI (zI C 16 7 v) 18 x1 v1) 19 x2 v2).1 16 8 = Int32.ofNat tp := fun v x1 x2 v1 v2 => by rw [zI1, if_neg (by omega), zI1, if_neg (by omega), zI1, if_neg (by omega)]; exact c2
  have f8a : (zI C 16 7 (Int32.ofNat (u + 1))).1 16 8 = Int32.ofNat tp := by rw [zI1, if_neg (by omega)]; exact c2
  have fill := zd_fill (N := N) (w := w) (b := b) (C := zI (zI (zI C 16 7 (Int32.ofNat (u + 1))) 18 (ω u + 1) (Int32.ofNat tp)) 19 (ω u + 1) (Int32.ofNat wn)) (r := r) (M := M) (a := b + 17) (o := 17) (L := w) (i := tp) (m := wn) (fun C n h => zqs_17 hw h) zqn_17 hw htp hN
  have g8 : (zFill (zI (zI (zI C 16 7 (Int32.ofNat (u + 1))) 18 (ω u + 1) (Int32.ofNat tp)) 19 (ω u + 1) (Int32.ofNat wn)) 17 tp wn).1 16 8 = Int32.ofNat tp := by rw [zFill_o (by decide)]; exact f8 _ _ _ _ _
  have g8a : ∀ v, (zI (zFill (zI (zI (zI C 16 7 (Int32.ofNat (u + 1))) 18 (ω u + 1) (Int32.ofNat tp)) 19 (ω u + 1) (Int32.ofNat wn)) 17 tp wn) 17 tp v).1 16 8 = Int32.ofNat tp := fun v => by rw [zI1, if_neg (by omega)]; exact g8
  have g8b : ∀ v v', (zI (zI (zFill (zI (zI (zI C 16 7 (Int32.ofNat (u + 1))) 18 (ω u + 1) (Int32.ofNat tp)) 19 (ω u + 1) (Int32.ofNat wn)) 17 tp wn) 17 tp v) 17 (tp + 1) v').1 16 8 = Int32.ofNat tp := fun v v' => by rw [zI1, if_neg (by omega)]; exact g8a v
  unfold mX2_add_30
  simp (disch := omega) only [zqg_16_5, zqg_16_7, c1, zqa_21 hw, d1, zqp_16_7, zqg_16_2, zqg_16_8, f8a, zqs_18 hw, zqg_16_3, zqs_19 hw, zqg_16_1, f8, Option.bind_some, zi_lit, zi_add]
  rw [show mJ7_fill_fda19 N (b + 17) (Int32.ofNat tp) (Int32.ofNat (tp + wn)) (Int32.ofNat 0) (zc w b (zI (zI (zI C 16 7 (Int32.ofNat (u + 1))) 18 (ω u + 1) (Int32.ofNat tp)) 19 (ω u + 1) (Int32.ofNat wn)) M r) = _ from fill, Option.bind_some]
  simp (disch := omega) only [zqg_16_1, zqg_16_8, g8, zqs_17 hw, g8a, zi_add, g8b, zqp_16_8, Option.bind_some]
  rfl
theorem zKp.tr {C1 C2 : zC} {x : Nat} (h : zKp C C1 x) (h' : zKp C1 C2 x) : zKp C C2 x := ⟨h'.1.trans h.1, fun e he => (h'.2 e (by rw [h.1]; exact he)).trans (h.2 e he)⟩
theorem zs2 : ∀ n, zs (fun _ => 2) n = 2 * n
  | 0 => rfl
  | n + 1 => by show zs (fun _ => 2) n + 2 = 2 * (n + 1); rw [zs2 n]; omega
theorem zAd_hc {ω : Nat → Nat} {u tp wn : Nat} (hw : w ≤ 400) (hH : zHc w C ω u tp) (hu : u < w / 2) (hwn : 2 ≤ wn) (htp : tp + wn ≤ w) (tag len : Int32) : zHc w (zAd C (ω u) u tp wn tag len) ω (u + 1) (tp + wn) ∧ zha (zAd C (ω u) u tp wn tag len) (ω u) = tp ∧ zhW (zAd C (ω u) u tp wn tag len) (ω u) = wn ∧ ∀ i, i < u → zKp C (zAd C (ω u) u tp wn tag len) (ω i) := by
  obtain ⟨c1, c2, c3, c4, c5, c6, c7, c8⟩ := hH
  have n1 : ∀ i, i < u → ω i ≠ ω u := fun i hi e => by have := c6 i u (by omega) hu e; omega
  have a1 : ∀ i, i < u → zha (zAd C (ω u) u tp wn tag len) (ω i) = zha C (ω i) := fun i hi => zha_c (by rw [zAd_18, if_neg (n1 i hi)])
  have a2 : ∀ i, i < u → zhW (zAd C (ω u) u tp wn tag len) (ω i) = zhW C (ω i) := fun i hi => zhW_c (by rw [zAd_19, if_neg (n1 i hi)])
  have b1 : zha (zAd C (ω u) u tp wn tag len) (ω u) = tp := by unfold zha; rw [zAd_18, if_pos rfl, zN_nat (by omega)]
  have b2 : zhW (zAd C (ω u) u tp wn tag len) (ω u) = wn := by unfold zhW; rw [zAd_19, if_pos rfl, zN_nat (by omega)]
  have s1 : ∀ i, i ≤ u → zs (fun j => zhW (zAd C (ω u) u tp wn tag len) (ω j)) i = zs (fun j => zhW C (ω j)) i := fun i hi => zs_congr fun j hj => a2 j (by omega)
  refine ⟨⟨?_, ?_, by omega, htp, fun i hi => ?_, c6, fun i hi => ?_, ?_⟩, b1, b2, fun i hi => ⟨a2 i hi, fun e he => ?_⟩⟩
  · unfold zAd
    rw [zI1, if_neg (by omega), zI1, if_neg (by omega), zI1, if_neg (by omega), zFill_o (by decide), zI1, if_neg (by omega), zI1, if_neg (by omega), zI1, if_pos ⟨rfl, rfl⟩]
  · unfold zAd
    rw [zI1, if_pos ⟨rfl, rfl⟩]
  · rw [zAd_o (by decide) (by decide) (by decide) (by omega)]
    exact c5 i hi
  · rw [s1 i (by omega)]
    by_cases c : i = u
    · rw [c, b1, b2]
      exact ⟨c8, hwn⟩
    · rw [a1 i (by omega), a2 i (by omega)]
      exact c7 i (by omega)
  · show tp + wn = zs _ u + zhW (zAd C (ω u) u tp wn tag len) (ω u)
    rw [b2, s1 u (Nat.le_refl u), c8]
  · rw [a1 i hi, zAd_17]
    have h1 := (c7 i hi).1
    have h2 : zs (fun j => zhW C (ω j)) (i + 1) ≤ zs (fun j => zhW C (ω j)) u := zs_mono (by omega)
    have h3 : zs (fun j => zhW C (ω j)) (i + 1) = zs (fun j => zhW C (ω j)) i + zhW C (ω i) := rfl
    rw [if_neg (by omega), if_neg (by omega), if_neg (by omega)]
theorem zd_add {ω : Nat → Nat} {u tp wn : Nat} {S : Nat → Bool} (hN : 400 < N) (hw : w ≤ 400) (hH : zHc w C ω u tp) (hS : ∀ x, x < w / 2 → (C.1 20 (x + 1) = C.1 16 9 ↔ S x = true)) (hU : ∀ x, S x = true → ∃ i, i < u ∧ ω i = x) (hwn : 2 ≤ wn) (hroom : zws (w / 2) (zhW C) S + wn ≤ w) (tag len : Int32) :
    ∃ (C' : zC) (ω' : Nat → Nat) (u' tp' x : Nat), zHC w b (mX2_add N (b + 16) tag len (Int32.ofNat wn)) C r (fun y => (y, Int32.ofNat (x + 1))) C' r ∧ zHc w C' ω' u' tp' ∧ x < w / 2 ∧ S x ≠ true ∧ (∀ y, S y = true → (∃ i, i < u' ∧ ω' i = y) ∧ zKp C C' y) ∧ (∃ i, i < u' ∧ ω' i = x) ∧
      zhW C' x = wn ∧ C'.1 17 (zha C' x) = tag ∧ C'.1 17 (zha C' x + 1) = len ∧ (∀ e, 2 ≤ e → e < wn → C'.1 17 (zha C' x + e) = 0) ∧
      (∀ o k, o ≠ 17 → o ≠ 18 → o ≠ 19 → o ≠ 21 → ¬ (o = 16 ∧ (k = 7 ∨ k = 8)) → C'.1 o k = C.1 o k) ∧ C'.2 = C.2 := by
  have hH' := hH
  obtain ⟨c1, c2, c3, c4, c5, c6, c7, c8⟩ := hH
  have core : ∀ (C1 : zC) (ω1 : Nat → Nat) (u1 tp1 : Nat), zHc w C1 ω1 u1 tp1 → u1 < w / 2 → tp1 + wn ≤ w → (∀ y, S y = true → (∃ i, i < u1 ∧ ω1 i = y) ∧ zKp C C1 y) → (∀ o k, o ≠ 17 → o ≠ 18 → o ≠ 19 → o ≠ 21 → ¬ (o = 16 ∧ (k = 7 ∨ k = 8)) → C1.1 o k = C.1 o k) → C1.2 = C.2 → zHC w b (mX2_add N (b + 16) tag len (Int32.ofNat wn)) C r (fun y => (y, Int32.ofNat (ω1 u1 + 1))) (zAd C1 (ω1 u1) u1 tp1 wn tag len) r →
    ∃ (C' : zC) (ω' : Nat → Nat) (u' tp' x : Nat), zHC w b (mX2_add N (b + 16) tag len (Int32.ofNat wn)) C r (fun y => (y, Int32.ofNat (x + 1))) C' r ∧ zHc w C' ω' u' tp' ∧ x < w / 2 ∧ S x ≠ true ∧ (∀ y, S y = true → (∃ i, i < u' ∧ ω' i = y) ∧ zKp C C' y) ∧ (∃ i, i < u' ∧ ω' i = x) ∧
      zhW C' x = wn ∧ C'.1 17 (zha C' x) = tag ∧ C'.1 17 (zha C' x + 1) = len ∧ (∀ e, 2 ≤ e → e < wn → C'.1 17 (zha C' x + e) = 0) ∧
      (∀ o k, o ≠ 17 → o ≠ 18 → o ≠ 19 → o ≠ 21 → ¬ (o = 16 ∧ (k = 7 ∨ k = 8)) → C'.1 o k = C.1 o k) ∧ C'.2 = C.2 := by
    intro C1 ω1 u1 tp1 h1 hu1 htp1 hk hfr h2 hrun
    obtain ⟨g1, g2, g3, g4⟩ := zAd_hc hw h1 hu1 hwn htp1 tag len
    refine ⟨_, ω1, u1 + 1, tp1 + wn, ω1 u1, hrun, g1, (h1.2.2.2.2.1 u1 hu1).2, fun e => ?_, fun y hy => ?_, ⟨u1, by omega, rfl⟩, g3, ?_, ?_, fun e e1 e2 => ?_, fun o k a1 a2 a3 a4 a5 => ?_, ?_⟩
    · obtain ⟨⟨i, hi, he⟩, _⟩ := hk _ e
      have := h1.2.2.2.2.2.1 i u1 (by omega) hu1 he
      omega
    · obtain ⟨⟨i, hi, he⟩, hkp⟩ := hk y hy
      subst he
      exact ⟨⟨i, by omega, rfl⟩, hkp.tr (g4 i hi)⟩
    · rw [g2, zAd_17, if_neg (by omega), if_pos rfl]
    · rw [g2, zAd_17, if_pos rfl]
    · rw [g2, zAd_17, if_neg (by omega), if_neg (by omega), if_pos ⟨by omega, by omega⟩]
    · rw [zAd_o a1 a2 a3 a5]; exact hfr o k a1 a2 a3 a4 a5
    · exact h2
  by_cases cs : tp + wn ≤ w ∧ u ≠ w / 2
  · refine core C ω u tp hH' (by omega) cs.1 (fun y hy => ⟨hU y hy, rfl, fun _ _ => rfl⟩) (fun _ _ _ _ _ _ _ => rfl) rfl fun M => ?_
    have e := zd_add30 (N := N) (w := w) (b := b) (r := r) hN hw hH' (by omega) hwn cs.1 tag len M
    unfold mX2_add mX2_add_0
    simp (disch := omega) only [zqg_16_8, c2, zqg_16_1, zqn_17, Option.bind_some, zi_add, zi_lt]
    rw [if_neg (by omega)]
    simp (disch := omega) only [zqg_16_7, c1, zqg_16_5, zqn_21, Option.bind_some, zi_eq]
    rw [if_neg cs.2]
    exact e
  · obtain ⟨C1, ω1, u1, tp1, s1, s2, s3, s4, s5, s6⟩ := zd_sweep (N := N) (w := w) (b := b) (r := r) hN hw hH' hS
    obtain ⟨d1, d2, d3, d4, d5, d6, d7, d8⟩ := s2
    have hsum : tp1 = zws (w / 2) (zhW C) S := by
      rw [d8]
      refine zs_bij (B := fun i y => i < u1 ∧ ω1 i = y) (fun a x y h1 h2 => h1.2.symm.trans h2.2) (fun a a' y h1 h2 => d6 a a' (by omega) (by omega) (h1.2.trans h2.2.symm)) (fun i hi _ => ?_) fun y hy h0 => ?_
      · have hSi := ((s3 (ω1 i)).1 ⟨i, hi, rfl⟩).1
        refine ⟨ω1 i, (d5 i (by omega)).2, ⟨hi, rfl⟩, ?_⟩
        show (if S (ω1 i) = true then zhW C (ω1 i) else 0) = _
        rw [if_pos hSi]
        exact ((s4 (ω1 i) ⟨i, hi, rfl⟩).1).symm
      · have hSy : S y = true := by
          by_cases c : S y = true
          · exact c
          · exact absurd (if_neg c) h0
        obtain ⟨i, hi, he⟩ := (s3 y).2 ⟨hSy, hU y hSy⟩
        refine ⟨i, hi, ⟨hi, he⟩, ?_⟩
        show zhW C1 (ω1 i) = if S y = true then zhW C y else 0
        rw [if_pos hSy, he]
        exact (s4 y ⟨i, hi, he⟩).1
    have h2u : 2 * u1 ≤ tp1 := by
      rw [d8, ← zs2]
      exact zs_le fun i hi => (d7 i hi).2
    have hu1 : u1 < w / 2 := by omega
    refine core C1 ω1 u1 tp1 ⟨d1, d2, d3, d4, d5, d6, d7, d8⟩ hu1 (by omega) (fun y hy => ⟨(s3 y).2 ⟨hy, hU y hy⟩, s4 y ((s3 y).2 ⟨hy, hU y hy⟩)⟩) (fun o k a1 a2 _ a4 a5 => s5 o k a1 a2 a4 a5) s6 fun M => ?_
    have e := zd_add30 (N := N) (w := w) (b := b) (r := r) hN hw ⟨d1, d2, d3, d4, d5, d6, d7, d8⟩ hu1 hwn (show tp1 + wn ≤ w by omega) tag len M
    have e1 : mX2_sweep N (b + 16) (zc w b C M r) = some (zc w b C1 M r) := s1 M
    have e26 : mX2_add_26 N (b + 16) tag len (Int32.ofNat wn) (zc w b C M r) = some (zc w b (zAd C1 (ω1 u1) u1 tp1 wn tag len) M r, Int32.ofNat (ω1 u1 + 1)) := by
      unfold mX2_add_26
      rw [zqk_16, if_pos rfl, e1, Option.bind_some]
      exact e
    unfold mX2_add mX2_add_0
    simp (disch := omega) only [zqg_16_8, c2, zqg_16_1, zqn_17, Option.bind_some, zi_add, zi_lt]
    by_cases c : w < tp + wn
    · rw [if_pos c]
      exact e26
    · rw [if_neg c]
      simp (disch := omega) only [zqg_16_7, c1, zqg_16_5, zqn_21, Option.bind_some, zi_eq]
      rw [if_pos (by omega)]
      exact e26
end ZAD
