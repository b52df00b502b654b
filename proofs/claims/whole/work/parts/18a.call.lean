/-! ===== calls ===== -/
def zBg (C : zC) (f a : Nat) : zC := zFill (zI (zI (zV C (f + 100) 3 (.ref a)) (f + 100) 4 0) (f + 100) 2 (Int32.ofNat (16 + 0))) (f + 140) 0 16
def zMo (M : zM) (F m i : Nat) : zM := (fun o k => if o = 44 ∧ 16 * F ≤ k ∧ k < 16 * F + i then 0 else (zJ (zJ (zJ M 40 F (Int32.ofNat m)) 41 F 0) 42 F 0).1 o k, fun o k => if o = 43 ∧ 16 * F ≤ k ∧ k < 16 * F + i then 0 else M.2 o k)
section ZCL
variable {N w b f g : Nat} {C : zC} {M : zM} {r : zv_X}
theorem zd_get {nm i : Nat} {ra : Nat → Nat} (h : zLst b C r nm ra) (hi : i < nm) (hn : nm ≤ 20) : zHC w b (mJx4a65c_get_915e3 N (b + 8) (Int32.ofNat i)) C r (fun x => (x, ra i)) C r := by
  intro M
  obtain ⟨h1, a, h2, hh⟩ := h
  rcases hh with ⟨hh, _⟩ | ⟨cap, gg, h3, h4, h5, h6, h7⟩
  · omega
  have hcap : cap ≤ 100 := by omega
  have ea : zm_aR (zc w b C M r) a (Int32.ofNat i) = some (ra i) := by
    have e1 : (zc w b C M r).1 a = some (.inl (4, cap, .inr (.inr (.inr (.inr gg))))) := (zc_out (Or.inr h4)).trans h3
    unfold zm_aR
    simp only [e1]
    rw [zi_cl (show i < 2 ^ 31 by omega), if_pos ⟨Or.inl trivial, fun q => by rcases q with q | q; exact absurd q (by rw [zi_nn (by omega)]; exact id); omega⟩]
    exact h7 i hi
  unfold mJx4a65c_get_915e3 mJx4a65c_get_915e3_0 mJx4a65c_elementData_915e3 mJx4a65c_elementData_915e3_0
  rw [zqg_8_2, Option.bind_some, h1, qJ15_checkIndex_7cf53]
  unfold pJ15_checkIndex_7cf53 pJ15_checkIndex_7cf53_0 pJ3_checkIndex_8e157 pJ3_checkIndex_8e157_0
  rw [if_neg (by rw [zi_nn (by omega)]; exact id), if_pos (by rw [zi_lt (by omega) (by omega)]; exact hi), Option.bind_some, Option.map_some, Option.bind_some]
  simp only [zqk_8, if_true, zqg_8_1 h2, ea, Option.bind_some]
theorem zd_begin {a : Nat} (hN : 400 < N) (hf : f < 16) : zHC w b (mX1_begin N (b + (3 * f + 27)) a) C r id (zBg C f a) r := by
  intro M
  have fill := zd_fill (N := N) (w := w) (b := b) (C := zI (zI (zV C (f + 100) 3 (.ref a)) (f + 100) 4 0) (f + 100) 2 (Int32.ofNat (16 + 0))) (r := r) (M := M) (a := b + (3 * f + 29)) (o := f + 140) (L := 28) (i := 0) (m := 16) (fun C n h => zqsF_2 hf h) (zqnF_2 hf) (by decide) (by decide) hN
  unfold mX1_begin mX1_begin_0
  rw [zqpF_3 hf, Option.bind_some, zqpF_4 hf, Option.bind_some, zqpF_2 hf, Option.bind_some, zqgF_1 hf, Option.bind_some]
  show ((mJ7_fill_fda19 N (b + (3 * f + 29)) (Int32.ofNat 0) (Int32.ofNat (0 + 16)) 0 (zc w b (zI (zI (zV C (f + 100) 3 (.ref a)) (f + 100) 4 0) (f + 100) 2 (Int32.ofNat (16 + 0))) M r)).bind _) = _
  rw [fill, Option.bind_some]
  rfl
theorem zd_take15 {n T : Nat} (hf : f < 16) (hg : g < 16) (hfg : f ≠ g) (hn : n ≤ 4) (hT : T + n ≤ 28) : ∀ (m fuel i : Nat) (C : zC), i + m = n → m < fuel → C.1 (g + 100) 2 = Int32.ofNat T → ∃ C', zHC w b (mX1_takeArguments_15 N fuel (b + (3 * f + 27)) (b + (3 * g + 27)) (Int32.ofNat n) (Int32.ofNat i)) C r id C' r ∧
    (∀ k, i ≤ k → k < n → C'.2.1 (f + 120) k = C.2.1 (g + 120) (T + k) ∧ C'.1 (f + 140) k = C.1 (g + 140) (T + k)) ∧ (∀ o k, ¬ (o = f + 140 ∧ i ≤ k ∧ k < n) → C'.1 o k = C.1 o k) ∧ (∀ o k, ¬ (o = f + 120 ∧ i ≤ k ∧ k < n) → C'.2.1 o k = C.2.1 o k) ∧ C'.2.2 = C.2.2 := by
  intro m
  induction m with
  | zero =>
    intro fuel i C hi hfu hC
    obtain ⟨fuel, rfl⟩ : ∃ g, fuel = g + 1 := ⟨fuel - 1, by omega⟩
    refine ⟨C, fun M => ?_, fun k h1 h2 => by omega, fun _ _ _ => rfl, fun _ _ _ => rfl, rfl⟩
    unfold mX1_takeArguments_15
    rw [if_pos (by rw [zi_le (by omega) (by omega)]; omega)]
    rfl
  | succ m ih =>
    intro fuel i C hi hfu hC
    obtain ⟨fuel, rfl⟩ : ∃ g, fuel = g + 1 := ⟨fuel - 1, by omega⟩
    have o1 : ∀ o k, ¬ (o = f + 140 ∧ k = i) → (zCS C f (T + i) g i).1 o k = C.1 o k := fun o k h => by unfold zCS; rw [zI1, if_neg h, zL1]
    have o2 : ∀ o k, ¬ (o = f + 120 ∧ k = i) → (zCS C f (T + i) g i).2.1 o k = C.2.1 o k := fun o k h => by unfold zCS; rw [zI2, zL2, if_neg h]
    have p1 : (zCS C f (T + i) g i).1 (f + 140) i = C.1 (g + 140) (T + i) := by unfold zCS; rw [zI1, if_pos ⟨rfl, rfl⟩]
    have p2 : (zCS C f (T + i) g i).2.1 (f + 120) i = C.2.1 (g + 120) (T + i) := by unfold zCS; rw [zI2, zL2, if_pos ⟨rfl, rfl⟩]
    obtain ⟨C', h1, h2, h3, h4, h5⟩ := ih fuel (i + 1) (zCS C f (T + i) g i) (by omega) (by omega) ((o1 _ _ (by omega)).trans hC)
    refine ⟨C', fun M => ?_, fun k g1 g2 => ?_, fun o k h => ?_, fun o k h => ?_, h5⟩
    · have e := h1 M
      have ec := zf_copySlot (N := N) (w := w) (b := b) (C := C) (r := r) (g := g) (i := T + i) (j := i) hf hg (by omega) (by omega) M
      show mX1_takeArguments_15 N (fuel + 1) (b + (3 * f + 27)) (b + (3 * g + 27)) (Int32.ofNat n) (Int32.ofNat i) (zc w b C M r) = _
      unfold mX1_takeArguments_15
      rw [if_neg (by rw [zi_le (by omega) (by omega)]; omega), zqgF_2 hg, Option.bind_some, hC, zqkF hf, if_pos rfl, zi_add, ec, Option.bind_some, show (Int32.ofNat i + 1 : Int32) = Int32.ofNat (i + 1) from zi_add i 1]
      exact e
    · by_cases c : k = i
      · subst c
        exact ⟨(h4 _ _ (by omega)).trans p2, (h3 _ _ (by omega)).trans p1⟩
      · obtain ⟨q1, q2⟩ := h2 k (by omega) g2
        exact ⟨q1.trans (o2 _ _ (by omega)), q2.trans (o1 _ _ (by omega))⟩
    · exact (h3 o k (by omega)).trans (o1 o k (by omega))
    · exact (h4 o k (by omega)).trans (o2 o k (by omega))
theorem zMo_0 {F m : Nat} : zMo M F m 0 = zJ (zJ (zJ M 40 F (Int32.ofNat m)) 41 F 0) 42 F 0 := Prod.ext (funext fun o => funext fun k => if_neg (by omega)) (funext fun o => funext fun k => if_neg (by omega))
theorem zMo_s {F m i : Nat} : zK (zJ (zMo M F m i) 44 (16 * F + i) 0) 43 (16 * F + i) 0 = zMo M F m (i + 1) := by
  refine Prod.ext (funext fun o => funext fun k => ?_) (funext fun o => funext fun k => ?_)
  · show (if o = 44 ∧ k = 16 * F + i then 0 else if o = 44 ∧ 16 * F ≤ k ∧ k < 16 * F + i then 0 else _) = if o = 44 ∧ 16 * F ≤ k ∧ k < 16 * F + (i + 1) then 0 else _
    by_cases c : o = 44 ∧ k = 16 * F + i
    · rw [if_pos c, if_pos (by omega)]
    · rw [if_neg c]
      by_cases d : o = 44 ∧ 16 * F ≤ k ∧ k < 16 * F + i
      · rw [if_pos d, if_pos (by omega)]
      · rw [if_neg d, if_neg (by omega)]
  · show (if o = 43 ∧ k = 16 * F + i then 0 else if o = 43 ∧ 16 * F ≤ k ∧ k < 16 * F + i then 0 else M.2 o k) = if o = 43 ∧ 16 * F ≤ k ∧ k < 16 * F + (i + 1) then 0 else M.2 o k
    by_cases c : o = 43 ∧ k = 16 * F + i
    · rw [if_pos c, if_pos (by omega)]
    · rw [if_neg c]
      by_cases d : o = 43 ∧ 16 * F ≤ k ∧ k < 16 * F + i
      · rw [if_pos d, if_pos (by omega)]
      · rw [if_neg d, if_neg (by omega)]
theorem zMo_47 {F m i : Nat} {k : Nat} : (zMo M F m i).1 100 k = M.1 100 k := by
  show (if 100 = 44 ∧ 16 * F ≤ k ∧ k < 16 * F + i then 0 else (zJ (zJ (zJ M 40 F (Int32.ofNat m)) 41 F 0) 42 F 0).1 100 k) = _
  rw [if_neg (by omega), zJ1, if_neg (by omega), zJ1, if_neg (by omega), zJ1, if_neg (by omega)]
theorem zn_open32 {F m : Nat} (hF : M.1 100 47 = Int32.ofNat F) (hF16 : F < 16) : ∀ (j fuel i : Nat), i + j = 16 → j < fuel → zHM w b (mX9_open_32 N fuel (b + 75) (Int32.ofNat i)) (zMo M F m i) id (zMo M F m 16) := by
  intro j
  induction j with
  | zero =>
    intro fuel i hi hf C r
    obtain ⟨fuel, rfl⟩ : ∃ g, fuel = g + 1 := ⟨fuel - 1, by omega⟩
    unfold mX9_open_32
    rw [if_pos (by rw [show (16 : Int32) = Int32.ofNat 16 from rfl, zi_le (by omega) (by omega)]; omega), show i = 16 by omega]
    rfl
  | succ j ih =>
    intro fuel i hi hf C r
    obtain ⟨fuel, rfl⟩ : ∃ g, fuel = g + 1 := ⟨fuel - 1, by omega⟩
    have e := ih fuel (i + 1) (by omega) (by omega) C r
    rw [← zMo_s] at e
    have e47 : (zMo M F m i).1 100 47 = Int32.ofNat F := zMo_47.trans hF
    have e47' : ∀ v, (zJ (zMo M F m i) 44 (16 * F + i) v).1 100 47 = Int32.ofNat F := fun v => by rw [zJ1, if_neg (by omega)]; exact e47
    show mX9_open_32 N (fuel + 1) (b + 75) (Int32.ofNat i) (zc w b C (zMo M F m i) r) = _
    unfold mX9_open_32
    rw [if_neg (by rw [show (16 : Int32) = Int32.ofNat 16 from rfl, zi_le (by omega) (by omega)]; omega)]
    have i0 : (16 : Int32) * Int32.ofNat F + Int32.ofNat i = Int32.ofNat (16 * F + i) := by
      show Int32.ofNat 16 * Int32.ofNat F + Int32.ofNat i = _
      rw [zi_mul, zi_add]
    simp (disch := omega) only [zqg_75_44, zqg_75_47, e47, e47', i0, zqs_109, zqg_75_43, zqs_108, Option.bind_some, show (Int32.ofNat i + 1 : Int32) = Int32.ofNat (i + 1) from zi_add i 1]
    exact e
theorem zn_open {F m : Nat} (hN : 16 < N) (hF : M.1 100 47 = Int32.ofNat F) (hF16 : F < 16) : zHM w b (mX9_open N (b + 75) (Int32.ofNat m)) M id (zMo M F m 16) := by
  intro C r
  have e := zn_open32 (N := N) (w := w) (b := b) (M := M) (F := F) (m := m) hF hF16 16 N 0 (by omega) (by omega) C r
  rw [zMo_0] at e
  have e1 : ∀ v, (zJ M 40 F v).1 100 47 = Int32.ofNat F := fun v => by rw [zJ1, if_neg (by omega)]; exact hF
  have e2 : ∀ v v', (zJ (zJ M 40 F v) 41 F v').1 100 47 = Int32.ofNat F := fun v v' => by rw [zJ1, if_neg (by omega)]; exact e1 v
  unfold mX9_open mX9_open_0
  simp (disch := omega) only [zqg_75_40, zqg_75_41, zqg_75_42, zqg_75_47, hF, e1, e2, zqs_105, zqs_106, zqs_107, Option.bind_some]
  exact e
theorem zn_dc30 {F a n T : Nat} {kd : Nat → Nat} (hF16 : F < 15) (ha : a < 20) (hn : n ≤ 4) (hT : T + n ≤ 12) : ∀ (j fuel : Nat) (M : zM), j ≤ n → j < fuel → M.1 100 47 = Int32.ofNat (F + 1) → M.1 42 F = Int32.ofNat (T + j) → (∀ i, i < n → M.1 13 (4 * a + i) = Int32.ofNat (kd i)) → ∃ M', zHM w b (mX9_doCall_30 N fuel (b + 75) (Int32.ofNat a) (Int32.ofNat j + (-1))) M id M' ∧ M'.1 100 47 = Int32.ofNat (F + 2) ∧ M'.1 42 F = Int32.ofNat T ∧
    (∀ k, k < j → M'.1 44 (16 * (F + 1) + k) = Int32.ofNat (kd k) ∧ M'.2 43 (16 * (F + 1) + k) = M.2 45 (12 * F + (T + k))) ∧ (∀ o k, ¬ (o = 100 ∧ k = 47) → ¬ (o = 42 ∧ k = F) → ¬ (o = 44 ∧ 16 * (F + 1) ≤ k ∧ k < 16 * (F + 1) + j) → M'.1 o k = M.1 o k) ∧ ∀ o k, ¬ (o = 43 ∧ 16 * (F + 1) ≤ k ∧ k < 16 * (F + 1) + j) → M'.2 o k = M.2 o k := by
  intro j
  induction j with
  | zero =>
    intro fuel M hj hf h47 h42 h13
    obtain ⟨fuel, rfl⟩ : ∃ g, fuel = g + 1 := ⟨fuel - 1, by omega⟩
    refine ⟨zJ M 100 47 (Int32.ofNat (F + 2)), fun C r => ?_, ?_, ?_, fun k hk => absurd hk (Nat.not_lt_zero k), fun o k h1 h2 h3 => ?_, fun _ _ _ => rfl⟩
    · unfold mX9_doCall_30
      rw [if_pos (by decide), zqg_75_47, Option.bind_some, h47, show (Int32.ofNat (F + 1) + 1 : Int32) = Int32.ofNat (F + 2) from zi_add (F + 1) 1, zqp_75_47, Option.bind_some]
      rfl
    · rw [zJ1, if_pos ⟨rfl, rfl⟩]
    · rw [zJ1, if_neg (by omega)]; exact h42
    · rw [zJ1, if_neg h1]
  | succ j ih =>
    intro fuel M hj hf h47 h42 h13
    obtain ⟨fuel, rfl⟩ : ∃ g, fuel = g + 1 := ⟨fuel - 1, by omega⟩
    have i0 : (16 : Int32) * Int32.ofNat (F + 1) + Int32.ofNat j = Int32.ofNat (16 * (F + 1) + j) := by
      show Int32.ofNat 16 * Int32.ofNat (F + 1) + Int32.ofNat j = _
      rw [zi_mul, zi_add]
    have i1 : (4 : Int32) * Int32.ofNat a + Int32.ofNat j = Int32.ofNat (4 * a + j) := by
      show Int32.ofNat 4 * Int32.ofNat a + Int32.ofNat j = _
      rw [zi_mul, zi_add]
    have q47 : (zJ M 44 (16 * (F + 1) + j) (Int32.ofNat (kd j))).1 100 47 = Int32.ofNat (F + 1) := by rw [zJ1, if_neg (by omega)]; exact h47
    have q42 : (zJ M 44 (16 * (F + 1) + j) (Int32.ofNat (kd j))).1 42 F = Int32.ofNat (T + j + 1) := by rw [zJ1, if_neg (by omega)]; exact h42
    obtain ⟨M', g1, g2, g3, g4, g5, g6⟩ := ih fuel (zK (zMD (zJ M 44 (16 * (F + 1) + j) (Int32.ofNat (kd j))) F (T + j)) 43 (16 * (F + 1) + j) (M.2 45 (12 * F + (T + j)))) (by omega) (by omega) (by unfold zMD; rw [zK1, zJ1, if_neg (by omega)]; exact q47) (by unfold zMD; rw [zK1, zJ1, if_pos ⟨rfl, rfl⟩]) (fun i hi => by unfold zMD; rw [zK1, zJ1, if_neg (by omega), zJ1, if_neg (by omega)]; exact h13 i hi)
    refine ⟨M', fun C r => ?_, g2, g3, fun k hk => ?_, fun o k h1 h2 h3 => ?_, fun o k h1 => ?_⟩
    · have e := g1 C r
      have ep := zn_pop (N := N) (w := w) (b := b) (M := zJ M 44 (16 * (F + 1) + j) (Int32.ofNat (kd j))) (f := F) (t := T + j) (by omega) q47 q42 (by omega) C r
      show mX9_doCall_30 N (fuel + 1) (b + 75) (Int32.ofNat a) (Int32.ofNat (j + 1) + (-1)) (zc w b C M r) = _
      rw [zi_pred, mX9_doCall_30, if_neg (by rw [zi_nn (by omega)]; exact id)]
      simp (disch := omega) only [zqg_75_44, zqg_75_47, zqg_75_13, h47, q47, i0, i1, zqa_84, h13 j (by omega), zqs_109, zqg_75_43, Option.bind_some, zqk_75, if_true, ep]
      rw [zqs_108 (by omega), Option.bind_some]
      exact e
    · by_cases c : k = j
      · subst c
        refine ⟨?_, ?_⟩
        · rw [g5 _ _ (by omega) (by omega) (by omega)]
          unfold zMD
          rw [zK1, zJ1, if_neg (by omega), zJ1, if_pos ⟨rfl, rfl⟩]
        · rw [g6 _ _ (by omega), zK2, if_pos ⟨rfl, rfl⟩]
      · obtain ⟨q1, q2⟩ := g4 k (by omega)
        refine ⟨q1, q2.trans ?_⟩
        rw [zK2, if_neg (by omega)]
        rfl
    · rw [g5 o k h1 h2 (by omega)]
      unfold zMD
      rw [zK1, zJ1, if_neg (by omega), zJ1, if_neg (by omega)]
    · rw [g6 o k (by omega), zK2, if_neg (by omega)]
      rfl
end ZCL
