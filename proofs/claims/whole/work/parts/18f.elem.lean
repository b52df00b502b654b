/-! ===== what things hold is read (written by wip/gen/ops10.py) ===== -/
def zok (use so : Nat) : Bool := if use = 0 then so == 10 else if use = 1 then so == 11 else if use = 4 then so == 12 else if use = 5 then so == 4 || so == 8 else if use = 6 then so == 5 else so == 9
theorem zk_for1 : ∀ use, use < 8 → ∀ so, so < 13 → pX4_isForSort (Int32.ofNat use) (Int32.ofNat so) = some (if zok use so = true then 1 else 0) := by decide +kernel
theorem zk_for0 : ∀ use, use < 8 → ∀ cl, cl < 30 → pX4_isForSort (Int32.ofNat use) (-Int32.ofNat cl) = some 0 := by decide +kernel
theorem zk_sort1 : ∀ use, use < 8 → ∀ so, so < 13 → pX9_isSort (Int32.ofNat (use + 46)) (Int32.ofNat so) = some (if zok use so = true then 1 else 0) := by decide +kernel
theorem zk_sort2 : ∀ use, use < 8 → ∀ so, so < 13 → pX9_isSort (Int32.ofNat (use + 79)) (Int32.ofNat so) = some (if zok use so = true then 1 else 0) := by decide +kernel
theorem zok_0 : ∀ use, use < 8 → ¬ zok use 0 = true := by decide
theorem zi_neg_neg (a : Int32) : - -a = a := Int32.neg_neg
def zInh (K : Nat) (F ρ π : Nat → Nat) : Prop := ∀ k, 0 < k → k < K → F (π k) ≤ F k ∧ ∀ f, f < F (π k) → (ρ k).testBit f = (ρ (π k)).testBit f
/-- an element of a number sort but 11 is narrow -/
theorem zel_int (so k : Nat) (W : Nat → Int32) (h : so ≠ 11) : ∃ i : Int32, zel so W k = i.toInt64 := by
  unfold zel
  by_cases c1 : so = 4 ∨ so = 8
  · rw [if_pos c1]; exact ⟨_, rfl⟩
  · rw [if_neg c1]
    by_cases c2 : so = 5
    · rw [if_pos c2]; exact ⟨_, rfl⟩
    · rw [if_neg c2]
      by_cases c3 : so = 9
      · rw [if_pos c3]; exact ⟨_, rfl⟩
      · rw [if_neg c3, if_neg h]; exact ⟨_, rfl⟩
section ZRD
variable {N w b K S f0 t p m : Nat} {F ρ α π lt st : Nat → Nat} {D : Nat → Nat → Prop} {C : zC} {M : zM} {r : zv_X} {Q : zQo} {φ : Nat → zFd}
theorem zInh.up (hT : zTy C M K F ρ α π) (hI : zInh K F ρ π) {a : Nat} : ∀ (n c : Nat), c ≤ n → c < K → (α c).testBit a = true → F a ≤ F c ∧ ∀ f, f < F a → (ρ c).testBit f = (ρ a).testBit f := by
  intro n
  induction n with
  | zero =>
    intro c h1 h2 h3
    have : c = 0 := by omega
    subst this
    rw [hT.2.2.2.2.2.1, Nat.testBit_one_eq_true_iff_self_eq_zero] at h3
    subst h3
    exact ⟨Nat.le_refl _, fun _ _ => rfl⟩
  | succ n ih =>
    intro c h1 h2 h3
    by_cases c0 : c = 0
    · exact ih c (by omega) h2 h3
    · obtain ⟨p1, p2, p3⟩ := hT.2.2.2.2.2.2.2 c (by omega) h2
      by_cases e : c = a
      · subst e; exact ⟨Nat.le_refl _, fun _ _ => rfl⟩
      · rw [p3, Nat.testBit_or, Nat.testBit_two_pow, decide_eq_false e, Bool.or_false] at h3
        obtain ⟨i1, i2⟩ := ih (π c) (by omega) (by omega) h3
        obtain ⟨j1, j2⟩ := hI c (by omega) h2
        exact ⟨by omega, fun f hf => (j2 f (by omega)).trans (i2 f hf)⟩
/-- the fault that a use of an element meets -/
theorem zd_fault {u tt so cl n use : Nat} {i : Int32} (hw : w ≤ 400) (hK : K ≤ 30) (h : zPk w K F ρ D C M u tt so cl n) (hu : use < 8) : zHC w b (mX4_faultOfElement N (b + 15) (Int32.ofNat use) (Int32.ofNat (u + 1)) i) C r (fun x => (x, if zok use so = true then (if 0 ≤ i ∧ i < Int32.ofNat n then 0 else 3) else 5)) C r := by
  intro M0
  obtain ⟨k1, k2, k3, k4, k5, k6, k7, k8, k9, k10, k11, k12, k13, k14, k15, k16, k17, k18⟩ := h
  have e1 := zd_tag (N := N) (w := w) (b := b) (C := C) (r := r) hw k1 k16 M0
  have e2 := zd_length (N := N) (w := w) (b := b) (C := C) (r := r) hw k1 k17 M0
  have hne : ¬ Int32.ofNat (u + 1) = 0 := fun q => by
    have := zi_inj (a := u + 1) (b := 0) (by omega) (by omega) q
    omega
  unfold mX4_faultOfElement mX4_faultOfElement_0 mX4_faultOfElement_40 mX4_faultOfElement_45
  rw [if_neg hne, zqg_15_2, Option.bind_some, zqk_16, if_pos rfl, e1, Option.bind_some, qX4_isForSort, k12]
  unfold zTag
  by_cases c0 : so = 0
  · rw [if_pos c0, zk_for0 use hu cl (by omega), Option.map_some, Option.bind_some, if_pos rfl, c0, if_neg (zok_0 use hu)]
  · rw [if_neg c0, zi_neg_neg, zk_for1 use hu so (by omega), Option.map_some, Option.bind_some]
    by_cases c1 : zok use so = true
    · rw [if_pos c1, if_neg (show ¬ (1 : Int32) = 0 by decide)]
      have el : C.1 17 (zha C u + 1) = Int32.ofNat n := by rw [k13]; unfold zLen; rw [if_neg c0]
      rw [el] at e2
      by_cases c2 : i < 0
      · rw [if_pos c2, if_pos c1, if_neg (fun q => absurd c2 (Int32.not_lt.mpr q.1))]
      · rw [if_neg c2]
        simp only [zqg_15_2, zqk_16, if_true, Option.bind_some]
        show ((mX2_length N (b + 16) (Int32.ofNat (u + 1)) (zc w b C M0 r)).bind _) = _
        rw [e2, Option.bind_some]
        by_cases c3 : i < Int32.ofNat n
        · rw [if_pos c3, if_pos c1, if_pos ⟨Int32.not_lt.mp c2, c3⟩]
        · rw [if_neg c3, if_pos c1, if_neg (fun q => c3 q.2)]
    · rw [if_neg c1, if_pos rfl, if_neg c1]
theorem zn_wrong {u tt so cl n use op : Nat} {v : Int64} (h : zPk w K F ρ D C M u tt so cl n) (hu : use < 8) (hop : op = use + 46 ∨ op = use + 79) (hv : v = v.toInt32.toInt64) : zHM w b (mX9_wrong N (b + 75) (Int32.ofNat op) (Int64.ofNat (tt + 1)) v) M (fun x => (x, if zok use so = true then (if 0 ≤ v.toInt32 ∧ v.toInt32 < Int32.ofNat n then 0 else 3) else 5)) M := by
  intro C0 r0
  obtain ⟨k1, k2, k3, k4, k5, k6, k7, k8, k9, k10, k11, k12, k13, k14, k15, k16, k17, k18⟩ := h
  have hzm : ¬ lg_cmp (Int64.ofNat (tt + 1)) 0 = 0 := fun e => by
    rw [zw_cmp] at e
    have := zl_inj (a := tt + 1) (b := 0) (by omega) (by omega) e
    omega
  have et : (Int64.ofNat (tt + 1)).toInt32 - 1 = Int32.ofNat tt := by rw [Int64.toInt32_ofNat']; exact zi_sub (a := tt + 1) (b := 1) (by omega)
  have es : pX9_isSort (Int32.ofNat op) (Int32.ofNat so) = some (if zok use so = true then 1 else 0) := by
    rcases hop with h | h
    · rw [h]; exact zk_sort1 use hu so (by omega)
    · rw [h]; exact zk_sort2 use hu so (by omega)
  have lt1 : (lg_cmp v 0 < 0) = (v.toInt32 < 0) := by
    have e1 : (lg_cmp v 0 < 0) = ¬ (0 ≤ lg_cmp v 0) := propext (Int32.not_le).symm
    rw [e1, lg_cmp_ge]
    rw [show (v.toInt32 < 0) = ¬ (0 ≤ v.toInt32) from propext (Int32.not_le).symm]
    refine congrArg Not (propext ⟨fun q => ?_, fun q => ?_⟩)
    · rw [hv] at q
      have q' := Int64.le_iff_toInt_le.mp q
      rw [Int32.toInt_toInt64] at q'
      exact Int32.le_iff_toInt_le.mpr q'
    · rw [hv]
      refine Int64.le_iff_toInt_le.mpr ?_
      rw [Int32.toInt_toInt64]
      exact Int32.le_iff_toInt_le.mp q
  have lt2 : (lg_cmp v (Int32.ofNat n).toInt64 < 0) = (v.toInt32 < Int32.ofNat n) := by
    have e1 : (lg_cmp v (Int32.ofNat n).toInt64 < 0) = ¬ (0 ≤ lg_cmp v (Int32.ofNat n).toInt64) := propext (Int32.not_le).symm
    rw [e1, lg_cmp_ge]
    rw [show (v.toInt32 < Int32.ofNat n) = ¬ (Int32.ofNat n ≤ v.toInt32) from propext (Int32.not_le).symm]
    refine congrArg Not (propext ⟨fun q => ?_, fun q => ?_⟩)
    · rw [hv] at q
      have q' := Int64.le_iff_toInt_le.mp q
      rw [Int32.toInt_toInt64, Int32.toInt_toInt64] at q'
      exact Int32.le_iff_toInt_le.mpr q'
    · rw [hv]
      refine Int64.le_iff_toInt_le.mpr ?_
      rw [Int32.toInt_toInt64, Int32.toInt_toInt64]
      exact Int32.le_iff_toInt_le.mp q
  unfold mX9_wrong mX9_wrong_0 mX9_wrong_53 mX9_wrong_58
  rw [if_neg hzm, zqg_75_32, Option.bind_some, et, zqa_99 k2, Option.bind_some, k3, qX9_isSort, es, Option.map_some, Option.bind_some]
  by_cases c1 : zok use so = true
  · rw [if_pos c1, if_neg (show ¬ (1 : Int32) = 0 by decide), if_pos c1]
    simp only [lt1]
    by_cases c2 : v.toInt32 < 0
    · rw [if_pos c2, if_neg (fun q => absurd c2 (Int32.not_lt.mpr q.1))]
    · rw [if_neg c2, zqg_75_33, Option.bind_some, zqa_100 k2, Option.bind_some, k5]
      simp only [lt2]
      by_cases c3 : v.toInt32 < Int32.ofNat n
      · rw [if_pos c3, if_pos ⟨Int32.not_lt.mp c2, c3⟩]
      · rw [if_neg c3, if_neg (fun q => c3 q.2)]
  · rw [if_neg c1, if_pos rfl, if_neg c1]
/-- an element is read -/
theorem zd_element {u tt so cl n k : Nat} (hw : w ≤ 400) (h : zPk w K F ρ D C M u tt so cl n) (h0 : so ≠ 0) (hk : k < n) : zHC w b (mX2_element N (b + 16) (Int32.ofNat (u + 1)) (Int32.ofNat k)) C r (fun x => (x, zel so (fun j => C.1 17 (zha C u + 2 + j)) k)) C r := by
  intro M0
  obtain ⟨k1, k2, k3, k4, k5, k6, k7, k8, k9, k10, k11, k12, k13, k14, k15, k16, k17, k18⟩ := h
  have e1 := zd_tag (N := N) (w := w) (b := b) (C := C) (r := r) hw k1 k16 M0
  have e18 : C.1 18 (u + 1) = Int32.ofNat (zha C u) := (zN_of _).symm
  have et : zht C u = -Int32.ofNat so := by rw [k12]; unfold zTag; rw [if_neg h0]
  rw [et] at e1
  have a2 : (Int32.ofNat (zha C u) + 2 : Int32) = Int32.ofNat (zha C u + 2) := zi_add _ 2
  unfold mX2_element mX2_element_0 mX2_element_60 mX2_element_153
  rw [zqg_16_2, Option.bind_some, zqa_18 hw (by omega), Option.bind_some, e18, zqk_16, if_pos rfl, e1, Option.bind_some]
  simp only [zi_neg_neg, a2]
  have d4 : (Int32.ofNat k / 4 : Int32) = Int32.ofNat (k / 4) := zi_div (b := 4) (by omega) (by decide)
  have d2 : (Int32.ofNat k / 2 : Int32) = Int32.ofNat (k / 2) := zi_div (b := 2) (by omega) (by decide)
  have s4 : ((Int32.ofNat k - Int32.ofNat (k / 4) * 4) * 8 &&& 31 : Int32) = Int32.ofNat (k % 4 * 8) := by
    rw [show (Int32.ofNat (k / 4) * 4 : Int32) = Int32.ofNat (k / 4 * 4) from zi_mul _ 4, zi_sub (by omega), show k - k / 4 * 4 = k % 4 by omega, show (Int32.ofNat (k % 4) * 8 : Int32) = Int32.ofNat (k % 4 * 8) from zi_mul _ 8]
    exact zi_31 (by omega)
  have s2 : ((Int32.ofNat k - Int32.ofNat (k / 2) * 2) * 16 &&& 31 : Int32) = Int32.ofNat (k % 2 * 16) := by
    rw [show (Int32.ofNat (k / 2) * 2 : Int32) = Int32.ofNat (k / 2 * 2) from zi_mul _ 2, zi_sub (by omega), show k - k / 2 * 2 = k % 2 by omega, show (Int32.ofNat (k % 2) * 16 : Int32) = Int32.ofNat (k % 2 * 16) from zi_mul _ 16]
    exact zi_31 (by omega)
  have m2 : ((2 : Int32) * Int32.ofNat k) = Int32.ofNat (2 * k) := zi_mul 2 k
  have rd : ∀ j, 2 + j < zwd so n → zm_aI (zc w b C M0 r) (b + 17) (Int32.ofNat (zha C u + 2 + j)) = some (C.1 17 (zha C u + 2 + j)) := fun j hj => zqa_17 hw (by omega)
  have rd' : ∀ j, 2 + j < zwd so n → zm_aI (zc w b C M0 r) (b + 17) (Int32.ofNat (zha C u + 2) + Int32.ofNat j) = some (C.1 17 (zha C u + 2 + j)) := fun j hj => by rw [zi_add]; exact rd j hj
  unfold zwd at rd rd'
  rcases k8 with e | e | e | e | e | e | e | e <;> subst e
  · exact absurd rfl h0
  · rw [if_pos (Or.inl rfl)] at rd'
    simp (decide := true) only [Int32.reduceLT, Int32.reduceLE, Int32.reduceAdd, Int32.reduceSub, Int32.reduceMul, Int32.reduceDiv, Int32.reduceMod, ↓reduceIte, Option.bind_some, zqg_16_1, d4, s4, rd' (k / 4) (by omega), zel]
  · rw [if_neg (by decide), if_pos (Or.inl rfl)] at rd'
    simp (decide := true) only [Int32.reduceLT, Int32.reduceLE, Int32.reduceAdd, Int32.reduceSub, Int32.reduceMul, Int32.reduceDiv, Int32.reduceMod, ↓reduceIte, Option.bind_some, zqg_16_1, d2, s2, rd' (k / 2) (by omega), zel]
  · rw [if_pos (Or.inr rfl)] at rd'
    simp (decide := true) only [Int32.reduceLT, Int32.reduceLE, Int32.reduceAdd, Int32.reduceSub, Int32.reduceMul, Int32.reduceDiv, Int32.reduceMod, ↓reduceIte, Option.bind_some, zqg_16_1, d4, s4, rd' (k / 4) (by omega), zel]
  · rw [if_neg (by decide), if_pos (Or.inr rfl)] at rd'
    simp (decide := true) only [Int32.reduceLT, Int32.reduceLE, Int32.reduceAdd, Int32.reduceSub, Int32.reduceMul, Int32.reduceDiv, Int32.reduceMod, ↓reduceIte, Option.bind_some, zqg_16_1, d2, s2, rd' (k / 2) (by omega), zel]
  · rw [if_neg (by decide), if_neg (by decide), if_neg (by decide)] at rd'
    simp (decide := true) only [Int32.reduceLT, Int32.reduceLE, Int32.reduceAdd, Int32.reduceSub, Int32.reduceMul, Int32.reduceDiv, Int32.reduceMod, ↓reduceIte, Option.bind_some, zqg_16_1, rd' k (by omega), zel]
  · rw [if_neg (by decide), if_neg (by decide), if_pos rfl] at rd'
    have r1 := rd' (2 * k + 1) (by omega)
    have a3 : (Int32.ofNat (zha C u + 2) + Int32.ofNat (2 * k) + 1 : Int32) = Int32.ofNat (zha C u + 2) + Int32.ofNat (2 * k + 1) := by
      rw [zi_add, zi_add]
      exact zi_add _ 1
    simp (decide := true) only [Int32.reduceLT, Int32.reduceLE, Int32.reduceAdd, Int32.reduceSub, Int32.reduceMul, Int32.reduceDiv, Int32.reduceMod, ↓reduceIte, Option.bind_some, zqg_16_1, m2, a3, rd' (2 * k) (by omega), r1, zel]
  · rw [if_neg (by decide), if_neg (by decide), if_neg (by decide)] at rd'
    simp (decide := true) only [Int32.reduceLT, Int32.reduceLE, Int32.reduceAdd, Int32.reduceSub, Int32.reduceMul, Int32.reduceDiv, Int32.reduceMod, ↓reduceIte, Option.bind_some, zqg_16_1, rd' k (by omega), zel]
theorem zd_loadE {f : Nat} {op e re : Int32} {v : Int64} {M0 : zM} (h1 : f < 16) (h2 : C.2.2 15 5 = .ref (b + (3 * f + 27))) (ga : mX1_reference N (b + (3 * f + 27)) 1 (zc w b C M0 r) = some (zc w b C M0 r, re)) (gi : mX1_number N (b + (3 * f + 27)) 0 (zc w b C M0 r) = some (zc w b C M0 r, v)) (ef : mX4_faultOfElement N (b + 15) (op - 46) re v.toInt32 (zc w b C M0 r) = some (zc w b C M0 r, e)) (he : ¬ e = 0) : mX4_loadElement N (b + 15) op (zc w b C M0 r) = some (zc w b C M0 r, e) := by
  unfold mX4_loadElement mX4_loadElement_0
  simp only [zqg_15_5 h2, zqkF h1, zqk_15, ga, gi, ef, Option.bind_some, if_true, if_neg he]
theorem zd_loadG {f : Nat} {op re : Int32} {v val : Int64} {M0 : zM} {CD CP C' : zC} (h1 : f < 16) (h2 : C.2.2 15 5 = .ref (b + (3 * f + 27))) (ga : mX1_reference N (b + (3 * f + 27)) 1 (zc w b C M0 r) = some (zc w b C M0 r, re)) (gi : mX1_number N (b + (3 * f + 27)) 0 (zc w b C M0 r) = some (zc w b C M0 r, v)) (ef : mX4_faultOfElement N (b + 15) (op - 46) re v.toInt32 (zc w b C M0 r) = some (zc w b C M0 r, 0))
    (ee : mX2_element N (b + 16) re v.toInt32 (zc w b C M0 r) = some (zc w b C M0 r, val)) (ed : mX1_drop N (b + (3 * f + 27)) 2 (zc w b C M0 r) = some (zc w b CD M0 r)) (kk : CD.2.2 15 5 = .ref (b + (3 * f + 27))) (hpu : if op = 50 then mX1_pushReference N (b + (3 * f + 27)) val.toInt32 (zc w b CD M0 r) = some (zc w b CP M0 r) else mX1_pushNumber N (b + (3 * f + 27)) val (zc w b CD M0 r) = some (zc w b CP M0 r)) (eg : mX4_goOn N (b + 15) 1 (zc w b CP M0 r) = some (zc w b C' M0 r, 0)) : mX4_loadElement N (b + 15) op (zc w b C M0 r) = some (zc w b C' M0 r, 0) := by
  unfold mX4_loadElement mX4_loadElement_0 mX4_loadElement_86
  by_cases c : op = 50
  · rw [if_pos c] at hpu
    simp only [zqg_15_5 h2, zqkF h1, zqk_15, ga, gi, ef, ee, ed, zqg_15_5 kk, zqg_15_2, zqk_16, Option.bind_some, if_true, if_pos c, hpu, eg]
  · rw [if_neg c] at hpu
    simp only [zqg_15_5 h2, zqkF h1, zqk_15, ga, gi, ef, ee, ed, zqg_15_5 kk, zqg_15_2, zqk_16, Option.bind_some, if_true, if_neg c, hpu, eg]
theorem zn_fetchE {op e : Int32} {a v : Int64} {x : zv_X} (hk : zm_k x (b + 75) 9 = true) (fp0 : mX9_peek N (b + 75) 0 x = some (x, v)) (fp1 : mX9_peek N (b + 75) 1 x = some (x, a)) (ewr : mX9_wrong N (b + 75) op a v x = some (x, e)) (he : ¬ e ≤ 0) : mX9_doFetch N (b + 75) op x = (mX9_fail N (b + 75) e x).bind fun o => some o := by
  unfold mX9_doFetch mX9_doFetch_0
  simp only [hk, if_true, fp0, fp1, ewr, Option.bind_some, if_neg he]
theorem zn_fetchG {op kd bg : Int32} {a v v1 v2 val : Int64} {x x1 x2 x3 : zv_X} (hk : zm_k x (b + 75) 9 = true) (hk1 : zm_k x1 (b + 75) 9 = true) (hk2 : zm_k x2 (b + 75) 9 = true) (fp0 : mX9_peek N (b + 75) 0 x = some (x, v)) (fp1 : mX9_peek N (b + 75) 1 x = some (x, a)) (ewr : mX9_wrong N (b + 75) op a v x = some (x, 0)) (f1 : mX9_popValue N (b + 75) x = some (x1, v1)) (f2 : mX9_popValue N (b + 75) x1 = some (x2, v2)) (ak : mX9_arrayKind N op x2 = some (x2, kd))
    (r1 : zm_R x2 (b + 75) 9 37 = some (b + 103)) (r2 : zm_R x2 (b + 75) 9 34 = some (b + 101)) (eb : zm_aI x2 (b + 101) (a.toInt32 - 1) = some bg) (ecl : zm_aL x2 (b + 103) (bg + v.toInt32) = some val) (f8 : mX9_pushValue N (b + 75) kd val x2 = some x3) : mX9_doFetch N (b + 75) op x = some x3 := by
  unfold mX9_doFetch mX9_doFetch_0
  simp only [hk, hk1, hk2, if_true, fp0, fp1, ewr, f1, f2, ak, r1, r2, eb, ecl, f8, Option.bind_some, if_pos (show (0 : Int32) ≤ 0 by decide)]
end ZRD
