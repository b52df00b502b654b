/-! ===== stores (written by wip/gen/ops11.py) ===== -/
section ZST2
variable {N w b K S f0 t p m : Nat} {F ρ α π lt st : Nat → Nat} {D : Nat → Nat → Prop} {C : zC} {M : zM} {r : zv_X} {Q : zQo} {φ : Nat → zFd}
theorem zd_storeE {f : Nat} {op e re : Int32} {v : Int64} {M0 : zM} (h1 : f < 16) (h2 : C.2.2 15 5 = .ref (b + (3 * f + 27))) (ga : mX1_reference N (b + (3 * f + 27)) 2 (zc w b C M0 r) = some (zc w b C M0 r, re)) (gi : mX1_number N (b + (3 * f + 27)) 1 (zc w b C M0 r) = some (zc w b C M0 r, v)) (ef : mX4_faultOfElement N (b + 15) (op - 79) re v.toInt32 (zc w b C M0 r) = some (zc w b C M0 r, e)) (he : ¬ e = 0) : mX4_storeElement N (b + 15) op (zc w b C M0 r) = some (zc w b C M0 r, e) := by
  unfold mX4_storeElement mX4_storeElement_0
  simp only [zqg_15_5 h2, zqkF h1, zqk_15, ga, gi, ef, Option.bind_some, if_true, if_neg he]
theorem zd_storeG {f : Nat} {op re : Int32} {v val : Int64} {M0 : zM} {CS CD C' : zC} (h1 : f < 16) (h2 : C.2.2 15 5 = .ref (b + (3 * f + 27))) (ga : mX1_reference N (b + (3 * f + 27)) 2 (zc w b C M0 r) = some (zc w b C M0 r, re)) (gi : mX1_number N (b + (3 * f + 27)) 1 (zc w b C M0 r) = some (zc w b C M0 r, v)) (ef : mX4_faultOfElement N (b + 15) (op - 79) re v.toInt32 (zc w b C M0 r) = some (zc w b C M0 r, 0))
    (gv : if op = 83 then ∃ q, mX1_reference N (b + (3 * f + 27)) 0 (zc w b C M0 r) = some (zc w b C M0 r, q) ∧ val = q.toInt64 else mX1_number N (b + (3 * f + 27)) 0 (zc w b C M0 r) = some (zc w b C M0 r, val)) (es : mX2_setElement N (b + 16) re v.toInt32 val (zc w b C M0 r) = some (zc w b CS M0 r)) (kk : CS.2.2 15 5 = .ref (b + (3 * f + 27))) (ed : mX1_drop N (b + (3 * f + 27)) 3 (zc w b CS M0 r) = some (zc w b CD M0 r)) (eg : mX4_goOn N (b + 15) 1 (zc w b CD M0 r) = some (zc w b C' M0 r, 0)) : mX4_storeElement N (b + 15) op (zc w b C M0 r) = some (zc w b C' M0 r, 0) := by
  unfold mX4_storeElement mX4_storeElement_0 mX4_storeElement_71
  by_cases c : op = 83
  · rw [if_pos c] at gv
    obtain ⟨q, g1, g2⟩ := gv
    subst g2
    simp only [zqg_15_5 h2, zqkF h1, zqk_15, ga, gi, ef, g1, es, ed, zqg_15_5 kk, zqg_15_2, zqk_16, Option.bind_some, if_true, if_pos c, eg]
  · rw [if_neg c] at gv
    simp only [zqg_15_5 h2, zqkF h1, zqk_15, ga, gi, ef, gv, es, ed, zqg_15_5 kk, zqg_15_2, zqk_16, Option.bind_some, if_true, if_neg c, eg]
theorem zn_storeE {op e : Int32} {a i v : Int64} {x : zv_X} (hk : zm_k x (b + 75) 9 = true) (fp0 : mX9_peek N (b + 75) 0 x = some (x, v)) (fp1 : mX9_peek N (b + 75) 1 x = some (x, i)) (fp2 : mX9_peek N (b + 75) 2 x = some (x, a)) (ewr : mX9_wrong N (b + 75) op a i x = some (x, e)) (he : ¬ e ≤ 0) : mX9_doStore N (b + 75) op x = (mX9_fail N (b + 75) e x).bind fun o => some o := by
  unfold mX9_doStore mX9_doStore_0
  simp only [hk, if_true, fp0, fp1, fp2, ewr, Option.bind_some, if_neg he]
theorem zn_storeG {op bg : Int32} {so : Nat} {a i v v1 v2 v3 : Int64} {x x1 x2 x3 x4 : zv_X} (hso : so = 4 ∨ so = 5 ∨ so = 8 ∨ so = 9 ∨ so = 10 ∨ so = 11 ∨ so = 12) (hk : zm_k x (b + 75) 9 = true) (hk1 : zm_k x1 (b + 75) 9 = true) (hk2 : zm_k x2 (b + 75) 9 = true) (fp0 : mX9_peek N (b + 75) 0 x = some (x, v)) (fp1 : mX9_peek N (b + 75) 1 x = some (x, i)) (fp2 : mX9_peek N (b + 75) 2 x = some (x, a)) (ewr : mX9_wrong N (b + 75) op a i x = some (x, 0)) (f1 : mX9_popValue N (b + 75) x = some (x1, v1)) (f2 : mX9_popValue N (b + 75) x1 = some (x2, v2)) (f3 : mX9_popValue N (b + 75) x2 = some (x3, v3))
    (r0 : zm_R x3 (b + 75) 9 32 = some (b + 99)) (r1 : zm_R x3 (b + 75) 9 37 = some (b + 103)) (r2 : zm_R x3 (b + 75) 9 34 = some (b + 101)) (es : zm_aI x3 (b + 99) (a.toInt32 - 1) = some (Int32.ofNat so)) (eb : zm_aI x3 (b + 101) (a.toInt32 - 1) = some bg) (ecl : zm_sL x3 (b + 103) (bg + i.toInt32) (zmv so v) = some x4) : mX9_doStore N (b + 75) op x = some x4 := by
  unfold mX9_doStore mX9_doStore_0 mX9_doStore_143
  simp only [hk, hk1, hk2, if_true, fp0, fp1, fp2, ewr, f1, f2, f3, r0, r1, r2, es, eb, Option.bind_some, if_pos (show (0 : Int32) ≤ 0 by decide)]
  unfold zmv at ecl
  rcases hso with e | e | e | e | e | e | e <;> subst e <;> simp (decide := true) only [reduceIte] at ecl <;> simp (decide := true) only [Int32.reduceLT, Int32.reduceLE, Int32.reduceAdd, Int32.reduceSub, Int32.reduceMul, Int32.reduceDiv, Int32.reduceMod, ↓reduceIte, Option.bind_some, ecl]
theorem zs_79 (hN : 1700 < N) (hw : w ≤ 400) (hS : S + 1 < 2 ^ 31) (h7 : ∀ k, k < 7 → F k = 0) (hR : zRn w b K F ρ α π r Q D C M S f0 φ) (hO : zOn C M) (hφ : φ f0 = (t, p, m, lt, st)) (hop : uC (Q.2.2.1 m) p = 79) : zStp N w b K F ρ α π r Q C M S := by
  obtain ⟨hc, hm, hK, l', hl, s1, hp, s2, l2, hh, hlen, hfl⟩ := hR.ty hO hφ hop
  have hh : some (s1, l') = some (s2, l2) := hh
  cases hh
  have hp : zpop [1, 1, 3] (zrv st t) = some s1 := hp
  obtain ⟨t, rfl, k0, hp⟩ := zpopc hp
  obtain ⟨t, rfl, k1, hp⟩ := zpopc hp
  obtain ⟨t, rfl, k2, hp⟩ := zpopc hp
  have hp := zpop0 hp
  subst hp
  have hc' := hc
  have hD := hR.2.1.1
  have hK30 := hR.1.2.2.2.1
  obtain ⟨h1, h2, h3, h4, h5, hfr, _, h8, h9, h10, h11, h12⟩ := hc
  have hfr0 := hfr
  obtain ⟨a1, a2, a3, a4, a5, a6, a7, a8, a9⟩ := hfr
  rw [hop] at h12
  have h12 : p + 1 ≤ uLen (Q.2.2.1 m) := h12
  have e0 : ∀ M0, mX1_opcode N (b + (3 * f0 + 27)) (zc w b C M0 r) = some (zc w b C M0 r, 79) := fun M0 => ze_step0 (N := N) (w := w) hc' hop M0
  have fstep : ∀ C0 r0, mX9_step N (b + 75) (zc w b C0 M r0) = mX9_step_74 N (b + 75) (Int32.ofNat f0) (Int32.ofNat m) (Int32.ofNat p) 79 1 0 0 (zc w b C0 M r0) := fun C0 r0 => zn_step (N := N) (w := w) hc' hop (n := 1) rfl rfl rfl C0 r0
  have hd := hfr0.drop (t' := t) (by omega)
  have uv := (a9 (t + 2) (by omega)).2.2.2
  rw [k0] at uv
  have u0 := (a9 (t + 1) (by omega)).2.2.2
  rw [k1] at u0
  have n0 := u0.num (Or.inl rfl)
  have hint := u0.int
  have u1 := (a9 t (by omega)).2.2.2
  rw [k2] at u1
  have gi : ∀ M0, mX1_number N (b + (3 * f0 + 27)) 1 (zc w b C M0 r) = some (zc w b C M0 r, M.2 45 (12 * f0 + (t + 1))) := fun M0 => by
    have := zf_number (N := N) (w := w) (b := b) (C := C) (r := r) (t := t + 3) (k := 1) h1 a1 a3 (by omega) M0
    rw [show 15 + (t + 3) - 1 = 16 + (t + 1) by omega, n0.1] at this
    exact this
  have ga : ∀ M0, mX1_reference N (b + (3 * f0 + 27)) 2 (zc w b C M0 r) = some (zc w b C M0 r, C.1 (f0 + 140) (16 + t)) := fun M0 => by
    have := zf_reference (N := N) (w := w) (b := b) (C := C) (r := r) (t := t + 3) (k := 2) h1 a1 a3 (by omega) M0
    rw [show 15 + (t + 3) - 2 = 16 + t by omega] at this
    exact this
  have fp0 : ∀ C0 r0, mX9_peek N (b + 75) 0 (zc w b C0 M r0) = some (zc w b C0 M r0, M.2 45 (12 * f0 + (t + 2))) := fun C0 r0 => zn_peek (N := N) (w := w) (b := b) (M := M) (t := t + 3) (k := 0) h1 h3 a2 a3 (by omega) C0 r0
  have fp1 : ∀ C0 r0, mX9_peek N (b + 75) 1 (zc w b C0 M r0) = some (zc w b C0 M r0, M.2 45 (12 * f0 + (t + 1))) := fun C0 r0 => zn_peek (N := N) (w := w) (b := b) (M := M) (t := t + 3) (k := 1) h1 h3 a2 a3 (by omega) C0 r0
  have fp2 : ∀ C0 r0, mX9_peek N (b + 75) 2 (zc w b C0 M r0) = some (zc w b C0 M r0, M.2 45 (12 * f0 + t)) := fun C0 r0 => zn_peek (N := N) (w := w) (b := b) (M := M) (t := t + 3) (k := 2) h1 h3 a2 a3 (by omega) C0 r0
  obtain ⟨l3, h3', h4'⟩ := (hfl lt hl).2 (by unfold zgoes; decide)
  have hs : ∀ M0, mX4_step N (b + 15) (zc w b C M0 r) = (mX4_storeElement N (b + 15) 79 (zc w b C M0 r)).bind fun o => some (o.1, o.2) := fun M0 => by
    simp (decide := true) only [mX4_step_107, mX4_step_249, mX4_step_0, mX4_step, e0, zqg_15_5 h2, zqkF h1, id, zqk_15, zqk_16, zqg_15_2, Option.map_some, Int32.reduceLT, Int32.reduceLE, Int32.reduceAdd, Int32.reduceSub, Int32.reduceMul, Int32.reduceDiv, Int32.reduceMod, ↓reduceIte, Option.bind_some]
  have fs : ∀ C0 r0, mX9_step N (b + 75) (zc w b C0 M r0) = (mX9_doStore N (b + 75) 79 (zc w b C0 M r0)).bind fun o => mX9_step_327 N (b + 75) (Int32.ofNat f0) (Int32.ofNat p) 1 o := fun C0 r0 => by
    refine (fstep C0 r0).trans ?_
    simp (decide := true) only [mX9_step_74, zqk_75, id, Option.map_some, Int32.reduceLT, Int32.reduceLE, Int32.reduceAdd, Int32.reduceSub, Int32.reduceMul, Int32.reduceDiv, Int32.reduceMod, ↓reduceIte, Option.bind_some]
  rcases zRf.cs hD u1.ref with ⟨hz, hv⟩ | ⟨u, tt, hd2, hre, hv, hz, hzm, hti⟩
  · have hzm : lg_cmp (M.2 45 (12 * f0 + t)) 0 = 0 := zw_cmp.mpr hv
    have ef : ∀ M0, mX4_faultOfElement N (b + 15) 0 (C.1 (f0 + 140) (16 + t)) (M.2 45 (12 * f0 + (t + 1))).toInt32 (zc w b C M0 r) = some (zc w b C M0 r, 2) := fun M0 => by
      unfold mX4_faultOfElement mX4_faultOfElement_0
      rw [if_pos hz]
    have ewr : ∀ C0 r0, mX9_wrong N (b + 75) 79 (M.2 45 (12 * f0 + t)) (M.2 45 (12 * f0 + (t + 1))) (zc w b C0 M r0) = some (zc w b C0 M r0, 2) := fun C0 r0 => by
      unfold mX9_wrong mX9_wrong_0
      rw [if_pos hzm]
    refine zStp_e (e := 2) hN hw hS h7 hR hO (by decide) (fun M0 => ?_) (Or.inl ⟨Int32.ofNat f0, Int32.ofNat p, 1, fun C0 r0 => ?_⟩)
    · rw [hs, zd_storeE (op := 79) (e := 2) h1 h2 (ga M0) (gi M0) (ef M0) (by decide)]
      rfl
    · rw [fs, zn_storeE (op := 79) (e := 2) zqk_75 (fp0 C0 r0) (fp1 C0 r0) (fp2 C0 r0) (ewr C0 r0) (by decide)]
      show Option.bind _ _ = (mX9_fail N (b + 75) 2 (zc w b C0 M r0)).bind _
      cases mX9_fail N (b + 75) 2 (zc w b C0 M r0) <;> rfl
  · obtain ⟨so, cl, n, hk⟩ := hR.2.1.pk hw hR.1 hd2
    have ef0 : ∀ M0, _ := fun M0 => zd_fault (N := N) (w := w) (b := b) (r := r) (use := 0) (i := (M.2 45 (12 * f0 + (t + 1))).toInt32) hw hK30 hk (by decide) M0
    have ew0 : ∀ C0 r0, _ := fun C0 r0 => zn_wrong (N := N) (w := w) (b := b) (use := 0) (op := 79) (v := M.2 45 (12 * f0 + (t + 1))) hk (by decide) (by decide) hint C0 r0
    rw [← hre] at ef0
    rw [← hv] at ew0
    by_cases c1 : zok 0 so = true
    · simp only [if_pos c1] at ef0 ew0
      by_cases c2 : 0 ≤ (M.2 45 (12 * f0 + (t + 1))).toInt32 ∧ (M.2 45 (12 * f0 + (t + 1))).toInt32 < Int32.ofNat n
      · simp only [if_pos c2] at ef0 ew0
        have ef : ∀ M0, mX4_faultOfElement N (b + 15) 0 (C.1 (f0 + 140) (16 + t)) (M.2 45 (12 * f0 + (t + 1))).toInt32 (zc w b C M0 r) = some (zc w b C M0 r, 0) := ef0
        have ewr : ∀ C0 r0, mX9_wrong N (b + 75) 79 (M.2 45 (12 * f0 + t)) (M.2 45 (12 * f0 + (t + 1))) (zc w b C0 M r0) = some (zc w b C0 M r0, 0) := ew0
        obtain ⟨k, hk1, hk2⟩ := zi_of c2.1
        have hkn : k < n := by
          have := c2.2
          rw [hk1, zi_lt hk2 (by have := hk.2.2.2.2.2.1; omega)] at this
          exact this
        have hso0 : so ≠ 0 := fun e => by rw [e] at c1; exact absurd c1 (by decide)
        have hk' := hk
        obtain ⟨q1, q2, q3, q4, q5, q6, q7, q8, q9, q10, q11, q12, q13, q14, q15, q16, q17, q18⟩ := hk
        have hz' : zgz M tt = n := by unfold zgz; rw [q5, zN_nat (by omega)]
        have es : ∀ M0, mX2_setElement N (b + 16) (C.1 (f0 + 140) (16 + t)) (M.2 45 (12 * f0 + (t + 1))).toInt32 (M.2 45 (12 * f0 + (t + 2))) (zc w b C M0 r) = some (zc w b (zSE C (zha C u + 2) so k (M.2 45 (12 * f0 + (t + 2)))) M0 r) := fun M0 => by
          rw [hre, hk1]
          exact zd_setElement (N := N) (w := w) (b := b) (r := r) hw hk' hso0 hkn M0
        have oS : ∀ o j, o ≠ 17 → (zSE C (zha C u + 2) so k (M.2 45 (12 * f0 + (t + 2)))).1 o j = C.1 o j := fun o j h => zSE_o h
        have oS2 : (zSE C (zha C u + 2) so k (M.2 45 (12 * f0 + (t + 2)))).2 = C.2 := zSE_2
        have oC : ∀ o j, o ≠ f0 + 100 → (zI (zI (zSE C (zha C u + 2) so k (M.2 45 (12 * f0 + (t + 2)))) (f0 + 100) 2 (Int32.ofNat (16 + t))) (f0 + 100) 4 (Int32.ofNat (p + 1))).1 o j = (zSE C (zha C u + 2) so k (M.2 45 (12 * f0 + (t + 2)))).1 o j := fun o j h => by rw [zI1, if_neg (fun q => h q.1), zI1, if_neg (fun q => h q.1)]
        have oM : ∀ o j, ¬ (j = f0 ∧ (o = 41 ∨ o = 42)) → (zJ (zK (zMD M f0 t) 37 (zgb M tt + k) (zmv so (M.2 45 (12 * f0 + (t + 2))))) 41 f0 (Int32.ofNat (p + 1))).1 o j = M.1 o j := fun o j h => by
          unfold zMD
          rw [zJ1, if_neg (by omega), zK1, zJ1, if_neg (by omega)]
        have oM2 : ∀ o j, (zJ (zK (zMD M f0 t) 37 (zgb M tt + k) (zmv so (M.2 45 (12 * f0 + (t + 2))))) 41 f0 (Int32.ofNat (p + 1))).2 o j = if o = 37 ∧ j = zgb M tt + k then zmv so (M.2 45 (12 * f0 + (t + 2))) else M.2 o j := fun o j => rfl
        have hHp : zHp w K F ρ D (zI (zI (zSE C (zha C u + 2) so k (M.2 45 (12 * f0 + (t + 2)))) (f0 + 100) 2 (Int32.ofNat (16 + t))) (f0 + 100) 4 (Int32.ofNat (p + 1))) (zJ (zK (zMD M f0 t) 37 (zgb M tt + k) (zmv so (M.2 45 (12 * f0 + (t + 2))))) 41 f0 (Int32.ofNat (p + 1))) S := by
          refine zHp.wr hw hR.1 hR.2.1 hd2 (fun o j x1 x2 x3 => ?_) (fun o j x1 x2 => oM o j (by omega)) (oM _ _ (by omega)) (oM _ _ (by omega)) (fun j x1 => ?_) (fun _ so' cl' n' hk2 j hj => ?_)
          · rw [oC o j (by omega)]
            by_cases c : o = 17
            · subst c
              refine zSE_out hkn ?_
              rw [q11] at x3
              have := zwd_sz so n
              omega
            · exact oS o j c
          · rw [hz'] at x1
            rw [oM2, if_neg (by omega)]
          · have w1 : so = so' := by
              have := hk2.2.2.1
              rw [q3] at this
              exact zi_inj (by omega) (by have := hk2.2.2.2.2.2.2.2.1; omega) this
            have w2 : cl = cl' := by
              have := hk2.2.2.2.1
              rw [q4] at this
              exact zi_inj (by omega) (by have := hk2.2.2.2.2.2.2.1; omega) this
            have w3 : n = n' := by
              have := hk2.2.2.2.2.1
              rw [q5] at this
              exact zi_inj (by omega) (by have := hk2.2.2.2.2.2.1; omega) this
            subst w1; subst w2; subst w3
            have hq := q18 j hj
            have eW : (fun i => (zI (zI (zSE C (zha C u + 2) so k (M.2 45 (12 * f0 + (t + 2)))) (f0 + 100) 2 (Int32.ofNat (16 + t))) (f0 + 100) 4 (Int32.ofNat (p + 1))).1 17 (zha C u + 2 + i)) = fun i => (zSE C (zha C u + 2) so k (M.2 45 (12 * f0 + (t + 2)))).1 17 (zha C u + 2 + i) := funext fun i => oC _ _ (by omega)
            rw [oM2]
            have hso : so ≠ 12 := fun e => by rw [e] at c1; exact absurd c1 (by decide)
            rw [if_neg (by omega)] at hq ⊢
            rw [eW, zSE_el (by omega) (fun e => uv.int)]
            by_cases c : j = k
            · rw [if_pos c, if_pos ⟨rfl, by omega⟩]
            · rw [if_neg c, if_neg (by omega)]
              exact hq
        have hfr2 : zFr D (zI (zI (zSE C (zha C u + 2) so k (M.2 45 (12 * f0 + (t + 2)))) (f0 + 100) 2 (Int32.ofNat (16 + t))) (f0 + 100) 4 (Int32.ofNat (p + 1))) (zJ (zK (zMD M f0 t) 37 (zgb M tt + k) (zmv so (M.2 45 (12 * f0 + (t + 2))))) 41 f0 (Int32.ofNat (p + 1))) Q.2.1 f0 t (p + 1) m lt st := by
          have hb := hd.go (p + 1)
          refine hb.mv2 ?_ ?_ ?_ (fun j => ?_) (fun j => ?_) ?_ ?_ ?_ (fun j hj => ⟨?_, ?_⟩) (fun j hj => ⟨?_, ?_⟩)
          · rw [zI1, if_neg (by omega), zI1, if_pos ⟨rfl, rfl⟩, zI1, if_neg (by omega), zI1, if_pos ⟨rfl, rfl⟩]
          · rw [zI1, if_pos ⟨rfl, rfl⟩, zI1, if_pos ⟨rfl, rfl⟩]
          · show (zSE C (zha C u + 2) so k (M.2 45 (12 * f0 + (t + 2)))).2.2 (f0 + 100) 3 = C.2.2 (f0 + 100) 3
            rw [oS2]
          · show (zSE C (zha C u + 2) so k (M.2 45 (12 * f0 + (t + 2)))).2.1 (f0 + 120) j = C.2.1 (f0 + 120) j
            rw [oS2]
          · rw [oC _ _ (by omega), oS _ _ (by omega), zI1, if_neg (by omega), zI1, if_neg (by omega)]
          · unfold zMD; simp (disch := omega) only [zJ1, zK1, if_neg]
          · unfold zMD; simp (disch := omega) only [zJ1, zK1, if_pos, and_self, if_true]
          · unfold zMD; simp (disch := omega) only [zJ1, zK1, if_neg]
          · unfold zMD; simp (disch := omega) only [zJ1, zK1, if_neg]
          · rw [oM2, if_neg (by omega)]; rfl
          · unfold zMD; simp (disch := omega) only [zJ1, zK1, if_neg]
          · rw [oM2, if_neg (by omega)]; rfl
        obtain ⟨s1, s2, φ', s3, s4⟩ := hR.wr (t' := t) (p' := p + 1) (lt' := lt) (st' := st) hO hφ hfr2 (fun o j x1 x2 x3 => by rw [oC o j x1]; exact oS o j x3) (fun o j x1 => by show (zSE C (zha C u + 2) so k (M.2 45 (12 * f0 + (t + 2)))).2.1 o j = C.2.1 o j; rw [oS2]) (by show (zSE C (zha C u + 2) so k (M.2 45 (12 * f0 + (t + 2)))).2.2 = C.2.2; rw [oS2]) (fun o j x1 x2 x3 => oM o j x1) (fun o j x1 x2 x3 => by rw [oM2, if_neg (by omega)]) hHp ⟨l3, h3', h4'⟩
        refine ⟨_, _, fun M0 => ?_, fun C0 r0 => ?_, s1, s2, S, Nat.le_succ S, Or.inl ⟨D, f0, φ', s3, s4⟩⟩
        · have kk : (zSE C (zha C u + 2) so k (M.2 45 (12 * f0 + (t + 2)))).2.2 15 5 = .ref (b + (3 * f0 + 27)) := by rw [oS2]; exact h2
          have e3 : mX1_drop N (b + (3 * f0 + 27)) 3 (zc w b (zSE C (zha C u + 2) so k (M.2 45 (12 * f0 + (t + 2)))) M0 r) = some (zc w b (zI (zSE C (zha C u + 2) so k (M.2 45 (12 * f0 + (t + 2)))) (f0 + 100) 2 (Int32.ofNat (16 + t))) M0 r) := zf_drop (N := N) (w := w) (b := b) (r := r) (t := t + 3) (k := 3) h1 ((oS _ _ (by omega)).trans a1) a3 (by omega) M0
          have e5 : mX4_goOn N (b + 15) 1 (zc w b (zI (zSE C (zha C u + 2) so k (M.2 45 (12 * f0 + (t + 2)))) (f0 + 100) 2 (Int32.ofNat (16 + t))) M0 r) = some (zc w b (zI (zI (zSE C (zha C u + 2) so k (M.2 45 (12 * f0 + (t + 2)))) (f0 + 100) 2 (Int32.ofNat (16 + t))) (f0 + 100) 4 (Int32.ofNat (p + 1))) M0 r, 0) := zf_goOn (C := zI (zSE C (zha C u + 2) so k (M.2 45 (12 * f0 + (t + 2)))) (f0 + 100) 2 (Int32.ofNat (16 + t))) (n := 1) (p := p) h1 kk (zp4_I2.trans ((oS _ _ (by omega)).trans a4)) M0
          have gv : mX1_number N (b + (3 * f0 + 27)) 0 (zc w b C M0 r) = some (zc w b C M0 r, (M.2 45 (12 * f0 + (t + 2)))) := by
            have := zf_number (N := N) (w := w) (b := b) (C := C) (r := r) (t := t + 3) (k := 0) h1 a1 a3 (by omega) M0
            rw [show 15 + (t + 3) - 0 = 16 + (t + 2) by omega, (uv.num (Or.inl rfl)).1] at this
            exact this
          unfold zcs
          rw [hs, zd_storeG (op := 79) h1 h2 (ga M0) (gi M0) (ef M0) (by rw [if_neg (by decide)]; exact gv) (es M0) kk e3 e5]
          rfl
        · have f1 : mX9_popValue N (b + 75) (zc w b C0 M r0) = some (zc w b C0 (zMD M f0 (t + 2)) r0, M.2 45 (12 * f0 + (t + 2))) := zn_pop (N := N) (w := w) (b := b) (M := M) (t := t + 2) h1 h3 a2 (by omega) C0 r0
          have f2 : mX9_popValue N (b + 75) (zc w b C0 (zMD M f0 (t + 2)) r0) = some (zc w b C0 (zMD M f0 (t + 1)) r0, M.2 45 (12 * f0 + (t + 1))) := by
            have := zn_pop (N := N) (w := w) (b := b) (M := zMD M f0 (t + 2)) (t := t + 1) h1 (zmd100.trans h3) zmd42 (by omega) C0 r0
            rw [zMDD] at this; exact this
          have f3 : mX9_popValue N (b + 75) (zc w b C0 (zMD M f0 (t + 1)) r0) = some (zc w b C0 (zMD M f0 t) r0, M.2 45 (12 * f0 + t)) := by
            have := zn_pop (N := N) (w := w) (b := b) (M := zMD M f0 (t + 1)) (t := t) h1 (zmd100.trans h3) zmd42 (by omega) C0 r0
            rw [zMDD] at this; exact this
          have esn : zm_aI (zc w b C0 (zMD M f0 t) r0) (b + 99) (Int32.ofNat tt) = some (Int32.ofNat so) := by
            rw [zqa_99 q2]
            unfold zMD
            rw [zJ1, if_neg (by omega), q3]
          have eb : zm_aI (zc w b C0 (zMD M f0 t) r0) (b + 101) (Int32.ofNat tt) = some (Int32.ofNat (zgb M tt)) := by
            rw [zqa_101 q2]
            unfold zMD
            rw [zJ1, if_neg (by omega)]
            exact congrArg some (zN_of _).symm
          have ecl : zm_sL (zc w b C0 (zMD M f0 t) r0) (b + 103) (Int32.ofNat (zgb M tt) + (M.2 45 (12 * f0 + (t + 1))).toInt32) (zmv so (M.2 45 (12 * f0 + (t + 2)))) = some (zc w b C0 (zK (zMD M f0 t) 37 (zgb M tt + k) (zmv so (M.2 45 (12 * f0 + (t + 2))))) r0) := by
            rw [hk1, zi_add, zqs_103 (by omega)]
          have f9 : mX9_step_327 N (b + 75) (Int32.ofNat f0) (Int32.ofNat p) 1 (zc w b C0 (zK (zMD M f0 t) 37 (zgb M tt + k) (zmv so (M.2 45 (12 * f0 + (t + 2))))) r0) = some (zc w b C0 (zJ (zK (zMD M f0 t) 37 (zgb M tt + k) (zmv so (M.2 45 (12 * f0 + (t + 2))))) 41 f0 (Int32.ofNat (p + 1))) r0) := zn_on (N := N) (w := w) (b := b) (M := zK (zMD M f0 t) 37 (zgb M tt + k) (zmv so (M.2 45 (12 * f0 + (t + 2))))) (p := p) (n := 1) h1 ((zmd100 (M := M) (f := f0) (t := t)).trans h4) ((zmd100 (M := M) (f := f0) (t := t)).trans h5) C0 r0
          rw [fs, zn_storeG (op := 79) (so := so) (by omega) zqk_75 zqk_75 zqk_75 (fp0 C0 r0) (fp1 C0 r0) (fp2 C0 r0) (ewr C0 r0) f1 f2 f3 zqg_75_32 zqg_75_37 zqg_75_34 (by rw [hti]; exact esn) (by rw [hti]; exact eb) ecl, Option.bind_some]
          exact f9
      · simp only [if_neg c2] at ef0 ew0
        have ef : ∀ M0, mX4_faultOfElement N (b + 15) 0 (C.1 (f0 + 140) (16 + t)) (M.2 45 (12 * f0 + (t + 1))).toInt32 (zc w b C M0 r) = some (zc w b C M0 r, 3) := ef0
        have ewr : ∀ C0 r0, mX9_wrong N (b + 75) 79 (M.2 45 (12 * f0 + t)) (M.2 45 (12 * f0 + (t + 1))) (zc w b C0 M r0) = some (zc w b C0 M r0, 3) := ew0
        refine zStp_e (e := 3) hN hw hS h7 hR hO (by decide) (fun M0 => ?_) (Or.inl ⟨Int32.ofNat f0, Int32.ofNat p, 1, fun C0 r0 => ?_⟩)
        · rw [hs, zd_storeE (op := 79) (e := 3) h1 h2 (ga M0) (gi M0) (ef M0) (by decide)]
          rfl
        · rw [fs, zn_storeE (op := 79) (e := 3) zqk_75 (fp0 C0 r0) (fp1 C0 r0) (fp2 C0 r0) (ewr C0 r0) (by decide)]
          show Option.bind _ _ = (mX9_fail N (b + 75) 3 (zc w b C0 M r0)).bind _
          cases mX9_fail N (b + 75) 3 (zc w b C0 M r0) <;> rfl
    · simp only [if_neg c1] at ef0 ew0
      have ef : ∀ M0, mX4_faultOfElement N (b + 15) 0 (C.1 (f0 + 140) (16 + t)) (M.2 45 (12 * f0 + (t + 1))).toInt32 (zc w b C M0 r) = some (zc w b C M0 r, 5) := ef0
      have ewr : ∀ C0 r0, mX9_wrong N (b + 75) 79 (M.2 45 (12 * f0 + t)) (M.2 45 (12 * f0 + (t + 1))) (zc w b C0 M r0) = some (zc w b C0 M r0, 5) := ew0
      refine zStp_e (e := 5) hN hw hS h7 hR hO (by decide) (fun M0 => ?_) (Or.inl ⟨Int32.ofNat f0, Int32.ofNat p, 1, fun C0 r0 => ?_⟩)
      · rw [hs, zd_storeE (op := 79) (e := 5) h1 h2 (ga M0) (gi M0) (ef M0) (by decide)]
        rfl
      · rw [fs, zn_storeE (op := 79) (e := 5) zqk_75 (fp0 C0 r0) (fp1 C0 r0) (fp2 C0 r0) (ewr C0 r0) (by decide)]
        show Option.bind _ _ = (mX9_fail N (b + 75) 5 (zc w b C0 M r0)).bind _
        cases mX9_fail N (b + 75) 5 (zc w b C0 M r0) <;> rfl

theorem zs_80 (hN : 1700 < N) (hw : w ≤ 400) (hS : S + 1 < 2 ^ 31) (h7 : ∀ k, k < 7 → F k = 0) (hR : zRn w b K F ρ α π r Q D C M S f0 φ) (hO : zOn C M) (hφ : φ f0 = (t, p, m, lt, st)) (hop : uC (Q.2.2.1 m) p = 80) : zStp N w b K F ρ α π r Q C M S := by
  obtain ⟨hc, hm, hK, l', hl, s1, hp, s2, l2, hh, hlen, hfl⟩ := hR.ty hO hφ hop
  have hh : some (s1, l') = some (s2, l2) := hh
  cases hh
  have hp : zpop [2, 1, 3] (zrv st t) = some s1 := hp
  obtain ⟨t, rfl, k0, hp⟩ := zpopc hp
  obtain ⟨t, rfl, k1, hp⟩ := zpopc hp
  obtain ⟨t, rfl, k2, hp⟩ := zpopc hp
  have hp := zpop0 hp
  subst hp
  have hc' := hc
  have hD := hR.2.1.1
  have hK30 := hR.1.2.2.2.1
  obtain ⟨h1, h2, h3, h4, h5, hfr, _, h8, h9, h10, h11, h12⟩ := hc
  have hfr0 := hfr
  obtain ⟨a1, a2, a3, a4, a5, a6, a7, a8, a9⟩ := hfr
  rw [hop] at h12
  have h12 : p + 1 ≤ uLen (Q.2.2.1 m) := h12
  have e0 : ∀ M0, mX1_opcode N (b + (3 * f0 + 27)) (zc w b C M0 r) = some (zc w b C M0 r, 80) := fun M0 => ze_step0 (N := N) (w := w) hc' hop M0
  have fstep : ∀ C0 r0, mX9_step N (b + 75) (zc w b C0 M r0) = mX9_step_74 N (b + 75) (Int32.ofNat f0) (Int32.ofNat m) (Int32.ofNat p) 80 1 0 0 (zc w b C0 M r0) := fun C0 r0 => zn_step (N := N) (w := w) hc' hop (n := 1) rfl rfl rfl C0 r0
  have hd := hfr0.drop (t' := t) (by omega)
  have uv := (a9 (t + 2) (by omega)).2.2.2
  rw [k0] at uv
  have u0 := (a9 (t + 1) (by omega)).2.2.2
  rw [k1] at u0
  have n0 := u0.num (Or.inl rfl)
  have hint := u0.int
  have u1 := (a9 t (by omega)).2.2.2
  rw [k2] at u1
  have gi : ∀ M0, mX1_number N (b + (3 * f0 + 27)) 1 (zc w b C M0 r) = some (zc w b C M0 r, M.2 45 (12 * f0 + (t + 1))) := fun M0 => by
    have := zf_number (N := N) (w := w) (b := b) (C := C) (r := r) (t := t + 3) (k := 1) h1 a1 a3 (by omega) M0
    rw [show 15 + (t + 3) - 1 = 16 + (t + 1) by omega, n0.1] at this
    exact this
  have ga : ∀ M0, mX1_reference N (b + (3 * f0 + 27)) 2 (zc w b C M0 r) = some (zc w b C M0 r, C.1 (f0 + 140) (16 + t)) := fun M0 => by
    have := zf_reference (N := N) (w := w) (b := b) (C := C) (r := r) (t := t + 3) (k := 2) h1 a1 a3 (by omega) M0
    rw [show 15 + (t + 3) - 2 = 16 + t by omega] at this
    exact this
  have fp0 : ∀ C0 r0, mX9_peek N (b + 75) 0 (zc w b C0 M r0) = some (zc w b C0 M r0, M.2 45 (12 * f0 + (t + 2))) := fun C0 r0 => zn_peek (N := N) (w := w) (b := b) (M := M) (t := t + 3) (k := 0) h1 h3 a2 a3 (by omega) C0 r0
  have fp1 : ∀ C0 r0, mX9_peek N (b + 75) 1 (zc w b C0 M r0) = some (zc w b C0 M r0, M.2 45 (12 * f0 + (t + 1))) := fun C0 r0 => zn_peek (N := N) (w := w) (b := b) (M := M) (t := t + 3) (k := 1) h1 h3 a2 a3 (by omega) C0 r0
  have fp2 : ∀ C0 r0, mX9_peek N (b + 75) 2 (zc w b C0 M r0) = some (zc w b C0 M r0, M.2 45 (12 * f0 + t)) := fun C0 r0 => zn_peek (N := N) (w := w) (b := b) (M := M) (t := t + 3) (k := 2) h1 h3 a2 a3 (by omega) C0 r0
  obtain ⟨l3, h3', h4'⟩ := (hfl lt hl).2 (by unfold zgoes; decide)
  have hs : ∀ M0, mX4_step N (b + 15) (zc w b C M0 r) = (mX4_storeElement N (b + 15) 80 (zc w b C M0 r)).bind fun o => some (o.1, o.2) := fun M0 => by
    simp (decide := true) only [mX4_step_107, mX4_step_249, mX4_step_0, mX4_step, e0, zqg_15_5 h2, zqkF h1, id, zqk_15, zqk_16, zqg_15_2, Option.map_some, Int32.reduceLT, Int32.reduceLE, Int32.reduceAdd, Int32.reduceSub, Int32.reduceMul, Int32.reduceDiv, Int32.reduceMod, ↓reduceIte, Option.bind_some]
  have fs : ∀ C0 r0, mX9_step N (b + 75) (zc w b C0 M r0) = (mX9_doStore N (b + 75) 80 (zc w b C0 M r0)).bind fun o => mX9_step_327 N (b + 75) (Int32.ofNat f0) (Int32.ofNat p) 1 o := fun C0 r0 => by
    refine (fstep C0 r0).trans ?_
    simp (decide := true) only [mX9_step_74, zqk_75, id, Option.map_some, Int32.reduceLT, Int32.reduceLE, Int32.reduceAdd, Int32.reduceSub, Int32.reduceMul, Int32.reduceDiv, Int32.reduceMod, ↓reduceIte, Option.bind_some]
  rcases zRf.cs hD u1.ref with ⟨hz, hv⟩ | ⟨u, tt, hd2, hre, hv, hz, hzm, hti⟩
  · have hzm : lg_cmp (M.2 45 (12 * f0 + t)) 0 = 0 := zw_cmp.mpr hv
    have ef : ∀ M0, mX4_faultOfElement N (b + 15) 1 (C.1 (f0 + 140) (16 + t)) (M.2 45 (12 * f0 + (t + 1))).toInt32 (zc w b C M0 r) = some (zc w b C M0 r, 2) := fun M0 => by
      unfold mX4_faultOfElement mX4_faultOfElement_0
      rw [if_pos hz]
    have ewr : ∀ C0 r0, mX9_wrong N (b + 75) 80 (M.2 45 (12 * f0 + t)) (M.2 45 (12 * f0 + (t + 1))) (zc w b C0 M r0) = some (zc w b C0 M r0, 2) := fun C0 r0 => by
      unfold mX9_wrong mX9_wrong_0
      rw [if_pos hzm]
    refine zStp_e (e := 2) hN hw hS h7 hR hO (by decide) (fun M0 => ?_) (Or.inl ⟨Int32.ofNat f0, Int32.ofNat p, 1, fun C0 r0 => ?_⟩)
    · rw [hs, zd_storeE (op := 80) (e := 2) h1 h2 (ga M0) (gi M0) (ef M0) (by decide)]
      rfl
    · rw [fs, zn_storeE (op := 80) (e := 2) zqk_75 (fp0 C0 r0) (fp1 C0 r0) (fp2 C0 r0) (ewr C0 r0) (by decide)]
      show Option.bind _ _ = (mX9_fail N (b + 75) 2 (zc w b C0 M r0)).bind _
      cases mX9_fail N (b + 75) 2 (zc w b C0 M r0) <;> rfl
  · obtain ⟨so, cl, n, hk⟩ := hR.2.1.pk hw hR.1 hd2
    have ef0 : ∀ M0, _ := fun M0 => zd_fault (N := N) (w := w) (b := b) (r := r) (use := 1) (i := (M.2 45 (12 * f0 + (t + 1))).toInt32) hw hK30 hk (by decide) M0
    have ew0 : ∀ C0 r0, _ := fun C0 r0 => zn_wrong (N := N) (w := w) (b := b) (use := 1) (op := 80) (v := M.2 45 (12 * f0 + (t + 1))) hk (by decide) (by decide) hint C0 r0
    rw [← hre] at ef0
    rw [← hv] at ew0
    by_cases c1 : zok 1 so = true
    · simp only [if_pos c1] at ef0 ew0
      by_cases c2 : 0 ≤ (M.2 45 (12 * f0 + (t + 1))).toInt32 ∧ (M.2 45 (12 * f0 + (t + 1))).toInt32 < Int32.ofNat n
      · simp only [if_pos c2] at ef0 ew0
        have ef : ∀ M0, mX4_faultOfElement N (b + 15) 1 (C.1 (f0 + 140) (16 + t)) (M.2 45 (12 * f0 + (t + 1))).toInt32 (zc w b C M0 r) = some (zc w b C M0 r, 0) := ef0
        have ewr : ∀ C0 r0, mX9_wrong N (b + 75) 80 (M.2 45 (12 * f0 + t)) (M.2 45 (12 * f0 + (t + 1))) (zc w b C0 M r0) = some (zc w b C0 M r0, 0) := ew0
        obtain ⟨k, hk1, hk2⟩ := zi_of c2.1
        have hkn : k < n := by
          have := c2.2
          rw [hk1, zi_lt hk2 (by have := hk.2.2.2.2.2.1; omega)] at this
          exact this
        have hso0 : so ≠ 0 := fun e => by rw [e] at c1; exact absurd c1 (by decide)
        have hk' := hk
        obtain ⟨q1, q2, q3, q4, q5, q6, q7, q8, q9, q10, q11, q12, q13, q14, q15, q16, q17, q18⟩ := hk
        have hz' : zgz M tt = n := by unfold zgz; rw [q5, zN_nat (by omega)]
        have es : ∀ M0, mX2_setElement N (b + 16) (C.1 (f0 + 140) (16 + t)) (M.2 45 (12 * f0 + (t + 1))).toInt32 (M.2 45 (12 * f0 + (t + 2))) (zc w b C M0 r) = some (zc w b (zSE C (zha C u + 2) so k (M.2 45 (12 * f0 + (t + 2)))) M0 r) := fun M0 => by
          rw [hre, hk1]
          exact zd_setElement (N := N) (w := w) (b := b) (r := r) hw hk' hso0 hkn M0
        have oS : ∀ o j, o ≠ 17 → (zSE C (zha C u + 2) so k (M.2 45 (12 * f0 + (t + 2)))).1 o j = C.1 o j := fun o j h => zSE_o h
        have oS2 : (zSE C (zha C u + 2) so k (M.2 45 (12 * f0 + (t + 2)))).2 = C.2 := zSE_2
        have oC : ∀ o j, o ≠ f0 + 100 → (zI (zI (zSE C (zha C u + 2) so k (M.2 45 (12 * f0 + (t + 2)))) (f0 + 100) 2 (Int32.ofNat (16 + t))) (f0 + 100) 4 (Int32.ofNat (p + 1))).1 o j = (zSE C (zha C u + 2) so k (M.2 45 (12 * f0 + (t + 2)))).1 o j := fun o j h => by rw [zI1, if_neg (fun q => h q.1), zI1, if_neg (fun q => h q.1)]
        have oM : ∀ o j, ¬ (j = f0 ∧ (o = 41 ∨ o = 42)) → (zJ (zK (zMD M f0 t) 37 (zgb M tt + k) (zmv so (M.2 45 (12 * f0 + (t + 2))))) 41 f0 (Int32.ofNat (p + 1))).1 o j = M.1 o j := fun o j h => by
          unfold zMD
          rw [zJ1, if_neg (by omega), zK1, zJ1, if_neg (by omega)]
        have oM2 : ∀ o j, (zJ (zK (zMD M f0 t) 37 (zgb M tt + k) (zmv so (M.2 45 (12 * f0 + (t + 2))))) 41 f0 (Int32.ofNat (p + 1))).2 o j = if o = 37 ∧ j = zgb M tt + k then zmv so (M.2 45 (12 * f0 + (t + 2))) else M.2 o j := fun o j => rfl
        have hHp : zHp w K F ρ D (zI (zI (zSE C (zha C u + 2) so k (M.2 45 (12 * f0 + (t + 2)))) (f0 + 100) 2 (Int32.ofNat (16 + t))) (f0 + 100) 4 (Int32.ofNat (p + 1))) (zJ (zK (zMD M f0 t) 37 (zgb M tt + k) (zmv so (M.2 45 (12 * f0 + (t + 2))))) 41 f0 (Int32.ofNat (p + 1))) S := by
          refine zHp.wr hw hR.1 hR.2.1 hd2 (fun o j x1 x2 x3 => ?_) (fun o j x1 x2 => oM o j (by omega)) (oM _ _ (by omega)) (oM _ _ (by omega)) (fun j x1 => ?_) (fun _ so' cl' n' hk2 j hj => ?_)
          · rw [oC o j (by omega)]
            by_cases c : o = 17
            · subst c
              refine zSE_out hkn ?_
              rw [q11] at x3
              have := zwd_sz so n
              omega
            · exact oS o j c
          · rw [hz'] at x1
            rw [oM2, if_neg (by omega)]
          · have w1 : so = so' := by
              have := hk2.2.2.1
              rw [q3] at this
              exact zi_inj (by omega) (by have := hk2.2.2.2.2.2.2.2.1; omega) this
            have w2 : cl = cl' := by
              have := hk2.2.2.2.1
              rw [q4] at this
              exact zi_inj (by omega) (by have := hk2.2.2.2.2.2.2.1; omega) this
            have w3 : n = n' := by
              have := hk2.2.2.2.2.1
              rw [q5] at this
              exact zi_inj (by omega) (by have := hk2.2.2.2.2.2.1; omega) this
            subst w1; subst w2; subst w3
            have hq := q18 j hj
            have eW : (fun i => (zI (zI (zSE C (zha C u + 2) so k (M.2 45 (12 * f0 + (t + 2)))) (f0 + 100) 2 (Int32.ofNat (16 + t))) (f0 + 100) 4 (Int32.ofNat (p + 1))).1 17 (zha C u + 2 + i)) = fun i => (zSE C (zha C u + 2) so k (M.2 45 (12 * f0 + (t + 2)))).1 17 (zha C u + 2 + i) := funext fun i => oC _ _ (by omega)
            rw [oM2]
            have hso : so ≠ 12 := fun e => by rw [e] at c1; exact absurd c1 (by decide)
            rw [if_neg (by omega)] at hq ⊢
            rw [eW, zSE_el (by omega) (fun e => absurd c1 (by rw [e]; decide))]
            by_cases c : j = k
            · rw [if_pos c, if_pos ⟨rfl, by omega⟩]
            · rw [if_neg c, if_neg (by omega)]
              exact hq
        have hfr2 : zFr D (zI (zI (zSE C (zha C u + 2) so k (M.2 45 (12 * f0 + (t + 2)))) (f0 + 100) 2 (Int32.ofNat (16 + t))) (f0 + 100) 4 (Int32.ofNat (p + 1))) (zJ (zK (zMD M f0 t) 37 (zgb M tt + k) (zmv so (M.2 45 (12 * f0 + (t + 2))))) 41 f0 (Int32.ofNat (p + 1))) Q.2.1 f0 t (p + 1) m lt st := by
          have hb := hd.go (p + 1)
          refine hb.mv2 ?_ ?_ ?_ (fun j => ?_) (fun j => ?_) ?_ ?_ ?_ (fun j hj => ⟨?_, ?_⟩) (fun j hj => ⟨?_, ?_⟩)
          · rw [zI1, if_neg (by omega), zI1, if_pos ⟨rfl, rfl⟩, zI1, if_neg (by omega), zI1, if_pos ⟨rfl, rfl⟩]
          · rw [zI1, if_pos ⟨rfl, rfl⟩, zI1, if_pos ⟨rfl, rfl⟩]
          · show (zSE C (zha C u + 2) so k (M.2 45 (12 * f0 + (t + 2)))).2.2 (f0 + 100) 3 = C.2.2 (f0 + 100) 3
            rw [oS2]
          · show (zSE C (zha C u + 2) so k (M.2 45 (12 * f0 + (t + 2)))).2.1 (f0 + 120) j = C.2.1 (f0 + 120) j
            rw [oS2]
          · rw [oC _ _ (by omega), oS _ _ (by omega), zI1, if_neg (by omega), zI1, if_neg (by omega)]
          · unfold zMD; simp (disch := omega) only [zJ1, zK1, if_neg]
          · unfold zMD; simp (disch := omega) only [zJ1, zK1, if_pos, and_self, if_true]
          · unfold zMD; simp (disch := omega) only [zJ1, zK1, if_neg]
          · unfold zMD; simp (disch := omega) only [zJ1, zK1, if_neg]
          · rw [oM2, if_neg (by omega)]; rfl
          · unfold zMD; simp (disch := omega) only [zJ1, zK1, if_neg]
          · rw [oM2, if_neg (by omega)]; rfl
        obtain ⟨s1, s2, φ', s3, s4⟩ := hR.wr (t' := t) (p' := p + 1) (lt' := lt) (st' := st) hO hφ hfr2 (fun o j x1 x2 x3 => by rw [oC o j x1]; exact oS o j x3) (fun o j x1 => by show (zSE C (zha C u + 2) so k (M.2 45 (12 * f0 + (t + 2)))).2.1 o j = C.2.1 o j; rw [oS2]) (by show (zSE C (zha C u + 2) so k (M.2 45 (12 * f0 + (t + 2)))).2.2 = C.2.2; rw [oS2]) (fun o j x1 x2 x3 => oM o j x1) (fun o j x1 x2 x3 => by rw [oM2, if_neg (by omega)]) hHp ⟨l3, h3', h4'⟩
        refine ⟨_, _, fun M0 => ?_, fun C0 r0 => ?_, s1, s2, S, Nat.le_succ S, Or.inl ⟨D, f0, φ', s3, s4⟩⟩
        · have kk : (zSE C (zha C u + 2) so k (M.2 45 (12 * f0 + (t + 2)))).2.2 15 5 = .ref (b + (3 * f0 + 27)) := by rw [oS2]; exact h2
          have e3 : mX1_drop N (b + (3 * f0 + 27)) 3 (zc w b (zSE C (zha C u + 2) so k (M.2 45 (12 * f0 + (t + 2)))) M0 r) = some (zc w b (zI (zSE C (zha C u + 2) so k (M.2 45 (12 * f0 + (t + 2)))) (f0 + 100) 2 (Int32.ofNat (16 + t))) M0 r) := zf_drop (N := N) (w := w) (b := b) (r := r) (t := t + 3) (k := 3) h1 ((oS _ _ (by omega)).trans a1) a3 (by omega) M0
          have e5 : mX4_goOn N (b + 15) 1 (zc w b (zI (zSE C (zha C u + 2) so k (M.2 45 (12 * f0 + (t + 2)))) (f0 + 100) 2 (Int32.ofNat (16 + t))) M0 r) = some (zc w b (zI (zI (zSE C (zha C u + 2) so k (M.2 45 (12 * f0 + (t + 2)))) (f0 + 100) 2 (Int32.ofNat (16 + t))) (f0 + 100) 4 (Int32.ofNat (p + 1))) M0 r, 0) := zf_goOn (C := zI (zSE C (zha C u + 2) so k (M.2 45 (12 * f0 + (t + 2)))) (f0 + 100) 2 (Int32.ofNat (16 + t))) (n := 1) (p := p) h1 kk (zp4_I2.trans ((oS _ _ (by omega)).trans a4)) M0
          have gv : mX1_number N (b + (3 * f0 + 27)) 0 (zc w b C M0 r) = some (zc w b C M0 r, (M.2 45 (12 * f0 + (t + 2)))) := by
            have := zf_number (N := N) (w := w) (b := b) (C := C) (r := r) (t := t + 3) (k := 0) h1 a1 a3 (by omega) M0
            rw [show 15 + (t + 3) - 0 = 16 + (t + 2) by omega, (uv.num (Or.inr rfl)).1] at this
            exact this
          unfold zcs
          rw [hs, zd_storeG (op := 80) h1 h2 (ga M0) (gi M0) (ef M0) (by rw [if_neg (by decide)]; exact gv) (es M0) kk e3 e5]
          rfl
        · have f1 : mX9_popValue N (b + 75) (zc w b C0 M r0) = some (zc w b C0 (zMD M f0 (t + 2)) r0, M.2 45 (12 * f0 + (t + 2))) := zn_pop (N := N) (w := w) (b := b) (M := M) (t := t + 2) h1 h3 a2 (by omega) C0 r0
          have f2 : mX9_popValue N (b + 75) (zc w b C0 (zMD M f0 (t + 2)) r0) = some (zc w b C0 (zMD M f0 (t + 1)) r0, M.2 45 (12 * f0 + (t + 1))) := by
            have := zn_pop (N := N) (w := w) (b := b) (M := zMD M f0 (t + 2)) (t := t + 1) h1 (zmd100.trans h3) zmd42 (by omega) C0 r0
            rw [zMDD] at this; exact this
          have f3 : mX9_popValue N (b + 75) (zc w b C0 (zMD M f0 (t + 1)) r0) = some (zc w b C0 (zMD M f0 t) r0, M.2 45 (12 * f0 + t)) := by
            have := zn_pop (N := N) (w := w) (b := b) (M := zMD M f0 (t + 1)) (t := t) h1 (zmd100.trans h3) zmd42 (by omega) C0 r0
            rw [zMDD] at this; exact this
          have esn : zm_aI (zc w b C0 (zMD M f0 t) r0) (b + 99) (Int32.ofNat tt) = some (Int32.ofNat so) := by
            rw [zqa_99 q2]
            unfold zMD
            rw [zJ1, if_neg (by omega), q3]
          have eb : zm_aI (zc w b C0 (zMD M f0 t) r0) (b + 101) (Int32.ofNat tt) = some (Int32.ofNat (zgb M tt)) := by
            rw [zqa_101 q2]
            unfold zMD
            rw [zJ1, if_neg (by omega)]
            exact congrArg some (zN_of _).symm
          have ecl : zm_sL (zc w b C0 (zMD M f0 t) r0) (b + 103) (Int32.ofNat (zgb M tt) + (M.2 45 (12 * f0 + (t + 1))).toInt32) (zmv so (M.2 45 (12 * f0 + (t + 2)))) = some (zc w b C0 (zK (zMD M f0 t) 37 (zgb M tt + k) (zmv so (M.2 45 (12 * f0 + (t + 2))))) r0) := by
            rw [hk1, zi_add, zqs_103 (by omega)]
          have f9 : mX9_step_327 N (b + 75) (Int32.ofNat f0) (Int32.ofNat p) 1 (zc w b C0 (zK (zMD M f0 t) 37 (zgb M tt + k) (zmv so (M.2 45 (12 * f0 + (t + 2))))) r0) = some (zc w b C0 (zJ (zK (zMD M f0 t) 37 (zgb M tt + k) (zmv so (M.2 45 (12 * f0 + (t + 2))))) 41 f0 (Int32.ofNat (p + 1))) r0) := zn_on (N := N) (w := w) (b := b) (M := zK (zMD M f0 t) 37 (zgb M tt + k) (zmv so (M.2 45 (12 * f0 + (t + 2))))) (p := p) (n := 1) h1 ((zmd100 (M := M) (f := f0) (t := t)).trans h4) ((zmd100 (M := M) (f := f0) (t := t)).trans h5) C0 r0
          rw [fs, zn_storeG (op := 80) (so := so) (by omega) zqk_75 zqk_75 zqk_75 (fp0 C0 r0) (fp1 C0 r0) (fp2 C0 r0) (ewr C0 r0) f1 f2 f3 zqg_75_32 zqg_75_37 zqg_75_34 (by rw [hti]; exact esn) (by rw [hti]; exact eb) ecl, Option.bind_some]
          exact f9
      · simp only [if_neg c2] at ef0 ew0
        have ef : ∀ M0, mX4_faultOfElement N (b + 15) 1 (C.1 (f0 + 140) (16 + t)) (M.2 45 (12 * f0 + (t + 1))).toInt32 (zc w b C M0 r) = some (zc w b C M0 r, 3) := ef0
        have ewr : ∀ C0 r0, mX9_wrong N (b + 75) 80 (M.2 45 (12 * f0 + t)) (M.2 45 (12 * f0 + (t + 1))) (zc w b C0 M r0) = some (zc w b C0 M r0, 3) := ew0
        refine zStp_e (e := 3) hN hw hS h7 hR hO (by decide) (fun M0 => ?_) (Or.inl ⟨Int32.ofNat f0, Int32.ofNat p, 1, fun C0 r0 => ?_⟩)
        · rw [hs, zd_storeE (op := 80) (e := 3) h1 h2 (ga M0) (gi M0) (ef M0) (by decide)]
          rfl
        · rw [fs, zn_storeE (op := 80) (e := 3) zqk_75 (fp0 C0 r0) (fp1 C0 r0) (fp2 C0 r0) (ewr C0 r0) (by decide)]
          show Option.bind _ _ = (mX9_fail N (b + 75) 3 (zc w b C0 M r0)).bind _
          cases mX9_fail N (b + 75) 3 (zc w b C0 M r0) <;> rfl
    · simp only [if_neg c1] at ef0 ew0
      have ef : ∀ M0, mX4_faultOfElement N (b + 15) 1 (C.1 (f0 + 140) (16 + t)) (M.2 45 (12 * f0 + (t + 1))).toInt32 (zc w b C M0 r) = some (zc w b C M0 r, 5) := ef0
      have ewr : ∀ C0 r0, mX9_wrong N (b + 75) 80 (M.2 45 (12 * f0 + t)) (M.2 45 (12 * f0 + (t + 1))) (zc w b C0 M r0) = some (zc w b C0 M r0, 5) := ew0
      refine zStp_e (e := 5) hN hw hS h7 hR hO (by decide) (fun M0 => ?_) (Or.inl ⟨Int32.ofNat f0, Int32.ofNat p, 1, fun C0 r0 => ?_⟩)
      · rw [hs, zd_storeE (op := 80) (e := 5) h1 h2 (ga M0) (gi M0) (ef M0) (by decide)]
        rfl
      · rw [fs, zn_storeE (op := 80) (e := 5) zqk_75 (fp0 C0 r0) (fp1 C0 r0) (fp2 C0 r0) (ewr C0 r0) (by decide)]
        show Option.bind _ _ = (mX9_fail N (b + 75) 5 (zc w b C0 M r0)).bind _
        cases mX9_fail N (b + 75) 5 (zc w b C0 M r0) <;> rfl

theorem zs_83 (hN : 1700 < N) (hw : w ≤ 400) (hS : S + 1 < 2 ^ 31) (h7 : ∀ k, k < 7 → F k = 0) (hR : zRn w b K F ρ α π r Q D C M S f0 φ) (hO : zOn C M) (hφ : φ f0 = (t, p, m, lt, st)) (hop : uC (Q.2.2.1 m) p = 83) : zStp N w b K F ρ α π r Q C M S := by
  obtain ⟨hc, hm, hK, l', hl, s1, hp, s2, l2, hh, hlen, hfl⟩ := hR.ty hO hφ hop
  have hh : some (s1, l') = some (s2, l2) := hh
  cases hh
  have hp : zpop [3, 1, 3] (zrv st t) = some s1 := hp
  obtain ⟨t, rfl, k0, hp⟩ := zpopc hp
  obtain ⟨t, rfl, k1, hp⟩ := zpopc hp
  obtain ⟨t, rfl, k2, hp⟩ := zpopc hp
  have hp := zpop0 hp
  subst hp
  have hc' := hc
  have hD := hR.2.1.1
  have hK30 := hR.1.2.2.2.1
  obtain ⟨h1, h2, h3, h4, h5, hfr, _, h8, h9, h10, h11, h12⟩ := hc
  have hfr0 := hfr
  obtain ⟨a1, a2, a3, a4, a5, a6, a7, a8, a9⟩ := hfr
  rw [hop] at h12
  have h12 : p + 1 ≤ uLen (Q.2.2.1 m) := h12
  have e0 : ∀ M0, mX1_opcode N (b + (3 * f0 + 27)) (zc w b C M0 r) = some (zc w b C M0 r, 83) := fun M0 => ze_step0 (N := N) (w := w) hc' hop M0
  have fstep : ∀ C0 r0, mX9_step N (b + 75) (zc w b C0 M r0) = mX9_step_74 N (b + 75) (Int32.ofNat f0) (Int32.ofNat m) (Int32.ofNat p) 83 1 0 0 (zc w b C0 M r0) := fun C0 r0 => zn_step (N := N) (w := w) hc' hop (n := 1) rfl rfl rfl C0 r0
  have hd := hfr0.drop (t' := t) (by omega)
  have uv := (a9 (t + 2) (by omega)).2.2.2
  rw [k0] at uv
  have u0 := (a9 (t + 1) (by omega)).2.2.2
  rw [k1] at u0
  have n0 := u0.num (Or.inl rfl)
  have hint := u0.int
  have u1 := (a9 t (by omega)).2.2.2
  rw [k2] at u1
  have gi : ∀ M0, mX1_number N (b + (3 * f0 + 27)) 1 (zc w b C M0 r) = some (zc w b C M0 r, M.2 45 (12 * f0 + (t + 1))) := fun M0 => by
    have := zf_number (N := N) (w := w) (b := b) (C := C) (r := r) (t := t + 3) (k := 1) h1 a1 a3 (by omega) M0
    rw [show 15 + (t + 3) - 1 = 16 + (t + 1) by omega, n0.1] at this
    exact this
  have ga : ∀ M0, mX1_reference N (b + (3 * f0 + 27)) 2 (zc w b C M0 r) = some (zc w b C M0 r, C.1 (f0 + 140) (16 + t)) := fun M0 => by
    have := zf_reference (N := N) (w := w) (b := b) (C := C) (r := r) (t := t + 3) (k := 2) h1 a1 a3 (by omega) M0
    rw [show 15 + (t + 3) - 2 = 16 + t by omega] at this
    exact this
  have fp0 : ∀ C0 r0, mX9_peek N (b + 75) 0 (zc w b C0 M r0) = some (zc w b C0 M r0, M.2 45 (12 * f0 + (t + 2))) := fun C0 r0 => zn_peek (N := N) (w := w) (b := b) (M := M) (t := t + 3) (k := 0) h1 h3 a2 a3 (by omega) C0 r0
  have fp1 : ∀ C0 r0, mX9_peek N (b + 75) 1 (zc w b C0 M r0) = some (zc w b C0 M r0, M.2 45 (12 * f0 + (t + 1))) := fun C0 r0 => zn_peek (N := N) (w := w) (b := b) (M := M) (t := t + 3) (k := 1) h1 h3 a2 a3 (by omega) C0 r0
  have fp2 : ∀ C0 r0, mX9_peek N (b + 75) 2 (zc w b C0 M r0) = some (zc w b C0 M r0, M.2 45 (12 * f0 + t)) := fun C0 r0 => zn_peek (N := N) (w := w) (b := b) (M := M) (t := t + 3) (k := 2) h1 h3 a2 a3 (by omega) C0 r0
  obtain ⟨l3, h3', h4'⟩ := (hfl lt hl).2 (by unfold zgoes; decide)
  have hs : ∀ M0, mX4_step N (b + 15) (zc w b C M0 r) = (mX4_storeElement N (b + 15) 83 (zc w b C M0 r)).bind fun o => some (o.1, o.2) := fun M0 => by
    simp (decide := true) only [mX4_step_107, mX4_step_249, mX4_step_0, mX4_step, e0, zqg_15_5 h2, zqkF h1, id, zqk_15, zqk_16, zqg_15_2, Option.map_some, Int32.reduceLT, Int32.reduceLE, Int32.reduceAdd, Int32.reduceSub, Int32.reduceMul, Int32.reduceDiv, Int32.reduceMod, ↓reduceIte, Option.bind_some]
  have fs : ∀ C0 r0, mX9_step N (b + 75) (zc w b C0 M r0) = (mX9_doStore N (b + 75) 83 (zc w b C0 M r0)).bind fun o => mX9_step_327 N (b + 75) (Int32.ofNat f0) (Int32.ofNat p) 1 o := fun C0 r0 => by
    refine (fstep C0 r0).trans ?_
    simp (decide := true) only [mX9_step_74, zqk_75, id, Option.map_some, Int32.reduceLT, Int32.reduceLE, Int32.reduceAdd, Int32.reduceSub, Int32.reduceMul, Int32.reduceDiv, Int32.reduceMod, ↓reduceIte, Option.bind_some]
  rcases zRf.cs hD u1.ref with ⟨hz, hv⟩ | ⟨u, tt, hd2, hre, hv, hz, hzm, hti⟩
  · have hzm : lg_cmp (M.2 45 (12 * f0 + t)) 0 = 0 := zw_cmp.mpr hv
    have ef : ∀ M0, mX4_faultOfElement N (b + 15) 4 (C.1 (f0 + 140) (16 + t)) (M.2 45 (12 * f0 + (t + 1))).toInt32 (zc w b C M0 r) = some (zc w b C M0 r, 2) := fun M0 => by
      unfold mX4_faultOfElement mX4_faultOfElement_0
      rw [if_pos hz]
    have ewr : ∀ C0 r0, mX9_wrong N (b + 75) 83 (M.2 45 (12 * f0 + t)) (M.2 45 (12 * f0 + (t + 1))) (zc w b C0 M r0) = some (zc w b C0 M r0, 2) := fun C0 r0 => by
      unfold mX9_wrong mX9_wrong_0
      rw [if_pos hzm]
    refine zStp_e (e := 2) hN hw hS h7 hR hO (by decide) (fun M0 => ?_) (Or.inl ⟨Int32.ofNat f0, Int32.ofNat p, 1, fun C0 r0 => ?_⟩)
    · rw [hs, zd_storeE (op := 83) (e := 2) h1 h2 (ga M0) (gi M0) (ef M0) (by decide)]
      rfl
    · rw [fs, zn_storeE (op := 83) (e := 2) zqk_75 (fp0 C0 r0) (fp1 C0 r0) (fp2 C0 r0) (ewr C0 r0) (by decide)]
      show Option.bind _ _ = (mX9_fail N (b + 75) 2 (zc w b C0 M r0)).bind _
      cases mX9_fail N (b + 75) 2 (zc w b C0 M r0) <;> rfl
  · obtain ⟨so, cl, n, hk⟩ := hR.2.1.pk hw hR.1 hd2
    have ef0 : ∀ M0, _ := fun M0 => zd_fault (N := N) (w := w) (b := b) (r := r) (use := 4) (i := (M.2 45 (12 * f0 + (t + 1))).toInt32) hw hK30 hk (by decide) M0
    have ew0 : ∀ C0 r0, _ := fun C0 r0 => zn_wrong (N := N) (w := w) (b := b) (use := 4) (op := 83) (v := M.2 45 (12 * f0 + (t + 1))) hk (by decide) (by decide) hint C0 r0
    rw [← hre] at ef0
    rw [← hv] at ew0
    by_cases c1 : zok 4 so = true
    · simp only [if_pos c1] at ef0 ew0
      by_cases c2 : 0 ≤ (M.2 45 (12 * f0 + (t + 1))).toInt32 ∧ (M.2 45 (12 * f0 + (t + 1))).toInt32 < Int32.ofNat n
      · simp only [if_pos c2] at ef0 ew0
        have ef : ∀ M0, mX4_faultOfElement N (b + 15) 4 (C.1 (f0 + 140) (16 + t)) (M.2 45 (12 * f0 + (t + 1))).toInt32 (zc w b C M0 r) = some (zc w b C M0 r, 0) := ef0
        have ewr : ∀ C0 r0, mX9_wrong N (b + 75) 83 (M.2 45 (12 * f0 + t)) (M.2 45 (12 * f0 + (t + 1))) (zc w b C0 M r0) = some (zc w b C0 M r0, 0) := ew0
        obtain ⟨k, hk1, hk2⟩ := zi_of c2.1
        have hkn : k < n := by
          have := c2.2
          rw [hk1, zi_lt hk2 (by have := hk.2.2.2.2.2.1; omega)] at this
          exact this
        have hso0 : so ≠ 0 := fun e => by rw [e] at c1; exact absurd c1 (by decide)
        have hk' := hk
        obtain ⟨q1, q2, q3, q4, q5, q6, q7, q8, q9, q10, q11, q12, q13, q14, q15, q16, q17, q18⟩ := hk
        have hz' : zgz M tt = n := by unfold zgz; rw [q5, zN_nat (by omega)]
        have es : ∀ M0, mX2_setElement N (b + 16) (C.1 (f0 + 140) (16 + t)) (M.2 45 (12 * f0 + (t + 1))).toInt32 (C.1 (f0 + 140) (16 + (t + 2))).toInt64 (zc w b C M0 r) = some (zc w b (zSE C (zha C u + 2) so k (C.1 (f0 + 140) (16 + (t + 2))).toInt64) M0 r) := fun M0 => by
          rw [hre, hk1]
          exact zd_setElement (N := N) (w := w) (b := b) (r := r) hw hk' hso0 hkn M0
        have oS : ∀ o j, o ≠ 17 → (zSE C (zha C u + 2) so k (C.1 (f0 + 140) (16 + (t + 2))).toInt64).1 o j = C.1 o j := fun o j h => zSE_o h
        have oS2 : (zSE C (zha C u + 2) so k (C.1 (f0 + 140) (16 + (t + 2))).toInt64).2 = C.2 := zSE_2
        have oC : ∀ o j, o ≠ f0 + 100 → (zI (zI (zSE C (zha C u + 2) so k (C.1 (f0 + 140) (16 + (t + 2))).toInt64) (f0 + 100) 2 (Int32.ofNat (16 + t))) (f0 + 100) 4 (Int32.ofNat (p + 1))).1 o j = (zSE C (zha C u + 2) so k (C.1 (f0 + 140) (16 + (t + 2))).toInt64).1 o j := fun o j h => by rw [zI1, if_neg (fun q => h q.1), zI1, if_neg (fun q => h q.1)]
        have oM : ∀ o j, ¬ (j = f0 ∧ (o = 41 ∨ o = 42)) → (zJ (zK (zMD M f0 t) 37 (zgb M tt + k) (zmv so (M.2 45 (12 * f0 + (t + 2))))) 41 f0 (Int32.ofNat (p + 1))).1 o j = M.1 o j := fun o j h => by
          unfold zMD
          rw [zJ1, if_neg (by omega), zK1, zJ1, if_neg (by omega)]
        have oM2 : ∀ o j, (zJ (zK (zMD M f0 t) 37 (zgb M tt + k) (zmv so (M.2 45 (12 * f0 + (t + 2))))) 41 f0 (Int32.ofNat (p + 1))).2 o j = if o = 37 ∧ j = zgb M tt + k then zmv so (M.2 45 (12 * f0 + (t + 2))) else M.2 o j := fun o j => rfl
        have hHp : zHp w K F ρ D (zI (zI (zSE C (zha C u + 2) so k (C.1 (f0 + 140) (16 + (t + 2))).toInt64) (f0 + 100) 2 (Int32.ofNat (16 + t))) (f0 + 100) 4 (Int32.ofNat (p + 1))) (zJ (zK (zMD M f0 t) 37 (zgb M tt + k) (zmv so (M.2 45 (12 * f0 + (t + 2))))) 41 f0 (Int32.ofNat (p + 1))) S := by
          refine zHp.wr hw hR.1 hR.2.1 hd2 (fun o j x1 x2 x3 => ?_) (fun o j x1 x2 => oM o j (by omega)) (oM _ _ (by omega)) (oM _ _ (by omega)) (fun j x1 => ?_) (fun _ so' cl' n' hk2 j hj => ?_)
          · rw [oC o j (by omega)]
            by_cases c : o = 17
            · subst c
              refine zSE_out hkn ?_
              rw [q11] at x3
              have := zwd_sz so n
              omega
            · exact oS o j c
          · rw [hz'] at x1
            rw [oM2, if_neg (by omega)]
          · have w1 : so = so' := by
              have := hk2.2.2.1
              rw [q3] at this
              exact zi_inj (by omega) (by have := hk2.2.2.2.2.2.2.2.1; omega) this
            have w2 : cl = cl' := by
              have := hk2.2.2.2.1
              rw [q4] at this
              exact zi_inj (by omega) (by have := hk2.2.2.2.2.2.2.1; omega) this
            have w3 : n = n' := by
              have := hk2.2.2.2.2.1
              rw [q5] at this
              exact zi_inj (by omega) (by have := hk2.2.2.2.2.2.1; omega) this
            subst w1; subst w2; subst w3
            have hq := q18 j hj
            have eW : (fun i => (zI (zI (zSE C (zha C u + 2) so k (C.1 (f0 + 140) (16 + (t + 2))).toInt64) (f0 + 100) 2 (Int32.ofNat (16 + t))) (f0 + 100) 4 (Int32.ofNat (p + 1))).1 17 (zha C u + 2 + i)) = fun i => (zSE C (zha C u + 2) so k (C.1 (f0 + 140) (16 + (t + 2))).toInt64).1 17 (zha C u + 2 + i) := funext fun i => oC _ _ (by omega)
            rw [oM2]
            have hso : so = 12 := by simpa [zok] using c1
            rw [if_pos (Or.inl hso)] at hq ⊢
            have eWj : (zI (zI (zSE C (zha C u + 2) so k (C.1 (f0 + 140) (16 + (t + 2))).toInt64) (f0 + 100) 2 (Int32.ofNat (16 + t))) (f0 + 100) 4 (Int32.ofNat (p + 1))).1 17 (zha C u + 2 + j) = if j = k then C.1 (f0 + 140) (16 + (t + 2)) else C.1 17 (zha C u + 2 + j) := by
              rw [oC _ _ (by omega)]
              unfold zSE
              rw [if_neg (by omega), if_neg (by omega), if_neg (by omega), if_neg (by omega), zI1, Int32.toInt32_toInt64]
              by_cases c : j = k
              · rw [if_pos ⟨rfl, by omega⟩, if_pos c]
              · rw [if_neg (by omega), if_neg c]
            rw [eWj]
            by_cases c : j = k
            · rw [if_pos c, if_pos ⟨rfl, by omega⟩]
              have : zmv so (M.2 45 (12 * f0 + (t + 2))) = (M.2 45 (12 * f0 + (t + 2))) := by unfold zmv; rw [if_neg (by omega), if_neg (by omega), if_neg (by omega), if_neg (by omega)]
              rw [this]
              exact uv.ref
            · rw [if_neg c, if_neg (by omega)]
              exact hq
        have hfr2 : zFr D (zI (zI (zSE C (zha C u + 2) so k (C.1 (f0 + 140) (16 + (t + 2))).toInt64) (f0 + 100) 2 (Int32.ofNat (16 + t))) (f0 + 100) 4 (Int32.ofNat (p + 1))) (zJ (zK (zMD M f0 t) 37 (zgb M tt + k) (zmv so (M.2 45 (12 * f0 + (t + 2))))) 41 f0 (Int32.ofNat (p + 1))) Q.2.1 f0 t (p + 1) m lt st := by
          have hb := hd.go (p + 1)
          refine hb.mv2 ?_ ?_ ?_ (fun j => ?_) (fun j => ?_) ?_ ?_ ?_ (fun j hj => ⟨?_, ?_⟩) (fun j hj => ⟨?_, ?_⟩)
          · rw [zI1, if_neg (by omega), zI1, if_pos ⟨rfl, rfl⟩, zI1, if_neg (by omega), zI1, if_pos ⟨rfl, rfl⟩]
          · rw [zI1, if_pos ⟨rfl, rfl⟩, zI1, if_pos ⟨rfl, rfl⟩]
          · show (zSE C (zha C u + 2) so k (C.1 (f0 + 140) (16 + (t + 2))).toInt64).2.2 (f0 + 100) 3 = C.2.2 (f0 + 100) 3
            rw [oS2]
          · show (zSE C (zha C u + 2) so k (C.1 (f0 + 140) (16 + (t + 2))).toInt64).2.1 (f0 + 120) j = C.2.1 (f0 + 120) j
            rw [oS2]
          · rw [oC _ _ (by omega), oS _ _ (by omega), zI1, if_neg (by omega), zI1, if_neg (by omega)]
          · unfold zMD; simp (disch := omega) only [zJ1, zK1, if_neg]
          · unfold zMD; simp (disch := omega) only [zJ1, zK1, if_pos, and_self, if_true]
          · unfold zMD; simp (disch := omega) only [zJ1, zK1, if_neg]
          · unfold zMD; simp (disch := omega) only [zJ1, zK1, if_neg]
          · rw [oM2, if_neg (by omega)]; rfl
          · unfold zMD; simp (disch := omega) only [zJ1, zK1, if_neg]
          · rw [oM2, if_neg (by omega)]; rfl
        obtain ⟨s1, s2, φ', s3, s4⟩ := hR.wr (t' := t) (p' := p + 1) (lt' := lt) (st' := st) hO hφ hfr2 (fun o j x1 x2 x3 => by rw [oC o j x1]; exact oS o j x3) (fun o j x1 => by show (zSE C (zha C u + 2) so k (C.1 (f0 + 140) (16 + (t + 2))).toInt64).2.1 o j = C.2.1 o j; rw [oS2]) (by show (zSE C (zha C u + 2) so k (C.1 (f0 + 140) (16 + (t + 2))).toInt64).2.2 = C.2.2; rw [oS2]) (fun o j x1 x2 x3 => oM o j x1) (fun o j x1 x2 x3 => by rw [oM2, if_neg (by omega)]) hHp ⟨l3, h3', h4'⟩
        refine ⟨_, _, fun M0 => ?_, fun C0 r0 => ?_, s1, s2, S, Nat.le_succ S, Or.inl ⟨D, f0, φ', s3, s4⟩⟩
        · have kk : (zSE C (zha C u + 2) so k (C.1 (f0 + 140) (16 + (t + 2))).toInt64).2.2 15 5 = .ref (b + (3 * f0 + 27)) := by rw [oS2]; exact h2
          have e3 : mX1_drop N (b + (3 * f0 + 27)) 3 (zc w b (zSE C (zha C u + 2) so k (C.1 (f0 + 140) (16 + (t + 2))).toInt64) M0 r) = some (zc w b (zI (zSE C (zha C u + 2) so k (C.1 (f0 + 140) (16 + (t + 2))).toInt64) (f0 + 100) 2 (Int32.ofNat (16 + t))) M0 r) := zf_drop (N := N) (w := w) (b := b) (r := r) (t := t + 3) (k := 3) h1 ((oS _ _ (by omega)).trans a1) a3 (by omega) M0
          have e5 : mX4_goOn N (b + 15) 1 (zc w b (zI (zSE C (zha C u + 2) so k (C.1 (f0 + 140) (16 + (t + 2))).toInt64) (f0 + 100) 2 (Int32.ofNat (16 + t))) M0 r) = some (zc w b (zI (zI (zSE C (zha C u + 2) so k (C.1 (f0 + 140) (16 + (t + 2))).toInt64) (f0 + 100) 2 (Int32.ofNat (16 + t))) (f0 + 100) 4 (Int32.ofNat (p + 1))) M0 r, 0) := zf_goOn (C := zI (zSE C (zha C u + 2) so k (C.1 (f0 + 140) (16 + (t + 2))).toInt64) (f0 + 100) 2 (Int32.ofNat (16 + t))) (n := 1) (p := p) h1 kk (zp4_I2.trans ((oS _ _ (by omega)).trans a4)) M0
          have gv : mX1_reference N (b + (3 * f0 + 27)) 0 (zc w b C M0 r) = some (zc w b C M0 r, C.1 (f0 + 140) (16 + (t + 2))) := by
            have := zf_reference (N := N) (w := w) (b := b) (C := C) (r := r) (t := t + 3) (k := 0) h1 a1 a3 (by omega) M0
            rw [show 15 + (t + 3) - 0 = 16 + (t + 2) by omega] at this
            exact this
          unfold zcs
          rw [hs, zd_storeG (op := 83) h1 h2 (ga M0) (gi M0) (ef M0) (by rw [if_pos rfl]; exact ⟨_, gv, rfl⟩) (es M0) kk e3 e5]
          rfl
        · have f1 : mX9_popValue N (b + 75) (zc w b C0 M r0) = some (zc w b C0 (zMD M f0 (t + 2)) r0, M.2 45 (12 * f0 + (t + 2))) := zn_pop (N := N) (w := w) (b := b) (M := M) (t := t + 2) h1 h3 a2 (by omega) C0 r0
          have f2 : mX9_popValue N (b + 75) (zc w b C0 (zMD M f0 (t + 2)) r0) = some (zc w b C0 (zMD M f0 (t + 1)) r0, M.2 45 (12 * f0 + (t + 1))) := by
            have := zn_pop (N := N) (w := w) (b := b) (M := zMD M f0 (t + 2)) (t := t + 1) h1 (zmd100.trans h3) zmd42 (by omega) C0 r0
            rw [zMDD] at this; exact this
          have f3 : mX9_popValue N (b + 75) (zc w b C0 (zMD M f0 (t + 1)) r0) = some (zc w b C0 (zMD M f0 t) r0, M.2 45 (12 * f0 + t)) := by
            have := zn_pop (N := N) (w := w) (b := b) (M := zMD M f0 (t + 1)) (t := t) h1 (zmd100.trans h3) zmd42 (by omega) C0 r0
            rw [zMDD] at this; exact this
          have esn : zm_aI (zc w b C0 (zMD M f0 t) r0) (b + 99) (Int32.ofNat tt) = some (Int32.ofNat so) := by
            rw [zqa_99 q2]
            unfold zMD
            rw [zJ1, if_neg (by omega), q3]
          have eb : zm_aI (zc w b C0 (zMD M f0 t) r0) (b + 101) (Int32.ofNat tt) = some (Int32.ofNat (zgb M tt)) := by
            rw [zqa_101 q2]
            unfold zMD
            rw [zJ1, if_neg (by omega)]
            exact congrArg some (zN_of _).symm
          have ecl : zm_sL (zc w b C0 (zMD M f0 t) r0) (b + 103) (Int32.ofNat (zgb M tt) + (M.2 45 (12 * f0 + (t + 1))).toInt32) (zmv so (M.2 45 (12 * f0 + (t + 2)))) = some (zc w b C0 (zK (zMD M f0 t) 37 (zgb M tt + k) (zmv so (M.2 45 (12 * f0 + (t + 2))))) r0) := by
            rw [hk1, zi_add, zqs_103 (by omega)]
          have f9 : mX9_step_327 N (b + 75) (Int32.ofNat f0) (Int32.ofNat p) 1 (zc w b C0 (zK (zMD M f0 t) 37 (zgb M tt + k) (zmv so (M.2 45 (12 * f0 + (t + 2))))) r0) = some (zc w b C0 (zJ (zK (zMD M f0 t) 37 (zgb M tt + k) (zmv so (M.2 45 (12 * f0 + (t + 2))))) 41 f0 (Int32.ofNat (p + 1))) r0) := zn_on (N := N) (w := w) (b := b) (M := zK (zMD M f0 t) 37 (zgb M tt + k) (zmv so (M.2 45 (12 * f0 + (t + 2))))) (p := p) (n := 1) h1 ((zmd100 (M := M) (f := f0) (t := t)).trans h4) ((zmd100 (M := M) (f := f0) (t := t)).trans h5) C0 r0
          rw [fs, zn_storeG (op := 83) (so := so) (by omega) zqk_75 zqk_75 zqk_75 (fp0 C0 r0) (fp1 C0 r0) (fp2 C0 r0) (ewr C0 r0) f1 f2 f3 zqg_75_32 zqg_75_37 zqg_75_34 (by rw [hti]; exact esn) (by rw [hti]; exact eb) ecl, Option.bind_some]
          exact f9
      · simp only [if_neg c2] at ef0 ew0
        have ef : ∀ M0, mX4_faultOfElement N (b + 15) 4 (C.1 (f0 + 140) (16 + t)) (M.2 45 (12 * f0 + (t + 1))).toInt32 (zc w b C M0 r) = some (zc w b C M0 r, 3) := ef0
        have ewr : ∀ C0 r0, mX9_wrong N (b + 75) 83 (M.2 45 (12 * f0 + t)) (M.2 45 (12 * f0 + (t + 1))) (zc w b C0 M r0) = some (zc w b C0 M r0, 3) := ew0
        refine zStp_e (e := 3) hN hw hS h7 hR hO (by decide) (fun M0 => ?_) (Or.inl ⟨Int32.ofNat f0, Int32.ofNat p, 1, fun C0 r0 => ?_⟩)
        · rw [hs, zd_storeE (op := 83) (e := 3) h1 h2 (ga M0) (gi M0) (ef M0) (by decide)]
          rfl
        · rw [fs, zn_storeE (op := 83) (e := 3) zqk_75 (fp0 C0 r0) (fp1 C0 r0) (fp2 C0 r0) (ewr C0 r0) (by decide)]
          show Option.bind _ _ = (mX9_fail N (b + 75) 3 (zc w b C0 M r0)).bind _
          cases mX9_fail N (b + 75) 3 (zc w b C0 M r0) <;> rfl
    · simp only [if_neg c1] at ef0 ew0
      have ef : ∀ M0, mX4_faultOfElement N (b + 15) 4 (C.1 (f0 + 140) (16 + t)) (M.2 45 (12 * f0 + (t + 1))).toInt32 (zc w b C M0 r) = some (zc w b C M0 r, 5) := ef0
      have ewr : ∀ C0 r0, mX9_wrong N (b + 75) 83 (M.2 45 (12 * f0 + t)) (M.2 45 (12 * f0 + (t + 1))) (zc w b C0 M r0) = some (zc w b C0 M r0, 5) := ew0
      refine zStp_e (e := 5) hN hw hS h7 hR hO (by decide) (fun M0 => ?_) (Or.inl ⟨Int32.ofNat f0, Int32.ofNat p, 1, fun C0 r0 => ?_⟩)
      · rw [hs, zd_storeE (op := 83) (e := 5) h1 h2 (ga M0) (gi M0) (ef M0) (by decide)]
        rfl
      · rw [fs, zn_storeE (op := 83) (e := 5) zqk_75 (fp0 C0 r0) (fp1 C0 r0) (fp2 C0 r0) (ewr C0 r0) (by decide)]
        show Option.bind _ _ = (mX9_fail N (b + 75) 5 (zc w b C0 M r0)).bind _
        cases mX9_fail N (b + 75) 5 (zc w b C0 M r0) <;> rfl

theorem zs_84 (hN : 1700 < N) (hw : w ≤ 400) (hS : S + 1 < 2 ^ 31) (h7 : ∀ k, k < 7 → F k = 0) (hR : zRn w b K F ρ α π r Q D C M S f0 φ) (hO : zOn C M) (hφ : φ f0 = (t, p, m, lt, st)) (hop : uC (Q.2.2.1 m) p = 84) : zStp N w b K F ρ α π r Q C M S := by
  obtain ⟨hc, hm, hK, l', hl, s1, hp, s2, l2, hh, hlen, hfl⟩ := hR.ty hO hφ hop
  have hh : some (s1, l') = some (s2, l2) := hh
  cases hh
  have hp : zpop [1, 1, 3] (zrv st t) = some s1 := hp
  obtain ⟨t, rfl, k0, hp⟩ := zpopc hp
  obtain ⟨t, rfl, k1, hp⟩ := zpopc hp
  obtain ⟨t, rfl, k2, hp⟩ := zpopc hp
  have hp := zpop0 hp
  subst hp
  have hc' := hc
  have hD := hR.2.1.1
  have hK30 := hR.1.2.2.2.1
  obtain ⟨h1, h2, h3, h4, h5, hfr, _, h8, h9, h10, h11, h12⟩ := hc
  have hfr0 := hfr
  obtain ⟨a1, a2, a3, a4, a5, a6, a7, a8, a9⟩ := hfr
  rw [hop] at h12
  have h12 : p + 1 ≤ uLen (Q.2.2.1 m) := h12
  have e0 : ∀ M0, mX1_opcode N (b + (3 * f0 + 27)) (zc w b C M0 r) = some (zc w b C M0 r, 84) := fun M0 => ze_step0 (N := N) (w := w) hc' hop M0
  have fstep : ∀ C0 r0, mX9_step N (b + 75) (zc w b C0 M r0) = mX9_step_74 N (b + 75) (Int32.ofNat f0) (Int32.ofNat m) (Int32.ofNat p) 84 1 0 0 (zc w b C0 M r0) := fun C0 r0 => zn_step (N := N) (w := w) hc' hop (n := 1) rfl rfl rfl C0 r0
  have hd := hfr0.drop (t' := t) (by omega)
  have uv := (a9 (t + 2) (by omega)).2.2.2
  rw [k0] at uv
  have u0 := (a9 (t + 1) (by omega)).2.2.2
  rw [k1] at u0
  have n0 := u0.num (Or.inl rfl)
  have hint := u0.int
  have u1 := (a9 t (by omega)).2.2.2
  rw [k2] at u1
  have gi : ∀ M0, mX1_number N (b + (3 * f0 + 27)) 1 (zc w b C M0 r) = some (zc w b C M0 r, M.2 45 (12 * f0 + (t + 1))) := fun M0 => by
    have := zf_number (N := N) (w := w) (b := b) (C := C) (r := r) (t := t + 3) (k := 1) h1 a1 a3 (by omega) M0
    rw [show 15 + (t + 3) - 1 = 16 + (t + 1) by omega, n0.1] at this
    exact this
  have ga : ∀ M0, mX1_reference N (b + (3 * f0 + 27)) 2 (zc w b C M0 r) = some (zc w b C M0 r, C.1 (f0 + 140) (16 + t)) := fun M0 => by
    have := zf_reference (N := N) (w := w) (b := b) (C := C) (r := r) (t := t + 3) (k := 2) h1 a1 a3 (by omega) M0
    rw [show 15 + (t + 3) - 2 = 16 + t by omega] at this
    exact this
  have fp0 : ∀ C0 r0, mX9_peek N (b + 75) 0 (zc w b C0 M r0) = some (zc w b C0 M r0, M.2 45 (12 * f0 + (t + 2))) := fun C0 r0 => zn_peek (N := N) (w := w) (b := b) (M := M) (t := t + 3) (k := 0) h1 h3 a2 a3 (by omega) C0 r0
  have fp1 : ∀ C0 r0, mX9_peek N (b + 75) 1 (zc w b C0 M r0) = some (zc w b C0 M r0, M.2 45 (12 * f0 + (t + 1))) := fun C0 r0 => zn_peek (N := N) (w := w) (b := b) (M := M) (t := t + 3) (k := 1) h1 h3 a2 a3 (by omega) C0 r0
  have fp2 : ∀ C0 r0, mX9_peek N (b + 75) 2 (zc w b C0 M r0) = some (zc w b C0 M r0, M.2 45 (12 * f0 + t)) := fun C0 r0 => zn_peek (N := N) (w := w) (b := b) (M := M) (t := t + 3) (k := 2) h1 h3 a2 a3 (by omega) C0 r0
  obtain ⟨l3, h3', h4'⟩ := (hfl lt hl).2 (by unfold zgoes; decide)
  have hs : ∀ M0, mX4_step N (b + 15) (zc w b C M0 r) = (mX4_storeElement N (b + 15) 84 (zc w b C M0 r)).bind fun o => some (o.1, o.2) := fun M0 => by
    simp (decide := true) only [mX4_step_107, mX4_step_249, mX4_step_0, mX4_step, e0, zqg_15_5 h2, zqkF h1, id, zqk_15, zqk_16, zqg_15_2, Option.map_some, Int32.reduceLT, Int32.reduceLE, Int32.reduceAdd, Int32.reduceSub, Int32.reduceMul, Int32.reduceDiv, Int32.reduceMod, ↓reduceIte, Option.bind_some]
  have fs : ∀ C0 r0, mX9_step N (b + 75) (zc w b C0 M r0) = (mX9_doStore N (b + 75) 84 (zc w b C0 M r0)).bind fun o => mX9_step_327 N (b + 75) (Int32.ofNat f0) (Int32.ofNat p) 1 o := fun C0 r0 => by
    refine (fstep C0 r0).trans ?_
    simp (decide := true) only [mX9_step_74, zqk_75, id, Option.map_some, Int32.reduceLT, Int32.reduceLE, Int32.reduceAdd, Int32.reduceSub, Int32.reduceMul, Int32.reduceDiv, Int32.reduceMod, ↓reduceIte, Option.bind_some]
  rcases zRf.cs hD u1.ref with ⟨hz, hv⟩ | ⟨u, tt, hd2, hre, hv, hz, hzm, hti⟩
  · have hzm : lg_cmp (M.2 45 (12 * f0 + t)) 0 = 0 := zw_cmp.mpr hv
    have ef : ∀ M0, mX4_faultOfElement N (b + 15) 5 (C.1 (f0 + 140) (16 + t)) (M.2 45 (12 * f0 + (t + 1))).toInt32 (zc w b C M0 r) = some (zc w b C M0 r, 2) := fun M0 => by
      unfold mX4_faultOfElement mX4_faultOfElement_0
      rw [if_pos hz]
    have ewr : ∀ C0 r0, mX9_wrong N (b + 75) 84 (M.2 45 (12 * f0 + t)) (M.2 45 (12 * f0 + (t + 1))) (zc w b C0 M r0) = some (zc w b C0 M r0, 2) := fun C0 r0 => by
      unfold mX9_wrong mX9_wrong_0
      rw [if_pos hzm]
    refine zStp_e (e := 2) hN hw hS h7 hR hO (by decide) (fun M0 => ?_) (Or.inl ⟨Int32.ofNat f0, Int32.ofNat p, 1, fun C0 r0 => ?_⟩)
    · rw [hs, zd_storeE (op := 84) (e := 2) h1 h2 (ga M0) (gi M0) (ef M0) (by decide)]
      rfl
    · rw [fs, zn_storeE (op := 84) (e := 2) zqk_75 (fp0 C0 r0) (fp1 C0 r0) (fp2 C0 r0) (ewr C0 r0) (by decide)]
      show Option.bind _ _ = (mX9_fail N (b + 75) 2 (zc w b C0 M r0)).bind _
      cases mX9_fail N (b + 75) 2 (zc w b C0 M r0) <;> rfl
  · obtain ⟨so, cl, n, hk⟩ := hR.2.1.pk hw hR.1 hd2
    have ef0 : ∀ M0, _ := fun M0 => zd_fault (N := N) (w := w) (b := b) (r := r) (use := 5) (i := (M.2 45 (12 * f0 + (t + 1))).toInt32) hw hK30 hk (by decide) M0
    have ew0 : ∀ C0 r0, _ := fun C0 r0 => zn_wrong (N := N) (w := w) (b := b) (use := 5) (op := 84) (v := M.2 45 (12 * f0 + (t + 1))) hk (by decide) (by decide) hint C0 r0
    rw [← hre] at ef0
    rw [← hv] at ew0
    by_cases c1 : zok 5 so = true
    · simp only [if_pos c1] at ef0 ew0
      by_cases c2 : 0 ≤ (M.2 45 (12 * f0 + (t + 1))).toInt32 ∧ (M.2 45 (12 * f0 + (t + 1))).toInt32 < Int32.ofNat n
      · simp only [if_pos c2] at ef0 ew0
        have ef : ∀ M0, mX4_faultOfElement N (b + 15) 5 (C.1 (f0 + 140) (16 + t)) (M.2 45 (12 * f0 + (t + 1))).toInt32 (zc w b C M0 r) = some (zc w b C M0 r, 0) := ef0
        have ewr : ∀ C0 r0, mX9_wrong N (b + 75) 84 (M.2 45 (12 * f0 + t)) (M.2 45 (12 * f0 + (t + 1))) (zc w b C0 M r0) = some (zc w b C0 M r0, 0) := ew0
        obtain ⟨k, hk1, hk2⟩ := zi_of c2.1
        have hkn : k < n := by
          have := c2.2
          rw [hk1, zi_lt hk2 (by have := hk.2.2.2.2.2.1; omega)] at this
          exact this
        have hso0 : so ≠ 0 := fun e => by rw [e] at c1; exact absurd c1 (by decide)
        have hk' := hk
        obtain ⟨q1, q2, q3, q4, q5, q6, q7, q8, q9, q10, q11, q12, q13, q14, q15, q16, q17, q18⟩ := hk
        have hz' : zgz M tt = n := by unfold zgz; rw [q5, zN_nat (by omega)]
        have es : ∀ M0, mX2_setElement N (b + 16) (C.1 (f0 + 140) (16 + t)) (M.2 45 (12 * f0 + (t + 1))).toInt32 (M.2 45 (12 * f0 + (t + 2))) (zc w b C M0 r) = some (zc w b (zSE C (zha C u + 2) so k (M.2 45 (12 * f0 + (t + 2)))) M0 r) := fun M0 => by
          rw [hre, hk1]
          exact zd_setElement (N := N) (w := w) (b := b) (r := r) hw hk' hso0 hkn M0
        have oS : ∀ o j, o ≠ 17 → (zSE C (zha C u + 2) so k (M.2 45 (12 * f0 + (t + 2)))).1 o j = C.1 o j := fun o j h => zSE_o h
        have oS2 : (zSE C (zha C u + 2) so k (M.2 45 (12 * f0 + (t + 2)))).2 = C.2 := zSE_2
        have oC : ∀ o j, o ≠ f0 + 100 → (zI (zI (zSE C (zha C u + 2) so k (M.2 45 (12 * f0 + (t + 2)))) (f0 + 100) 2 (Int32.ofNat (16 + t))) (f0 + 100) 4 (Int32.ofNat (p + 1))).1 o j = (zSE C (zha C u + 2) so k (M.2 45 (12 * f0 + (t + 2)))).1 o j := fun o j h => by rw [zI1, if_neg (fun q => h q.1), zI1, if_neg (fun q => h q.1)]
        have oM : ∀ o j, ¬ (j = f0 ∧ (o = 41 ∨ o = 42)) → (zJ (zK (zMD M f0 t) 37 (zgb M tt + k) (zmv so (M.2 45 (12 * f0 + (t + 2))))) 41 f0 (Int32.ofNat (p + 1))).1 o j = M.1 o j := fun o j h => by
          unfold zMD
          rw [zJ1, if_neg (by omega), zK1, zJ1, if_neg (by omega)]
        have oM2 : ∀ o j, (zJ (zK (zMD M f0 t) 37 (zgb M tt + k) (zmv so (M.2 45 (12 * f0 + (t + 2))))) 41 f0 (Int32.ofNat (p + 1))).2 o j = if o = 37 ∧ j = zgb M tt + k then zmv so (M.2 45 (12 * f0 + (t + 2))) else M.2 o j := fun o j => rfl
        have hHp : zHp w K F ρ D (zI (zI (zSE C (zha C u + 2) so k (M.2 45 (12 * f0 + (t + 2)))) (f0 + 100) 2 (Int32.ofNat (16 + t))) (f0 + 100) 4 (Int32.ofNat (p + 1))) (zJ (zK (zMD M f0 t) 37 (zgb M tt + k) (zmv so (M.2 45 (12 * f0 + (t + 2))))) 41 f0 (Int32.ofNat (p + 1))) S := by
          refine zHp.wr hw hR.1 hR.2.1 hd2 (fun o j x1 x2 x3 => ?_) (fun o j x1 x2 => oM o j (by omega)) (oM _ _ (by omega)) (oM _ _ (by omega)) (fun j x1 => ?_) (fun _ so' cl' n' hk2 j hj => ?_)
          · rw [oC o j (by omega)]
            by_cases c : o = 17
            · subst c
              refine zSE_out hkn ?_
              rw [q11] at x3
              have := zwd_sz so n
              omega
            · exact oS o j c
          · rw [hz'] at x1
            rw [oM2, if_neg (by omega)]
          · have w1 : so = so' := by
              have := hk2.2.2.1
              rw [q3] at this
              exact zi_inj (by omega) (by have := hk2.2.2.2.2.2.2.2.1; omega) this
            have w2 : cl = cl' := by
              have := hk2.2.2.2.1
              rw [q4] at this
              exact zi_inj (by omega) (by have := hk2.2.2.2.2.2.2.1; omega) this
            have w3 : n = n' := by
              have := hk2.2.2.2.2.1
              rw [q5] at this
              exact zi_inj (by omega) (by have := hk2.2.2.2.2.2.1; omega) this
            subst w1; subst w2; subst w3
            have hq := q18 j hj
            have eW : (fun i => (zI (zI (zSE C (zha C u + 2) so k (M.2 45 (12 * f0 + (t + 2)))) (f0 + 100) 2 (Int32.ofNat (16 + t))) (f0 + 100) 4 (Int32.ofNat (p + 1))).1 17 (zha C u + 2 + i)) = fun i => (zSE C (zha C u + 2) so k (M.2 45 (12 * f0 + (t + 2)))).1 17 (zha C u + 2 + i) := funext fun i => oC _ _ (by omega)
            rw [oM2]
            have hso : so ≠ 12 := fun e => by rw [e] at c1; exact absurd c1 (by decide)
            rw [if_neg (by omega)] at hq ⊢
            rw [eW, zSE_el (by omega) (fun e => uv.int)]
            by_cases c : j = k
            · rw [if_pos c, if_pos ⟨rfl, by omega⟩]
            · rw [if_neg c, if_neg (by omega)]
              exact hq
        have hfr2 : zFr D (zI (zI (zSE C (zha C u + 2) so k (M.2 45 (12 * f0 + (t + 2)))) (f0 + 100) 2 (Int32.ofNat (16 + t))) (f0 + 100) 4 (Int32.ofNat (p + 1))) (zJ (zK (zMD M f0 t) 37 (zgb M tt + k) (zmv so (M.2 45 (12 * f0 + (t + 2))))) 41 f0 (Int32.ofNat (p + 1))) Q.2.1 f0 t (p + 1) m lt st := by
          have hb := hd.go (p + 1)
          refine hb.mv2 ?_ ?_ ?_ (fun j => ?_) (fun j => ?_) ?_ ?_ ?_ (fun j hj => ⟨?_, ?_⟩) (fun j hj => ⟨?_, ?_⟩)
          · rw [zI1, if_neg (by omega), zI1, if_pos ⟨rfl, rfl⟩, zI1, if_neg (by omega), zI1, if_pos ⟨rfl, rfl⟩]
          · rw [zI1, if_pos ⟨rfl, rfl⟩, zI1, if_pos ⟨rfl, rfl⟩]
          · show (zSE C (zha C u + 2) so k (M.2 45 (12 * f0 + (t + 2)))).2.2 (f0 + 100) 3 = C.2.2 (f0 + 100) 3
            rw [oS2]
          · show (zSE C (zha C u + 2) so k (M.2 45 (12 * f0 + (t + 2)))).2.1 (f0 + 120) j = C.2.1 (f0 + 120) j
            rw [oS2]
          · rw [oC _ _ (by omega), oS _ _ (by omega), zI1, if_neg (by omega), zI1, if_neg (by omega)]
          · unfold zMD; simp (disch := omega) only [zJ1, zK1, if_neg]
          · unfold zMD; simp (disch := omega) only [zJ1, zK1, if_pos, and_self, if_true]
          · unfold zMD; simp (disch := omega) only [zJ1, zK1, if_neg]
          · unfold zMD; simp (disch := omega) only [zJ1, zK1, if_neg]
          · rw [oM2, if_neg (by omega)]; rfl
          · unfold zMD; simp (disch := omega) only [zJ1, zK1, if_neg]
          · rw [oM2, if_neg (by omega)]; rfl
        obtain ⟨s1, s2, φ', s3, s4⟩ := hR.wr (t' := t) (p' := p + 1) (lt' := lt) (st' := st) hO hφ hfr2 (fun o j x1 x2 x3 => by rw [oC o j x1]; exact oS o j x3) (fun o j x1 => by show (zSE C (zha C u + 2) so k (M.2 45 (12 * f0 + (t + 2)))).2.1 o j = C.2.1 o j; rw [oS2]) (by show (zSE C (zha C u + 2) so k (M.2 45 (12 * f0 + (t + 2)))).2.2 = C.2.2; rw [oS2]) (fun o j x1 x2 x3 => oM o j x1) (fun o j x1 x2 x3 => by rw [oM2, if_neg (by omega)]) hHp ⟨l3, h3', h4'⟩
        refine ⟨_, _, fun M0 => ?_, fun C0 r0 => ?_, s1, s2, S, Nat.le_succ S, Or.inl ⟨D, f0, φ', s3, s4⟩⟩
        · have kk : (zSE C (zha C u + 2) so k (M.2 45 (12 * f0 + (t + 2)))).2.2 15 5 = .ref (b + (3 * f0 + 27)) := by rw [oS2]; exact h2
          have e3 : mX1_drop N (b + (3 * f0 + 27)) 3 (zc w b (zSE C (zha C u + 2) so k (M.2 45 (12 * f0 + (t + 2)))) M0 r) = some (zc w b (zI (zSE C (zha C u + 2) so k (M.2 45 (12 * f0 + (t + 2)))) (f0 + 100) 2 (Int32.ofNat (16 + t))) M0 r) := zf_drop (N := N) (w := w) (b := b) (r := r) (t := t + 3) (k := 3) h1 ((oS _ _ (by omega)).trans a1) a3 (by omega) M0
          have e5 : mX4_goOn N (b + 15) 1 (zc w b (zI (zSE C (zha C u + 2) so k (M.2 45 (12 * f0 + (t + 2)))) (f0 + 100) 2 (Int32.ofNat (16 + t))) M0 r) = some (zc w b (zI (zI (zSE C (zha C u + 2) so k (M.2 45 (12 * f0 + (t + 2)))) (f0 + 100) 2 (Int32.ofNat (16 + t))) (f0 + 100) 4 (Int32.ofNat (p + 1))) M0 r, 0) := zf_goOn (C := zI (zSE C (zha C u + 2) so k (M.2 45 (12 * f0 + (t + 2)))) (f0 + 100) 2 (Int32.ofNat (16 + t))) (n := 1) (p := p) h1 kk (zp4_I2.trans ((oS _ _ (by omega)).trans a4)) M0
          have gv : mX1_number N (b + (3 * f0 + 27)) 0 (zc w b C M0 r) = some (zc w b C M0 r, (M.2 45 (12 * f0 + (t + 2)))) := by
            have := zf_number (N := N) (w := w) (b := b) (C := C) (r := r) (t := t + 3) (k := 0) h1 a1 a3 (by omega) M0
            rw [show 15 + (t + 3) - 0 = 16 + (t + 2) by omega, (uv.num (Or.inl rfl)).1] at this
            exact this
          unfold zcs
          rw [hs, zd_storeG (op := 84) h1 h2 (ga M0) (gi M0) (ef M0) (by rw [if_neg (by decide)]; exact gv) (es M0) kk e3 e5]
          rfl
        · have f1 : mX9_popValue N (b + 75) (zc w b C0 M r0) = some (zc w b C0 (zMD M f0 (t + 2)) r0, M.2 45 (12 * f0 + (t + 2))) := zn_pop (N := N) (w := w) (b := b) (M := M) (t := t + 2) h1 h3 a2 (by omega) C0 r0
          have f2 : mX9_popValue N (b + 75) (zc w b C0 (zMD M f0 (t + 2)) r0) = some (zc w b C0 (zMD M f0 (t + 1)) r0, M.2 45 (12 * f0 + (t + 1))) := by
            have := zn_pop (N := N) (w := w) (b := b) (M := zMD M f0 (t + 2)) (t := t + 1) h1 (zmd100.trans h3) zmd42 (by omega) C0 r0
            rw [zMDD] at this; exact this
          have f3 : mX9_popValue N (b + 75) (zc w b C0 (zMD M f0 (t + 1)) r0) = some (zc w b C0 (zMD M f0 t) r0, M.2 45 (12 * f0 + t)) := by
            have := zn_pop (N := N) (w := w) (b := b) (M := zMD M f0 (t + 1)) (t := t) h1 (zmd100.trans h3) zmd42 (by omega) C0 r0
            rw [zMDD] at this; exact this
          have esn : zm_aI (zc w b C0 (zMD M f0 t) r0) (b + 99) (Int32.ofNat tt) = some (Int32.ofNat so) := by
            rw [zqa_99 q2]
            unfold zMD
            rw [zJ1, if_neg (by omega), q3]
          have eb : zm_aI (zc w b C0 (zMD M f0 t) r0) (b + 101) (Int32.ofNat tt) = some (Int32.ofNat (zgb M tt)) := by
            rw [zqa_101 q2]
            unfold zMD
            rw [zJ1, if_neg (by omega)]
            exact congrArg some (zN_of _).symm
          have ecl : zm_sL (zc w b C0 (zMD M f0 t) r0) (b + 103) (Int32.ofNat (zgb M tt) + (M.2 45 (12 * f0 + (t + 1))).toInt32) (zmv so (M.2 45 (12 * f0 + (t + 2)))) = some (zc w b C0 (zK (zMD M f0 t) 37 (zgb M tt + k) (zmv so (M.2 45 (12 * f0 + (t + 2))))) r0) := by
            rw [hk1, zi_add, zqs_103 (by omega)]
          have f9 : mX9_step_327 N (b + 75) (Int32.ofNat f0) (Int32.ofNat p) 1 (zc w b C0 (zK (zMD M f0 t) 37 (zgb M tt + k) (zmv so (M.2 45 (12 * f0 + (t + 2))))) r0) = some (zc w b C0 (zJ (zK (zMD M f0 t) 37 (zgb M tt + k) (zmv so (M.2 45 (12 * f0 + (t + 2))))) 41 f0 (Int32.ofNat (p + 1))) r0) := zn_on (N := N) (w := w) (b := b) (M := zK (zMD M f0 t) 37 (zgb M tt + k) (zmv so (M.2 45 (12 * f0 + (t + 2))))) (p := p) (n := 1) h1 ((zmd100 (M := M) (f := f0) (t := t)).trans h4) ((zmd100 (M := M) (f := f0) (t := t)).trans h5) C0 r0
          rw [fs, zn_storeG (op := 84) (so := so) (by omega) zqk_75 zqk_75 zqk_75 (fp0 C0 r0) (fp1 C0 r0) (fp2 C0 r0) (ewr C0 r0) f1 f2 f3 zqg_75_32 zqg_75_37 zqg_75_34 (by rw [hti]; exact esn) (by rw [hti]; exact eb) ecl, Option.bind_some]
          exact f9
      · simp only [if_neg c2] at ef0 ew0
        have ef : ∀ M0, mX4_faultOfElement N (b + 15) 5 (C.1 (f0 + 140) (16 + t)) (M.2 45 (12 * f0 + (t + 1))).toInt32 (zc w b C M0 r) = some (zc w b C M0 r, 3) := ef0
        have ewr : ∀ C0 r0, mX9_wrong N (b + 75) 84 (M.2 45 (12 * f0 + t)) (M.2 45 (12 * f0 + (t + 1))) (zc w b C0 M r0) = some (zc w b C0 M r0, 3) := ew0
        refine zStp_e (e := 3) hN hw hS h7 hR hO (by decide) (fun M0 => ?_) (Or.inl ⟨Int32.ofNat f0, Int32.ofNat p, 1, fun C0 r0 => ?_⟩)
        · rw [hs, zd_storeE (op := 84) (e := 3) h1 h2 (ga M0) (gi M0) (ef M0) (by decide)]
          rfl
        · rw [fs, zn_storeE (op := 84) (e := 3) zqk_75 (fp0 C0 r0) (fp1 C0 r0) (fp2 C0 r0) (ewr C0 r0) (by decide)]
          show Option.bind _ _ = (mX9_fail N (b + 75) 3 (zc w b C0 M r0)).bind _
          cases mX9_fail N (b + 75) 3 (zc w b C0 M r0) <;> rfl
    · simp only [if_neg c1] at ef0 ew0
      have ef : ∀ M0, mX4_faultOfElement N (b + 15) 5 (C.1 (f0 + 140) (16 + t)) (M.2 45 (12 * f0 + (t + 1))).toInt32 (zc w b C M0 r) = some (zc w b C M0 r, 5) := ef0
      have ewr : ∀ C0 r0, mX9_wrong N (b + 75) 84 (M.2 45 (12 * f0 + t)) (M.2 45 (12 * f0 + (t + 1))) (zc w b C0 M r0) = some (zc w b C0 M r0, 5) := ew0
      refine zStp_e (e := 5) hN hw hS h7 hR hO (by decide) (fun M0 => ?_) (Or.inl ⟨Int32.ofNat f0, Int32.ofNat p, 1, fun C0 r0 => ?_⟩)
      · rw [hs, zd_storeE (op := 84) (e := 5) h1 h2 (ga M0) (gi M0) (ef M0) (by decide)]
        rfl
      · rw [fs, zn_storeE (op := 84) (e := 5) zqk_75 (fp0 C0 r0) (fp1 C0 r0) (fp2 C0 r0) (ewr C0 r0) (by decide)]
        show Option.bind _ _ = (mX9_fail N (b + 75) 5 (zc w b C0 M r0)).bind _
        cases mX9_fail N (b + 75) 5 (zc w b C0 M r0) <;> rfl

theorem zs_85 (hN : 1700 < N) (hw : w ≤ 400) (hS : S + 1 < 2 ^ 31) (h7 : ∀ k, k < 7 → F k = 0) (hR : zRn w b K F ρ α π r Q D C M S f0 φ) (hO : zOn C M) (hφ : φ f0 = (t, p, m, lt, st)) (hop : uC (Q.2.2.1 m) p = 85) : zStp N w b K F ρ α π r Q C M S := by
  obtain ⟨hc, hm, hK, l', hl, s1, hp, s2, l2, hh, hlen, hfl⟩ := hR.ty hO hφ hop
  have hh : some (s1, l') = some (s2, l2) := hh
  cases hh
  have hp : zpop [1, 1, 3] (zrv st t) = some s1 := hp
  obtain ⟨t, rfl, k0, hp⟩ := zpopc hp
  obtain ⟨t, rfl, k1, hp⟩ := zpopc hp
  obtain ⟨t, rfl, k2, hp⟩ := zpopc hp
  have hp := zpop0 hp
  subst hp
  have hc' := hc
  have hD := hR.2.1.1
  have hK30 := hR.1.2.2.2.1
  obtain ⟨h1, h2, h3, h4, h5, hfr, _, h8, h9, h10, h11, h12⟩ := hc
  have hfr0 := hfr
  obtain ⟨a1, a2, a3, a4, a5, a6, a7, a8, a9⟩ := hfr
  rw [hop] at h12
  have h12 : p + 1 ≤ uLen (Q.2.2.1 m) := h12
  have e0 : ∀ M0, mX1_opcode N (b + (3 * f0 + 27)) (zc w b C M0 r) = some (zc w b C M0 r, 85) := fun M0 => ze_step0 (N := N) (w := w) hc' hop M0
  have fstep : ∀ C0 r0, mX9_step N (b + 75) (zc w b C0 M r0) = mX9_step_74 N (b + 75) (Int32.ofNat f0) (Int32.ofNat m) (Int32.ofNat p) 85 1 0 0 (zc w b C0 M r0) := fun C0 r0 => zn_step (N := N) (w := w) hc' hop (n := 1) rfl rfl rfl C0 r0
  have hd := hfr0.drop (t' := t) (by omega)
  have uv := (a9 (t + 2) (by omega)).2.2.2
  rw [k0] at uv
  have u0 := (a9 (t + 1) (by omega)).2.2.2
  rw [k1] at u0
  have n0 := u0.num (Or.inl rfl)
  have hint := u0.int
  have u1 := (a9 t (by omega)).2.2.2
  rw [k2] at u1
  have gi : ∀ M0, mX1_number N (b + (3 * f0 + 27)) 1 (zc w b C M0 r) = some (zc w b C M0 r, M.2 45 (12 * f0 + (t + 1))) := fun M0 => by
    have := zf_number (N := N) (w := w) (b := b) (C := C) (r := r) (t := t + 3) (k := 1) h1 a1 a3 (by omega) M0
    rw [show 15 + (t + 3) - 1 = 16 + (t + 1) by omega, n0.1] at this
    exact this
  have ga : ∀ M0, mX1_reference N (b + (3 * f0 + 27)) 2 (zc w b C M0 r) = some (zc w b C M0 r, C.1 (f0 + 140) (16 + t)) := fun M0 => by
    have := zf_reference (N := N) (w := w) (b := b) (C := C) (r := r) (t := t + 3) (k := 2) h1 a1 a3 (by omega) M0
    rw [show 15 + (t + 3) - 2 = 16 + t by omega] at this
    exact this
  have fp0 : ∀ C0 r0, mX9_peek N (b + 75) 0 (zc w b C0 M r0) = some (zc w b C0 M r0, M.2 45 (12 * f0 + (t + 2))) := fun C0 r0 => zn_peek (N := N) (w := w) (b := b) (M := M) (t := t + 3) (k := 0) h1 h3 a2 a3 (by omega) C0 r0
  have fp1 : ∀ C0 r0, mX9_peek N (b + 75) 1 (zc w b C0 M r0) = some (zc w b C0 M r0, M.2 45 (12 * f0 + (t + 1))) := fun C0 r0 => zn_peek (N := N) (w := w) (b := b) (M := M) (t := t + 3) (k := 1) h1 h3 a2 a3 (by omega) C0 r0
  have fp2 : ∀ C0 r0, mX9_peek N (b + 75) 2 (zc w b C0 M r0) = some (zc w b C0 M r0, M.2 45 (12 * f0 + t)) := fun C0 r0 => zn_peek (N := N) (w := w) (b := b) (M := M) (t := t + 3) (k := 2) h1 h3 a2 a3 (by omega) C0 r0
  obtain ⟨l3, h3', h4'⟩ := (hfl lt hl).2 (by unfold zgoes; decide)
  have hs : ∀ M0, mX4_step N (b + 15) (zc w b C M0 r) = (mX4_storeElement N (b + 15) 85 (zc w b C M0 r)).bind fun o => some (o.1, o.2) := fun M0 => by
    simp (decide := true) only [mX4_step_107, mX4_step_249, mX4_step_0, mX4_step, e0, zqg_15_5 h2, zqkF h1, id, zqk_15, zqk_16, zqg_15_2, Option.map_some, Int32.reduceLT, Int32.reduceLE, Int32.reduceAdd, Int32.reduceSub, Int32.reduceMul, Int32.reduceDiv, Int32.reduceMod, ↓reduceIte, Option.bind_some]
  have fs : ∀ C0 r0, mX9_step N (b + 75) (zc w b C0 M r0) = (mX9_doStore N (b + 75) 85 (zc w b C0 M r0)).bind fun o => mX9_step_327 N (b + 75) (Int32.ofNat f0) (Int32.ofNat p) 1 o := fun C0 r0 => by
    refine (fstep C0 r0).trans ?_
    simp (decide := true) only [mX9_step_74, zqk_75, id, Option.map_some, Int32.reduceLT, Int32.reduceLE, Int32.reduceAdd, Int32.reduceSub, Int32.reduceMul, Int32.reduceDiv, Int32.reduceMod, ↓reduceIte, Option.bind_some]
  rcases zRf.cs hD u1.ref with ⟨hz, hv⟩ | ⟨u, tt, hd2, hre, hv, hz, hzm, hti⟩
  · have hzm : lg_cmp (M.2 45 (12 * f0 + t)) 0 = 0 := zw_cmp.mpr hv
    have ef : ∀ M0, mX4_faultOfElement N (b + 15) 6 (C.1 (f0 + 140) (16 + t)) (M.2 45 (12 * f0 + (t + 1))).toInt32 (zc w b C M0 r) = some (zc w b C M0 r, 2) := fun M0 => by
      unfold mX4_faultOfElement mX4_faultOfElement_0
      rw [if_pos hz]
    have ewr : ∀ C0 r0, mX9_wrong N (b + 75) 85 (M.2 45 (12 * f0 + t)) (M.2 45 (12 * f0 + (t + 1))) (zc w b C0 M r0) = some (zc w b C0 M r0, 2) := fun C0 r0 => by
      unfold mX9_wrong mX9_wrong_0
      rw [if_pos hzm]
    refine zStp_e (e := 2) hN hw hS h7 hR hO (by decide) (fun M0 => ?_) (Or.inl ⟨Int32.ofNat f0, Int32.ofNat p, 1, fun C0 r0 => ?_⟩)
    · rw [hs, zd_storeE (op := 85) (e := 2) h1 h2 (ga M0) (gi M0) (ef M0) (by decide)]
      rfl
    · rw [fs, zn_storeE (op := 85) (e := 2) zqk_75 (fp0 C0 r0) (fp1 C0 r0) (fp2 C0 r0) (ewr C0 r0) (by decide)]
      show Option.bind _ _ = (mX9_fail N (b + 75) 2 (zc w b C0 M r0)).bind _
      cases mX9_fail N (b + 75) 2 (zc w b C0 M r0) <;> rfl
  · obtain ⟨so, cl, n, hk⟩ := hR.2.1.pk hw hR.1 hd2
    have ef0 : ∀ M0, _ := fun M0 => zd_fault (N := N) (w := w) (b := b) (r := r) (use := 6) (i := (M.2 45 (12 * f0 + (t + 1))).toInt32) hw hK30 hk (by decide) M0
    have ew0 : ∀ C0 r0, _ := fun C0 r0 => zn_wrong (N := N) (w := w) (b := b) (use := 6) (op := 85) (v := M.2 45 (12 * f0 + (t + 1))) hk (by decide) (by decide) hint C0 r0
    rw [← hre] at ef0
    rw [← hv] at ew0
    by_cases c1 : zok 6 so = true
    · simp only [if_pos c1] at ef0 ew0
      by_cases c2 : 0 ≤ (M.2 45 (12 * f0 + (t + 1))).toInt32 ∧ (M.2 45 (12 * f0 + (t + 1))).toInt32 < Int32.ofNat n
      · simp only [if_pos c2] at ef0 ew0
        have ef : ∀ M0, mX4_faultOfElement N (b + 15) 6 (C.1 (f0 + 140) (16 + t)) (M.2 45 (12 * f0 + (t + 1))).toInt32 (zc w b C M0 r) = some (zc w b C M0 r, 0) := ef0
        have ewr : ∀ C0 r0, mX9_wrong N (b + 75) 85 (M.2 45 (12 * f0 + t)) (M.2 45 (12 * f0 + (t + 1))) (zc w b C0 M r0) = some (zc w b C0 M r0, 0) := ew0
        obtain ⟨k, hk1, hk2⟩ := zi_of c2.1
        have hkn : k < n := by
          have := c2.2
          rw [hk1, zi_lt hk2 (by have := hk.2.2.2.2.2.1; omega)] at this
          exact this
        have hso0 : so ≠ 0 := fun e => by rw [e] at c1; exact absurd c1 (by decide)
        have hk' := hk
        obtain ⟨q1, q2, q3, q4, q5, q6, q7, q8, q9, q10, q11, q12, q13, q14, q15, q16, q17, q18⟩ := hk
        have hz' : zgz M tt = n := by unfold zgz; rw [q5, zN_nat (by omega)]
        have es : ∀ M0, mX2_setElement N (b + 16) (C.1 (f0 + 140) (16 + t)) (M.2 45 (12 * f0 + (t + 1))).toInt32 (M.2 45 (12 * f0 + (t + 2))) (zc w b C M0 r) = some (zc w b (zSE C (zha C u + 2) so k (M.2 45 (12 * f0 + (t + 2)))) M0 r) := fun M0 => by
          rw [hre, hk1]
          exact zd_setElement (N := N) (w := w) (b := b) (r := r) hw hk' hso0 hkn M0
        have oS : ∀ o j, o ≠ 17 → (zSE C (zha C u + 2) so k (M.2 45 (12 * f0 + (t + 2)))).1 o j = C.1 o j := fun o j h => zSE_o h
        have oS2 : (zSE C (zha C u + 2) so k (M.2 45 (12 * f0 + (t + 2)))).2 = C.2 := zSE_2
        have oC : ∀ o j, o ≠ f0 + 100 → (zI (zI (zSE C (zha C u + 2) so k (M.2 45 (12 * f0 + (t + 2)))) (f0 + 100) 2 (Int32.ofNat (16 + t))) (f0 + 100) 4 (Int32.ofNat (p + 1))).1 o j = (zSE C (zha C u + 2) so k (M.2 45 (12 * f0 + (t + 2)))).1 o j := fun o j h => by rw [zI1, if_neg (fun q => h q.1), zI1, if_neg (fun q => h q.1)]
        have oM : ∀ o j, ¬ (j = f0 ∧ (o = 41 ∨ o = 42)) → (zJ (zK (zMD M f0 t) 37 (zgb M tt + k) (zmv so (M.2 45 (12 * f0 + (t + 2))))) 41 f0 (Int32.ofNat (p + 1))).1 o j = M.1 o j := fun o j h => by
          unfold zMD
          rw [zJ1, if_neg (by omega), zK1, zJ1, if_neg (by omega)]
        have oM2 : ∀ o j, (zJ (zK (zMD M f0 t) 37 (zgb M tt + k) (zmv so (M.2 45 (12 * f0 + (t + 2))))) 41 f0 (Int32.ofNat (p + 1))).2 o j = if o = 37 ∧ j = zgb M tt + k then zmv so (M.2 45 (12 * f0 + (t + 2))) else M.2 o j := fun o j => rfl
        have hHp : zHp w K F ρ D (zI (zI (zSE C (zha C u + 2) so k (M.2 45 (12 * f0 + (t + 2)))) (f0 + 100) 2 (Int32.ofNat (16 + t))) (f0 + 100) 4 (Int32.ofNat (p + 1))) (zJ (zK (zMD M f0 t) 37 (zgb M tt + k) (zmv so (M.2 45 (12 * f0 + (t + 2))))) 41 f0 (Int32.ofNat (p + 1))) S := by
          refine zHp.wr hw hR.1 hR.2.1 hd2 (fun o j x1 x2 x3 => ?_) (fun o j x1 x2 => oM o j (by omega)) (oM _ _ (by omega)) (oM _ _ (by omega)) (fun j x1 => ?_) (fun _ so' cl' n' hk2 j hj => ?_)
          · rw [oC o j (by omega)]
            by_cases c : o = 17
            · subst c
              refine zSE_out hkn ?_
              rw [q11] at x3
              have := zwd_sz so n
              omega
            · exact oS o j c
          · rw [hz'] at x1
            rw [oM2, if_neg (by omega)]
          · have w1 : so = so' := by
              have := hk2.2.2.1
              rw [q3] at this
              exact zi_inj (by omega) (by have := hk2.2.2.2.2.2.2.2.1; omega) this
            have w2 : cl = cl' := by
              have := hk2.2.2.2.1
              rw [q4] at this
              exact zi_inj (by omega) (by have := hk2.2.2.2.2.2.2.1; omega) this
            have w3 : n = n' := by
              have := hk2.2.2.2.2.1
              rw [q5] at this
              exact zi_inj (by omega) (by have := hk2.2.2.2.2.2.1; omega) this
            subst w1; subst w2; subst w3
            have hq := q18 j hj
            have eW : (fun i => (zI (zI (zSE C (zha C u + 2) so k (M.2 45 (12 * f0 + (t + 2)))) (f0 + 100) 2 (Int32.ofNat (16 + t))) (f0 + 100) 4 (Int32.ofNat (p + 1))).1 17 (zha C u + 2 + i)) = fun i => (zSE C (zha C u + 2) so k (M.2 45 (12 * f0 + (t + 2)))).1 17 (zha C u + 2 + i) := funext fun i => oC _ _ (by omega)
            rw [oM2]
            have hso : so ≠ 12 := fun e => by rw [e] at c1; exact absurd c1 (by decide)
            rw [if_neg (by omega)] at hq ⊢
            rw [eW, zSE_el (by omega) (fun e => uv.int)]
            by_cases c : j = k
            · rw [if_pos c, if_pos ⟨rfl, by omega⟩]
            · rw [if_neg c, if_neg (by omega)]
              exact hq
        have hfr2 : zFr D (zI (zI (zSE C (zha C u + 2) so k (M.2 45 (12 * f0 + (t + 2)))) (f0 + 100) 2 (Int32.ofNat (16 + t))) (f0 + 100) 4 (Int32.ofNat (p + 1))) (zJ (zK (zMD M f0 t) 37 (zgb M tt + k) (zmv so (M.2 45 (12 * f0 + (t + 2))))) 41 f0 (Int32.ofNat (p + 1))) Q.2.1 f0 t (p + 1) m lt st := by
          have hb := hd.go (p + 1)
          refine hb.mv2 ?_ ?_ ?_ (fun j => ?_) (fun j => ?_) ?_ ?_ ?_ (fun j hj => ⟨?_, ?_⟩) (fun j hj => ⟨?_, ?_⟩)
          · rw [zI1, if_neg (by omega), zI1, if_pos ⟨rfl, rfl⟩, zI1, if_neg (by omega), zI1, if_pos ⟨rfl, rfl⟩]
          · rw [zI1, if_pos ⟨rfl, rfl⟩, zI1, if_pos ⟨rfl, rfl⟩]
          · show (zSE C (zha C u + 2) so k (M.2 45 (12 * f0 + (t + 2)))).2.2 (f0 + 100) 3 = C.2.2 (f0 + 100) 3
            rw [oS2]
          · show (zSE C (zha C u + 2) so k (M.2 45 (12 * f0 + (t + 2)))).2.1 (f0 + 120) j = C.2.1 (f0 + 120) j
            rw [oS2]
          · rw [oC _ _ (by omega), oS _ _ (by omega), zI1, if_neg (by omega), zI1, if_neg (by omega)]
          · unfold zMD; simp (disch := omega) only [zJ1, zK1, if_neg]
          · unfold zMD; simp (disch := omega) only [zJ1, zK1, if_pos, and_self, if_true]
          · unfold zMD; simp (disch := omega) only [zJ1, zK1, if_neg]
          · unfold zMD; simp (disch := omega) only [zJ1, zK1, if_neg]
          · rw [oM2, if_neg (by omega)]; rfl
          · unfold zMD; simp (disch := omega) only [zJ1, zK1, if_neg]
          · rw [oM2, if_neg (by omega)]; rfl
        obtain ⟨s1, s2, φ', s3, s4⟩ := hR.wr (t' := t) (p' := p + 1) (lt' := lt) (st' := st) hO hφ hfr2 (fun o j x1 x2 x3 => by rw [oC o j x1]; exact oS o j x3) (fun o j x1 => by show (zSE C (zha C u + 2) so k (M.2 45 (12 * f0 + (t + 2)))).2.1 o j = C.2.1 o j; rw [oS2]) (by show (zSE C (zha C u + 2) so k (M.2 45 (12 * f0 + (t + 2)))).2.2 = C.2.2; rw [oS2]) (fun o j x1 x2 x3 => oM o j x1) (fun o j x1 x2 x3 => by rw [oM2, if_neg (by omega)]) hHp ⟨l3, h3', h4'⟩
        refine ⟨_, _, fun M0 => ?_, fun C0 r0 => ?_, s1, s2, S, Nat.le_succ S, Or.inl ⟨D, f0, φ', s3, s4⟩⟩
        · have kk : (zSE C (zha C u + 2) so k (M.2 45 (12 * f0 + (t + 2)))).2.2 15 5 = .ref (b + (3 * f0 + 27)) := by rw [oS2]; exact h2
          have e3 : mX1_drop N (b + (3 * f0 + 27)) 3 (zc w b (zSE C (zha C u + 2) so k (M.2 45 (12 * f0 + (t + 2)))) M0 r) = some (zc w b (zI (zSE C (zha C u + 2) so k (M.2 45 (12 * f0 + (t + 2)))) (f0 + 100) 2 (Int32.ofNat (16 + t))) M0 r) := zf_drop (N := N) (w := w) (b := b) (r := r) (t := t + 3) (k := 3) h1 ((oS _ _ (by omega)).trans a1) a3 (by omega) M0
          have e5 : mX4_goOn N (b + 15) 1 (zc w b (zI (zSE C (zha C u + 2) so k (M.2 45 (12 * f0 + (t + 2)))) (f0 + 100) 2 (Int32.ofNat (16 + t))) M0 r) = some (zc w b (zI (zI (zSE C (zha C u + 2) so k (M.2 45 (12 * f0 + (t + 2)))) (f0 + 100) 2 (Int32.ofNat (16 + t))) (f0 + 100) 4 (Int32.ofNat (p + 1))) M0 r, 0) := zf_goOn (C := zI (zSE C (zha C u + 2) so k (M.2 45 (12 * f0 + (t + 2)))) (f0 + 100) 2 (Int32.ofNat (16 + t))) (n := 1) (p := p) h1 kk (zp4_I2.trans ((oS _ _ (by omega)).trans a4)) M0
          have gv : mX1_number N (b + (3 * f0 + 27)) 0 (zc w b C M0 r) = some (zc w b C M0 r, (M.2 45 (12 * f0 + (t + 2)))) := by
            have := zf_number (N := N) (w := w) (b := b) (C := C) (r := r) (t := t + 3) (k := 0) h1 a1 a3 (by omega) M0
            rw [show 15 + (t + 3) - 0 = 16 + (t + 2) by omega, (uv.num (Or.inl rfl)).1] at this
            exact this
          unfold zcs
          rw [hs, zd_storeG (op := 85) h1 h2 (ga M0) (gi M0) (ef M0) (by rw [if_neg (by decide)]; exact gv) (es M0) kk e3 e5]
          rfl
        · have f1 : mX9_popValue N (b + 75) (zc w b C0 M r0) = some (zc w b C0 (zMD M f0 (t + 2)) r0, M.2 45 (12 * f0 + (t + 2))) := zn_pop (N := N) (w := w) (b := b) (M := M) (t := t + 2) h1 h3 a2 (by omega) C0 r0
          have f2 : mX9_popValue N (b + 75) (zc w b C0 (zMD M f0 (t + 2)) r0) = some (zc w b C0 (zMD M f0 (t + 1)) r0, M.2 45 (12 * f0 + (t + 1))) := by
            have := zn_pop (N := N) (w := w) (b := b) (M := zMD M f0 (t + 2)) (t := t + 1) h1 (zmd100.trans h3) zmd42 (by omega) C0 r0
            rw [zMDD] at this; exact this
          have f3 : mX9_popValue N (b + 75) (zc w b C0 (zMD M f0 (t + 1)) r0) = some (zc w b C0 (zMD M f0 t) r0, M.2 45 (12 * f0 + t)) := by
            have := zn_pop (N := N) (w := w) (b := b) (M := zMD M f0 (t + 1)) (t := t) h1 (zmd100.trans h3) zmd42 (by omega) C0 r0
            rw [zMDD] at this; exact this
          have esn : zm_aI (zc w b C0 (zMD M f0 t) r0) (b + 99) (Int32.ofNat tt) = some (Int32.ofNat so) := by
            rw [zqa_99 q2]
            unfold zMD
            rw [zJ1, if_neg (by omega), q3]
          have eb : zm_aI (zc w b C0 (zMD M f0 t) r0) (b + 101) (Int32.ofNat tt) = some (Int32.ofNat (zgb M tt)) := by
            rw [zqa_101 q2]
            unfold zMD
            rw [zJ1, if_neg (by omega)]
            exact congrArg some (zN_of _).symm
          have ecl : zm_sL (zc w b C0 (zMD M f0 t) r0) (b + 103) (Int32.ofNat (zgb M tt) + (M.2 45 (12 * f0 + (t + 1))).toInt32) (zmv so (M.2 45 (12 * f0 + (t + 2)))) = some (zc w b C0 (zK (zMD M f0 t) 37 (zgb M tt + k) (zmv so (M.2 45 (12 * f0 + (t + 2))))) r0) := by
            rw [hk1, zi_add, zqs_103 (by omega)]
          have f9 : mX9_step_327 N (b + 75) (Int32.ofNat f0) (Int32.ofNat p) 1 (zc w b C0 (zK (zMD M f0 t) 37 (zgb M tt + k) (zmv so (M.2 45 (12 * f0 + (t + 2))))) r0) = some (zc w b C0 (zJ (zK (zMD M f0 t) 37 (zgb M tt + k) (zmv so (M.2 45 (12 * f0 + (t + 2))))) 41 f0 (Int32.ofNat (p + 1))) r0) := zn_on (N := N) (w := w) (b := b) (M := zK (zMD M f0 t) 37 (zgb M tt + k) (zmv so (M.2 45 (12 * f0 + (t + 2))))) (p := p) (n := 1) h1 ((zmd100 (M := M) (f := f0) (t := t)).trans h4) ((zmd100 (M := M) (f := f0) (t := t)).trans h5) C0 r0
          rw [fs, zn_storeG (op := 85) (so := so) (by omega) zqk_75 zqk_75 zqk_75 (fp0 C0 r0) (fp1 C0 r0) (fp2 C0 r0) (ewr C0 r0) f1 f2 f3 zqg_75_32 zqg_75_37 zqg_75_34 (by rw [hti]; exact esn) (by rw [hti]; exact eb) ecl, Option.bind_some]
          exact f9
      · simp only [if_neg c2] at ef0 ew0
        have ef : ∀ M0, mX4_faultOfElement N (b + 15) 6 (C.1 (f0 + 140) (16 + t)) (M.2 45 (12 * f0 + (t + 1))).toInt32 (zc w b C M0 r) = some (zc w b C M0 r, 3) := ef0
        have ewr : ∀ C0 r0, mX9_wrong N (b + 75) 85 (M.2 45 (12 * f0 + t)) (M.2 45 (12 * f0 + (t + 1))) (zc w b C0 M r0) = some (zc w b C0 M r0, 3) := ew0
        refine zStp_e (e := 3) hN hw hS h7 hR hO (by decide) (fun M0 => ?_) (Or.inl ⟨Int32.ofNat f0, Int32.ofNat p, 1, fun C0 r0 => ?_⟩)
        · rw [hs, zd_storeE (op := 85) (e := 3) h1 h2 (ga M0) (gi M0) (ef M0) (by decide)]
          rfl
        · rw [fs, zn_storeE (op := 85) (e := 3) zqk_75 (fp0 C0 r0) (fp1 C0 r0) (fp2 C0 r0) (ewr C0 r0) (by decide)]
          show Option.bind _ _ = (mX9_fail N (b + 75) 3 (zc w b C0 M r0)).bind _
          cases mX9_fail N (b + 75) 3 (zc w b C0 M r0) <;> rfl
    · simp only [if_neg c1] at ef0 ew0
      have ef : ∀ M0, mX4_faultOfElement N (b + 15) 6 (C.1 (f0 + 140) (16 + t)) (M.2 45 (12 * f0 + (t + 1))).toInt32 (zc w b C M0 r) = some (zc w b C M0 r, 5) := ef0
      have ewr : ∀ C0 r0, mX9_wrong N (b + 75) 85 (M.2 45 (12 * f0 + t)) (M.2 45 (12 * f0 + (t + 1))) (zc w b C0 M r0) = some (zc w b C0 M r0, 5) := ew0
      refine zStp_e (e := 5) hN hw hS h7 hR hO (by decide) (fun M0 => ?_) (Or.inl ⟨Int32.ofNat f0, Int32.ofNat p, 1, fun C0 r0 => ?_⟩)
      · rw [hs, zd_storeE (op := 85) (e := 5) h1 h2 (ga M0) (gi M0) (ef M0) (by decide)]
        rfl
      · rw [fs, zn_storeE (op := 85) (e := 5) zqk_75 (fp0 C0 r0) (fp1 C0 r0) (fp2 C0 r0) (ewr C0 r0) (by decide)]
        show Option.bind _ _ = (mX9_fail N (b + 75) 5 (zc w b C0 M r0)).bind _
        cases mX9_fail N (b + 75) 5 (zc w b C0 M r0) <;> rfl

theorem zs_86 (hN : 1700 < N) (hw : w ≤ 400) (hS : S + 1 < 2 ^ 31) (h7 : ∀ k, k < 7 → F k = 0) (hR : zRn w b K F ρ α π r Q D C M S f0 φ) (hO : zOn C M) (hφ : φ f0 = (t, p, m, lt, st)) (hop : uC (Q.2.2.1 m) p = 86) : zStp N w b K F ρ α π r Q C M S := by
  obtain ⟨hc, hm, hK, l', hl, s1, hp, s2, l2, hh, hlen, hfl⟩ := hR.ty hO hφ hop
  have hh : some (s1, l') = some (s2, l2) := hh
  cases hh
  have hp : zpop [1, 1, 3] (zrv st t) = some s1 := hp
  obtain ⟨t, rfl, k0, hp⟩ := zpopc hp
  obtain ⟨t, rfl, k1, hp⟩ := zpopc hp
  obtain ⟨t, rfl, k2, hp⟩ := zpopc hp
  have hp := zpop0 hp
  subst hp
  have hc' := hc
  have hD := hR.2.1.1
  have hK30 := hR.1.2.2.2.1
  obtain ⟨h1, h2, h3, h4, h5, hfr, _, h8, h9, h10, h11, h12⟩ := hc
  have hfr0 := hfr
  obtain ⟨a1, a2, a3, a4, a5, a6, a7, a8, a9⟩ := hfr
  rw [hop] at h12
  have h12 : p + 1 ≤ uLen (Q.2.2.1 m) := h12
  have e0 : ∀ M0, mX1_opcode N (b + (3 * f0 + 27)) (zc w b C M0 r) = some (zc w b C M0 r, 86) := fun M0 => ze_step0 (N := N) (w := w) hc' hop M0
  have fstep : ∀ C0 r0, mX9_step N (b + 75) (zc w b C0 M r0) = mX9_step_74 N (b + 75) (Int32.ofNat f0) (Int32.ofNat m) (Int32.ofNat p) 86 1 0 0 (zc w b C0 M r0) := fun C0 r0 => zn_step (N := N) (w := w) hc' hop (n := 1) rfl rfl rfl C0 r0
  have hd := hfr0.drop (t' := t) (by omega)
  have uv := (a9 (t + 2) (by omega)).2.2.2
  rw [k0] at uv
  have u0 := (a9 (t + 1) (by omega)).2.2.2
  rw [k1] at u0
  have n0 := u0.num (Or.inl rfl)
  have hint := u0.int
  have u1 := (a9 t (by omega)).2.2.2
  rw [k2] at u1
  have gi : ∀ M0, mX1_number N (b + (3 * f0 + 27)) 1 (zc w b C M0 r) = some (zc w b C M0 r, M.2 45 (12 * f0 + (t + 1))) := fun M0 => by
    have := zf_number (N := N) (w := w) (b := b) (C := C) (r := r) (t := t + 3) (k := 1) h1 a1 a3 (by omega) M0
    rw [show 15 + (t + 3) - 1 = 16 + (t + 1) by omega, n0.1] at this
    exact this
  have ga : ∀ M0, mX1_reference N (b + (3 * f0 + 27)) 2 (zc w b C M0 r) = some (zc w b C M0 r, C.1 (f0 + 140) (16 + t)) := fun M0 => by
    have := zf_reference (N := N) (w := w) (b := b) (C := C) (r := r) (t := t + 3) (k := 2) h1 a1 a3 (by omega) M0
    rw [show 15 + (t + 3) - 2 = 16 + t by omega] at this
    exact this
  have fp0 : ∀ C0 r0, mX9_peek N (b + 75) 0 (zc w b C0 M r0) = some (zc w b C0 M r0, M.2 45 (12 * f0 + (t + 2))) := fun C0 r0 => zn_peek (N := N) (w := w) (b := b) (M := M) (t := t + 3) (k := 0) h1 h3 a2 a3 (by omega) C0 r0
  have fp1 : ∀ C0 r0, mX9_peek N (b + 75) 1 (zc w b C0 M r0) = some (zc w b C0 M r0, M.2 45 (12 * f0 + (t + 1))) := fun C0 r0 => zn_peek (N := N) (w := w) (b := b) (M := M) (t := t + 3) (k := 1) h1 h3 a2 a3 (by omega) C0 r0
  have fp2 : ∀ C0 r0, mX9_peek N (b + 75) 2 (zc w b C0 M r0) = some (zc w b C0 M r0, M.2 45 (12 * f0 + t)) := fun C0 r0 => zn_peek (N := N) (w := w) (b := b) (M := M) (t := t + 3) (k := 2) h1 h3 a2 a3 (by omega) C0 r0
  obtain ⟨l3, h3', h4'⟩ := (hfl lt hl).2 (by unfold zgoes; decide)
  have hs : ∀ M0, mX4_step N (b + 15) (zc w b C M0 r) = (mX4_storeElement N (b + 15) 86 (zc w b C M0 r)).bind fun o => some (o.1, o.2) := fun M0 => by
    simp (decide := true) only [mX4_step_107, mX4_step_249, mX4_step_0, mX4_step, e0, zqg_15_5 h2, zqkF h1, id, zqk_15, zqk_16, zqg_15_2, Option.map_some, Int32.reduceLT, Int32.reduceLE, Int32.reduceAdd, Int32.reduceSub, Int32.reduceMul, Int32.reduceDiv, Int32.reduceMod, ↓reduceIte, Option.bind_some]
  have fs : ∀ C0 r0, mX9_step N (b + 75) (zc w b C0 M r0) = (mX9_doStore N (b + 75) 86 (zc w b C0 M r0)).bind fun o => mX9_step_327 N (b + 75) (Int32.ofNat f0) (Int32.ofNat p) 1 o := fun C0 r0 => by
    refine (fstep C0 r0).trans ?_
    simp (decide := true) only [mX9_step_74, zqk_75, id, Option.map_some, Int32.reduceLT, Int32.reduceLE, Int32.reduceAdd, Int32.reduceSub, Int32.reduceMul, Int32.reduceDiv, Int32.reduceMod, ↓reduceIte, Option.bind_some]
  rcases zRf.cs hD u1.ref with ⟨hz, hv⟩ | ⟨u, tt, hd2, hre, hv, hz, hzm, hti⟩
  · have hzm : lg_cmp (M.2 45 (12 * f0 + t)) 0 = 0 := zw_cmp.mpr hv
    have ef : ∀ M0, mX4_faultOfElement N (b + 15) 7 (C.1 (f0 + 140) (16 + t)) (M.2 45 (12 * f0 + (t + 1))).toInt32 (zc w b C M0 r) = some (zc w b C M0 r, 2) := fun M0 => by
      unfold mX4_faultOfElement mX4_faultOfElement_0
      rw [if_pos hz]
    have ewr : ∀ C0 r0, mX9_wrong N (b + 75) 86 (M.2 45 (12 * f0 + t)) (M.2 45 (12 * f0 + (t + 1))) (zc w b C0 M r0) = some (zc w b C0 M r0, 2) := fun C0 r0 => by
      unfold mX9_wrong mX9_wrong_0
      rw [if_pos hzm]
    refine zStp_e (e := 2) hN hw hS h7 hR hO (by decide) (fun M0 => ?_) (Or.inl ⟨Int32.ofNat f0, Int32.ofNat p, 1, fun C0 r0 => ?_⟩)
    · rw [hs, zd_storeE (op := 86) (e := 2) h1 h2 (ga M0) (gi M0) (ef M0) (by decide)]
      rfl
    · rw [fs, zn_storeE (op := 86) (e := 2) zqk_75 (fp0 C0 r0) (fp1 C0 r0) (fp2 C0 r0) (ewr C0 r0) (by decide)]
      show Option.bind _ _ = (mX9_fail N (b + 75) 2 (zc w b C0 M r0)).bind _
      cases mX9_fail N (b + 75) 2 (zc w b C0 M r0) <;> rfl
  · obtain ⟨so, cl, n, hk⟩ := hR.2.1.pk hw hR.1 hd2
    have ef0 : ∀ M0, _ := fun M0 => zd_fault (N := N) (w := w) (b := b) (r := r) (use := 7) (i := (M.2 45 (12 * f0 + (t + 1))).toInt32) hw hK30 hk (by decide) M0
    have ew0 : ∀ C0 r0, _ := fun C0 r0 => zn_wrong (N := N) (w := w) (b := b) (use := 7) (op := 86) (v := M.2 45 (12 * f0 + (t + 1))) hk (by decide) (by decide) hint C0 r0
    rw [← hre] at ef0
    rw [← hv] at ew0
    by_cases c1 : zok 7 so = true
    · simp only [if_pos c1] at ef0 ew0
      by_cases c2 : 0 ≤ (M.2 45 (12 * f0 + (t + 1))).toInt32 ∧ (M.2 45 (12 * f0 + (t + 1))).toInt32 < Int32.ofNat n
      · simp only [if_pos c2] at ef0 ew0
        have ef : ∀ M0, mX4_faultOfElement N (b + 15) 7 (C.1 (f0 + 140) (16 + t)) (M.2 45 (12 * f0 + (t + 1))).toInt32 (zc w b C M0 r) = some (zc w b C M0 r, 0) := ef0
        have ewr : ∀ C0 r0, mX9_wrong N (b + 75) 86 (M.2 45 (12 * f0 + t)) (M.2 45 (12 * f0 + (t + 1))) (zc w b C0 M r0) = some (zc w b C0 M r0, 0) := ew0
        obtain ⟨k, hk1, hk2⟩ := zi_of c2.1
        have hkn : k < n := by
          have := c2.2
          rw [hk1, zi_lt hk2 (by have := hk.2.2.2.2.2.1; omega)] at this
          exact this
        have hso0 : so ≠ 0 := fun e => by rw [e] at c1; exact absurd c1 (by decide)
        have hk' := hk
        obtain ⟨q1, q2, q3, q4, q5, q6, q7, q8, q9, q10, q11, q12, q13, q14, q15, q16, q17, q18⟩ := hk
        have hz' : zgz M tt = n := by unfold zgz; rw [q5, zN_nat (by omega)]
        have es : ∀ M0, mX2_setElement N (b + 16) (C.1 (f0 + 140) (16 + t)) (M.2 45 (12 * f0 + (t + 1))).toInt32 (M.2 45 (12 * f0 + (t + 2))) (zc w b C M0 r) = some (zc w b (zSE C (zha C u + 2) so k (M.2 45 (12 * f0 + (t + 2)))) M0 r) := fun M0 => by
          rw [hre, hk1]
          exact zd_setElement (N := N) (w := w) (b := b) (r := r) hw hk' hso0 hkn M0
        have oS : ∀ o j, o ≠ 17 → (zSE C (zha C u + 2) so k (M.2 45 (12 * f0 + (t + 2)))).1 o j = C.1 o j := fun o j h => zSE_o h
        have oS2 : (zSE C (zha C u + 2) so k (M.2 45 (12 * f0 + (t + 2)))).2 = C.2 := zSE_2
        have oC : ∀ o j, o ≠ f0 + 100 → (zI (zI (zSE C (zha C u + 2) so k (M.2 45 (12 * f0 + (t + 2)))) (f0 + 100) 2 (Int32.ofNat (16 + t))) (f0 + 100) 4 (Int32.ofNat (p + 1))).1 o j = (zSE C (zha C u + 2) so k (M.2 45 (12 * f0 + (t + 2)))).1 o j := fun o j h => by rw [zI1, if_neg (fun q => h q.1), zI1, if_neg (fun q => h q.1)]
        have oM : ∀ o j, ¬ (j = f0 ∧ (o = 41 ∨ o = 42)) → (zJ (zK (zMD M f0 t) 37 (zgb M tt + k) (zmv so (M.2 45 (12 * f0 + (t + 2))))) 41 f0 (Int32.ofNat (p + 1))).1 o j = M.1 o j := fun o j h => by
          unfold zMD
          rw [zJ1, if_neg (by omega), zK1, zJ1, if_neg (by omega)]
        have oM2 : ∀ o j, (zJ (zK (zMD M f0 t) 37 (zgb M tt + k) (zmv so (M.2 45 (12 * f0 + (t + 2))))) 41 f0 (Int32.ofNat (p + 1))).2 o j = if o = 37 ∧ j = zgb M tt + k then zmv so (M.2 45 (12 * f0 + (t + 2))) else M.2 o j := fun o j => rfl
        have hHp : zHp w K F ρ D (zI (zI (zSE C (zha C u + 2) so k (M.2 45 (12 * f0 + (t + 2)))) (f0 + 100) 2 (Int32.ofNat (16 + t))) (f0 + 100) 4 (Int32.ofNat (p + 1))) (zJ (zK (zMD M f0 t) 37 (zgb M tt + k) (zmv so (M.2 45 (12 * f0 + (t + 2))))) 41 f0 (Int32.ofNat (p + 1))) S := by
          refine zHp.wr hw hR.1 hR.2.1 hd2 (fun o j x1 x2 x3 => ?_) (fun o j x1 x2 => oM o j (by omega)) (oM _ _ (by omega)) (oM _ _ (by omega)) (fun j x1 => ?_) (fun _ so' cl' n' hk2 j hj => ?_)
          · rw [oC o j (by omega)]
            by_cases c : o = 17
            · subst c
              refine zSE_out hkn ?_
              rw [q11] at x3
              have := zwd_sz so n
              omega
            · exact oS o j c
          · rw [hz'] at x1
            rw [oM2, if_neg (by omega)]
          · have w1 : so = so' := by
              have := hk2.2.2.1
              rw [q3] at this
              exact zi_inj (by omega) (by have := hk2.2.2.2.2.2.2.2.1; omega) this
            have w2 : cl = cl' := by
              have := hk2.2.2.2.1
              rw [q4] at this
              exact zi_inj (by omega) (by have := hk2.2.2.2.2.2.2.1; omega) this
            have w3 : n = n' := by
              have := hk2.2.2.2.2.1
              rw [q5] at this
              exact zi_inj (by omega) (by have := hk2.2.2.2.2.2.1; omega) this
            subst w1; subst w2; subst w3
            have hq := q18 j hj
            have eW : (fun i => (zI (zI (zSE C (zha C u + 2) so k (M.2 45 (12 * f0 + (t + 2)))) (f0 + 100) 2 (Int32.ofNat (16 + t))) (f0 + 100) 4 (Int32.ofNat (p + 1))).1 17 (zha C u + 2 + i)) = fun i => (zSE C (zha C u + 2) so k (M.2 45 (12 * f0 + (t + 2)))).1 17 (zha C u + 2 + i) := funext fun i => oC _ _ (by omega)
            rw [oM2]
            have hso : so ≠ 12 := fun e => by rw [e] at c1; exact absurd c1 (by decide)
            rw [if_neg (by omega)] at hq ⊢
            rw [eW, zSE_el (by omega) (fun e => uv.int)]
            by_cases c : j = k
            · rw [if_pos c, if_pos ⟨rfl, by omega⟩]
            · rw [if_neg c, if_neg (by omega)]
              exact hq
        have hfr2 : zFr D (zI (zI (zSE C (zha C u + 2) so k (M.2 45 (12 * f0 + (t + 2)))) (f0 + 100) 2 (Int32.ofNat (16 + t))) (f0 + 100) 4 (Int32.ofNat (p + 1))) (zJ (zK (zMD M f0 t) 37 (zgb M tt + k) (zmv so (M.2 45 (12 * f0 + (t + 2))))) 41 f0 (Int32.ofNat (p + 1))) Q.2.1 f0 t (p + 1) m lt st := by
          have hb := hd.go (p + 1)
          refine hb.mv2 ?_ ?_ ?_ (fun j => ?_) (fun j => ?_) ?_ ?_ ?_ (fun j hj => ⟨?_, ?_⟩) (fun j hj => ⟨?_, ?_⟩)
          · rw [zI1, if_neg (by omega), zI1, if_pos ⟨rfl, rfl⟩, zI1, if_neg (by omega), zI1, if_pos ⟨rfl, rfl⟩]
          · rw [zI1, if_pos ⟨rfl, rfl⟩, zI1, if_pos ⟨rfl, rfl⟩]
          · show (zSE C (zha C u + 2) so k (M.2 45 (12 * f0 + (t + 2)))).2.2 (f0 + 100) 3 = C.2.2 (f0 + 100) 3
            rw [oS2]
          · show (zSE C (zha C u + 2) so k (M.2 45 (12 * f0 + (t + 2)))).2.1 (f0 + 120) j = C.2.1 (f0 + 120) j
            rw [oS2]
          · rw [oC _ _ (by omega), oS _ _ (by omega), zI1, if_neg (by omega), zI1, if_neg (by omega)]
          · unfold zMD; simp (disch := omega) only [zJ1, zK1, if_neg]
          · unfold zMD; simp (disch := omega) only [zJ1, zK1, if_pos, and_self, if_true]
          · unfold zMD; simp (disch := omega) only [zJ1, zK1, if_neg]
          · unfold zMD; simp (disch := omega) only [zJ1, zK1, if_neg]
          · rw [oM2, if_neg (by omega)]; rfl
          · unfold zMD; simp (disch := omega) only [zJ1, zK1, if_neg]
          · rw [oM2, if_neg (by omega)]; rfl
        obtain ⟨s1, s2, φ', s3, s4⟩ := hR.wr (t' := t) (p' := p + 1) (lt' := lt) (st' := st) hO hφ hfr2 (fun o j x1 x2 x3 => by rw [oC o j x1]; exact oS o j x3) (fun o j x1 => by show (zSE C (zha C u + 2) so k (M.2 45 (12 * f0 + (t + 2)))).2.1 o j = C.2.1 o j; rw [oS2]) (by show (zSE C (zha C u + 2) so k (M.2 45 (12 * f0 + (t + 2)))).2.2 = C.2.2; rw [oS2]) (fun o j x1 x2 x3 => oM o j x1) (fun o j x1 x2 x3 => by rw [oM2, if_neg (by omega)]) hHp ⟨l3, h3', h4'⟩
        refine ⟨_, _, fun M0 => ?_, fun C0 r0 => ?_, s1, s2, S, Nat.le_succ S, Or.inl ⟨D, f0, φ', s3, s4⟩⟩
        · have kk : (zSE C (zha C u + 2) so k (M.2 45 (12 * f0 + (t + 2)))).2.2 15 5 = .ref (b + (3 * f0 + 27)) := by rw [oS2]; exact h2
          have e3 : mX1_drop N (b + (3 * f0 + 27)) 3 (zc w b (zSE C (zha C u + 2) so k (M.2 45 (12 * f0 + (t + 2)))) M0 r) = some (zc w b (zI (zSE C (zha C u + 2) so k (M.2 45 (12 * f0 + (t + 2)))) (f0 + 100) 2 (Int32.ofNat (16 + t))) M0 r) := zf_drop (N := N) (w := w) (b := b) (r := r) (t := t + 3) (k := 3) h1 ((oS _ _ (by omega)).trans a1) a3 (by omega) M0
          have e5 : mX4_goOn N (b + 15) 1 (zc w b (zI (zSE C (zha C u + 2) so k (M.2 45 (12 * f0 + (t + 2)))) (f0 + 100) 2 (Int32.ofNat (16 + t))) M0 r) = some (zc w b (zI (zI (zSE C (zha C u + 2) so k (M.2 45 (12 * f0 + (t + 2)))) (f0 + 100) 2 (Int32.ofNat (16 + t))) (f0 + 100) 4 (Int32.ofNat (p + 1))) M0 r, 0) := zf_goOn (C := zI (zSE C (zha C u + 2) so k (M.2 45 (12 * f0 + (t + 2)))) (f0 + 100) 2 (Int32.ofNat (16 + t))) (n := 1) (p := p) h1 kk (zp4_I2.trans ((oS _ _ (by omega)).trans a4)) M0
          have gv : mX1_number N (b + (3 * f0 + 27)) 0 (zc w b C M0 r) = some (zc w b C M0 r, (M.2 45 (12 * f0 + (t + 2)))) := by
            have := zf_number (N := N) (w := w) (b := b) (C := C) (r := r) (t := t + 3) (k := 0) h1 a1 a3 (by omega) M0
            rw [show 15 + (t + 3) - 0 = 16 + (t + 2) by omega, (uv.num (Or.inl rfl)).1] at this
            exact this
          unfold zcs
          rw [hs, zd_storeG (op := 86) h1 h2 (ga M0) (gi M0) (ef M0) (by rw [if_neg (by decide)]; exact gv) (es M0) kk e3 e5]
          rfl
        · have f1 : mX9_popValue N (b + 75) (zc w b C0 M r0) = some (zc w b C0 (zMD M f0 (t + 2)) r0, M.2 45 (12 * f0 + (t + 2))) := zn_pop (N := N) (w := w) (b := b) (M := M) (t := t + 2) h1 h3 a2 (by omega) C0 r0
          have f2 : mX9_popValue N (b + 75) (zc w b C0 (zMD M f0 (t + 2)) r0) = some (zc w b C0 (zMD M f0 (t + 1)) r0, M.2 45 (12 * f0 + (t + 1))) := by
            have := zn_pop (N := N) (w := w) (b := b) (M := zMD M f0 (t + 2)) (t := t + 1) h1 (zmd100.trans h3) zmd42 (by omega) C0 r0
            rw [zMDD] at this; exact this
          have f3 : mX9_popValue N (b + 75) (zc w b C0 (zMD M f0 (t + 1)) r0) = some (zc w b C0 (zMD M f0 t) r0, M.2 45 (12 * f0 + t)) := by
            have := zn_pop (N := N) (w := w) (b := b) (M := zMD M f0 (t + 1)) (t := t) h1 (zmd100.trans h3) zmd42 (by omega) C0 r0
            rw [zMDD] at this; exact this
          have esn : zm_aI (zc w b C0 (zMD M f0 t) r0) (b + 99) (Int32.ofNat tt) = some (Int32.ofNat so) := by
            rw [zqa_99 q2]
            unfold zMD
            rw [zJ1, if_neg (by omega), q3]
          have eb : zm_aI (zc w b C0 (zMD M f0 t) r0) (b + 101) (Int32.ofNat tt) = some (Int32.ofNat (zgb M tt)) := by
            rw [zqa_101 q2]
            unfold zMD
            rw [zJ1, if_neg (by omega)]
            exact congrArg some (zN_of _).symm
          have ecl : zm_sL (zc w b C0 (zMD M f0 t) r0) (b + 103) (Int32.ofNat (zgb M tt) + (M.2 45 (12 * f0 + (t + 1))).toInt32) (zmv so (M.2 45 (12 * f0 + (t + 2)))) = some (zc w b C0 (zK (zMD M f0 t) 37 (zgb M tt + k) (zmv so (M.2 45 (12 * f0 + (t + 2))))) r0) := by
            rw [hk1, zi_add, zqs_103 (by omega)]
          have f9 : mX9_step_327 N (b + 75) (Int32.ofNat f0) (Int32.ofNat p) 1 (zc w b C0 (zK (zMD M f0 t) 37 (zgb M tt + k) (zmv so (M.2 45 (12 * f0 + (t + 2))))) r0) = some (zc w b C0 (zJ (zK (zMD M f0 t) 37 (zgb M tt + k) (zmv so (M.2 45 (12 * f0 + (t + 2))))) 41 f0 (Int32.ofNat (p + 1))) r0) := zn_on (N := N) (w := w) (b := b) (M := zK (zMD M f0 t) 37 (zgb M tt + k) (zmv so (M.2 45 (12 * f0 + (t + 2))))) (p := p) (n := 1) h1 ((zmd100 (M := M) (f := f0) (t := t)).trans h4) ((zmd100 (M := M) (f := f0) (t := t)).trans h5) C0 r0
          rw [fs, zn_storeG (op := 86) (so := so) (by omega) zqk_75 zqk_75 zqk_75 (fp0 C0 r0) (fp1 C0 r0) (fp2 C0 r0) (ewr C0 r0) f1 f2 f3 zqg_75_32 zqg_75_37 zqg_75_34 (by rw [hti]; exact esn) (by rw [hti]; exact eb) ecl, Option.bind_some]
          exact f9
      · simp only [if_neg c2] at ef0 ew0
        have ef : ∀ M0, mX4_faultOfElement N (b + 15) 7 (C.1 (f0 + 140) (16 + t)) (M.2 45 (12 * f0 + (t + 1))).toInt32 (zc w b C M0 r) = some (zc w b C M0 r, 3) := ef0
        have ewr : ∀ C0 r0, mX9_wrong N (b + 75) 86 (M.2 45 (12 * f0 + t)) (M.2 45 (12 * f0 + (t + 1))) (zc w b C0 M r0) = some (zc w b C0 M r0, 3) := ew0
        refine zStp_e (e := 3) hN hw hS h7 hR hO (by decide) (fun M0 => ?_) (Or.inl ⟨Int32.ofNat f0, Int32.ofNat p, 1, fun C0 r0 => ?_⟩)
        · rw [hs, zd_storeE (op := 86) (e := 3) h1 h2 (ga M0) (gi M0) (ef M0) (by decide)]
          rfl
        · rw [fs, zn_storeE (op := 86) (e := 3) zqk_75 (fp0 C0 r0) (fp1 C0 r0) (fp2 C0 r0) (ewr C0 r0) (by decide)]
          show Option.bind _ _ = (mX9_fail N (b + 75) 3 (zc w b C0 M r0)).bind _
          cases mX9_fail N (b + 75) 3 (zc w b C0 M r0) <;> rfl
    · simp only [if_neg c1] at ef0 ew0
      have ef : ∀ M0, mX4_faultOfElement N (b + 15) 7 (C.1 (f0 + 140) (16 + t)) (M.2 45 (12 * f0 + (t + 1))).toInt32 (zc w b C M0 r) = some (zc w b C M0 r, 5) := ef0
      have ewr : ∀ C0 r0, mX9_wrong N (b + 75) 86 (M.2 45 (12 * f0 + t)) (M.2 45 (12 * f0 + (t + 1))) (zc w b C0 M r0) = some (zc w b C0 M r0, 5) := ew0
      refine zStp_e (e := 5) hN hw hS h7 hR hO (by decide) (fun M0 => ?_) (Or.inl ⟨Int32.ofNat f0, Int32.ofNat p, 1, fun C0 r0 => ?_⟩)
      · rw [hs, zd_storeE (op := 86) (e := 5) h1 h2 (ga M0) (gi M0) (ef M0) (by decide)]
        rfl
      · rw [fs, zn_storeE (op := 86) (e := 5) zqk_75 (fp0 C0 r0) (fp1 C0 r0) (fp2 C0 r0) (ewr C0 r0) (by decide)]
        show Option.bind _ _ = (mX9_fail N (b + 75) 5 (zc w b C0 M r0)).bind _
        cases mX9_fail N (b + 75) 5 (zc w b C0 M r0) <;> rfl

end ZST2
