/-! ===== a field is written (written by wip/gen/ops11.py) ===== -/
section ZFW
variable {N w b K S f0 t p m : Nat} {F ρ α π lt st : Nat → Nat} {D : Nat → Nat → Prop} {C : zC} {M : zM} {r : zv_X} {Q : zQo} {φ : Nat → zFd}
theorem zd_writeE {f : Nat} {e re ty fb : Int32} {M0 : zM} (h1 : f < 16) (h2 : C.2.2 15 5 = .ref (b + (3 * f + 27))) (o1 : mX1_operand N (b + (3 * f + 27)) 1 (zc w b C M0 r) = some (zc w b C M0 r, ty)) (o2 : mX1_operand N (b + (3 * f + 27)) 2 (zc w b C M0 r) = some (zc w b C M0 r, fb)) (g0 : mX1_reference N (b + (3 * f + 27)) 1 (zc w b C M0 r) = some (zc w b C M0 r, re)) (ef : mX4_faultOfObject N (b + 15) re ty (zc w b C M0 r) = some (zc w b C M0 r, e)) (he : ¬ e = 0) : mX4_writeField N (b + 15) (zc w b C M0 r) = some (zc w b C M0 r, e) := by
  unfold mX4_writeField mX4_writeField_0
  simp only [zqg_15_5 h2, zqkF h1, zqk_15, o1, o2, g0, ef, Option.bind_some, if_true, if_neg he]
theorem zd_writeG {f : Nat} {re ty fb W kd : Int32} {M0 : zM} {CS CD C' : zC} (h1 : f < 16) (h2 : C.2.2 15 5 = .ref (b + (3 * f + 27))) (o1 : mX1_operand N (b + (3 * f + 27)) 1 (zc w b C M0 r) = some (zc w b C M0 r, ty)) (o2 : mX1_operand N (b + (3 * f + 27)) 2 (zc w b C M0 r) = some (zc w b C M0 r, fb)) (g0 : mX1_reference N (b + (3 * f + 27)) 1 (zc w b C M0 r) = some (zc w b C M0 r, re)) (ef : mX4_faultOfObject N (b + 15) re ty (zc w b C M0 r) = some (zc w b C M0 r, 0))
    (ek : mX7_kindOfField N (b + 1) ty fb (zc w b C M0 r) = some (zc w b C M0 r, kd)) (gv : if kd = 3 then mX1_reference N (b + (3 * f + 27)) 0 (zc w b C M0 r) = some (zc w b C M0 r, W) else ∃ v, mX1_number N (b + (3 * f + 27)) 0 (zc w b C M0 r) = some (zc w b C M0 r, v) ∧ W = v.toInt32) (es : mX2_setField N (b + 16) re fb W (zc w b C M0 r) = some (zc w b CS M0 r)) (kk : CS.2.2 15 5 = .ref (b + (3 * f + 27))) (ed : mX1_drop N (b + (3 * f + 27)) 2 (zc w b CS M0 r) = some (zc w b CD M0 r)) (eg : mX4_goOn N (b + 15) 3 (zc w b CD M0 r) = some (zc w b C' M0 r, 0)) : mX4_writeField N (b + 15) (zc w b C M0 r) = some (zc w b C' M0 r, 0) := by
  unfold mX4_writeField mX4_writeField_0 mX4_writeField_61 mX4_writeField_94
  by_cases c : kd = 3
  · rw [if_pos c] at gv
    simp only [zqg_15_5 h2, zqkF h1, zqk_15, o1, o2, g0, ef, ek, gv, es, ed, zqg_15_5 kk, zqg_15_2, zqg_15_0, zqk_1, zqk_16, Option.bind_some, if_true, if_pos c, if_neg (show ¬ (1 : Int32) = 0 by decide), eg]
  · rw [if_neg c] at gv
    obtain ⟨v, g1, g2⟩ := gv
    subst g2
    simp only [zqg_15_5 h2, zqkF h1, zqk_15, o1, o2, g0, ef, ek, g1, es, ed, zqg_15_5 kk, zqg_15_2, zqg_15_0, zqk_1, zqk_16, Option.bind_some, if_true, if_neg c, eg]
theorem zn_put {bg l2 l3 : Int32} {tt : Nat} {v1 val : Int64} {x x1 x2 : zv_X} (hk : zm_k x (b + 75) 9 = true) (f1 : mX9_popValue N (b + 75) x = some (x1, v1)) (r2 : zm_R x1 (b + 75) 9 37 = some (b + 103)) (r3 : zm_R x1 (b + 75) 9 34 = some (b + 101)) (eb : zm_aI x1 (b + 101) (Int32.ofNat tt) = some bg) (ecl : zm_sL x1 (b + 103) (bg + l3) val = some x2) : mX9_doField_129 N (b + 75) 181 l2 l3 (Int32.ofNat tt) val x = some x2 := by
  unfold mX9_doField_129 mX9_doField_214
  simp only [hk, if_true, f1, r2, r3, eb, ecl, Option.bind_some, if_neg (show ¬ (181 : Int32) = 190 by decide), if_neg (show ¬ (181 : Int32) = 180 by decide)]
theorem zs_181 (hI : zInh K F ρ π) (hN : 1700 < N) (hw : w ≤ 400) (hS : S + 1 < 2 ^ 31) (h7 : ∀ k, k < 7 → F k = 0) (hR : zRn w b K F ρ α π r Q D C M S f0 φ) (hO : zOn C M) (hφ : φ f0 = (t, p, m, lt, st)) (hop : uC (Q.2.2.1 m) p = 181) : zStp N w b K F ρ α π r Q C M S := by
  obtain ⟨hc, hm, hK, l', hl, s1, hp, s2, l2, hh, hlen, hfl⟩ := hR.ty hO hφ hop
  have hp : zpop [] (zrv st t) = some s1 := hp
  have hp := zpop0 hp
  subst hp
  have hh : (if (uC (Q.2.2.1 m) (p + 1)) < K ∧ (uC (Q.2.2.1 m) (p + 2)) < F (uC (Q.2.2.1 m) (p + 1)) then (zpop [zkf ρ (uC (Q.2.2.1 m) (p + 1)) (uC (Q.2.2.1 m) (p + 2)), 3] (zrv st t)).map (fun st => (st, l')) else none) = some (s2, l2) := hh
  obtain ⟨hty, hh⟩ := zg hh
  cases hpa : zpop [zkf ρ (uC (Q.2.2.1 m) (p + 1)) (uC (Q.2.2.1 m) (p + 2)), 3] (zrv st t) with
  | none => rw [hpa] at hh; cases hh
  | some s3 =>
  rw [hpa] at hh
  cases hh
  obtain ⟨t, rfl, kv, hpa⟩ := zpopc hpa
  obtain ⟨t, rfl, k0, hpa⟩ := zpopc hpa
  have hpa := zpop0 hpa
  subst hpa
  have hc' := hc
  have hD := hR.2.1.1
  have hK30 := hR.1.2.2.2.1
  obtain ⟨h1, h2, h3, h4, h5, hfr, _, h8, h9, h10, h11, h12⟩ := hc
  have hfr0 := hfr
  obtain ⟨a1, a2, a3, a4, a5, a6, a7, a8, a9⟩ := hfr
  rw [hop] at h12
  have h12 : p + 3 ≤ uLen (Q.2.2.1 m) := h12
  have e0 : ∀ M0, mX1_opcode N (b + (3 * f0 + 27)) (zc w b C M0 r) = some (zc w b C M0 r, 181) := fun M0 => ze_step0 (N := N) (w := w) hc' hop M0
  have fstep : ∀ C0 r0, mX9_step N (b + 75) (zc w b C0 M r0) = mX9_step_74 N (b + 75) (Int32.ofNat f0) (Int32.ofNat m) (Int32.ofNat p) 181 3 (Int32.ofNat (uC (Q.2.2.1 m) (p + 1))) (Int32.ofNat (uC (Q.2.2.1 m) (p + 2))) (zc w b C0 M r0) := fun C0 r0 => zn_step (N := N) (w := w) hc' hop (n := 3) rfl rfl rfl C0 r0
  have u0 := (a9 t (by omega)).2.2.2
  rw [k0] at u0
  have g0 : ∀ M0, mX1_reference N (b + (3 * f0 + 27)) 1 (zc w b C M0 r) = some (zc w b C M0 r, C.1 (f0 + 140) (16 + t)) := fun M0 => by
    have := zf_reference (N := N) (w := w) (b := b) (C := C) (r := r) (t := t + 2) (k := 1) h1 a1 a3 (by omega) M0
    rw [show 15 + (t + 2) - 1 = 16 + t by omega] at this
    exact this
  have fp : ∀ C0 r0, mX9_peek N (b + 75) 1 (zc w b C0 M r0) = some (zc w b C0 M r0, M.2 45 (12 * f0 + t)) := fun C0 r0 => zn_peek (N := N) (w := w) (b := b) (M := M) (t := t + 2) (k := 1) h1 h3 a2 a3 (by omega) C0 r0
  have opd : ∀ M0, mX1_operand N (b + (3 * f0 + 27)) 1 (zc w b C M0 r) = some (zc w b C M0 r, Int32.ofNat (uC (Q.2.2.1 m) (p + 1))) := fun M0 => ze_operand (N := N) (w := w) (b := b) (C := C) (r := r) (k := 1) h1 h8 h10 a6 a4 (by omega) M0
  have opd2 : ∀ M0, mX1_operand N (b + (3 * f0 + 27)) 2 (zc w b C M0 r) = some (zc w b C M0 r, Int32.ofNat (uC (Q.2.2.1 m) (p + 2))) := fun M0 => ze_operand (N := N) (w := w) (b := b) (C := C) (r := r) (k := 2) h1 h8 h10 a6 a4 (by omega) M0
  obtain ⟨l3, h3', h4'⟩ := (hfl lt hl).2 (by unfold zgoes; decide)
  have hd := hfr0.drop (t' := t) (by omega)
  have uv := (a9 (t + 1) (by omega)).2.2.2
  rw [kv] at uv
  have hs : ∀ M0, mX4_step N (b + 15) (zc w b C M0 r) = (mX4_writeField N (b + 15) (zc w b C M0 r)).bind fun o => some (o.1, o.2) := fun M0 => by
    simp (decide := true) only [mX4_step_107, mX4_step_249, mX4_step_0, mX4_step, e0, zqg_15_5 h2, zqkF h1, id, zqk_15, zqk_16, zqg_15_2, Option.map_some, Int32.reduceLT, Int32.reduceLE, Int32.reduceAdd, Int32.reduceSub, Int32.reduceMul, Int32.reduceDiv, Int32.reduceMod, ↓reduceIte, Option.bind_some]
  have fs : ∀ C0 r0, mX9_step N (b + 75) (zc w b C0 M r0) = (mX9_doThing N (b + 75) 181 (Int32.ofNat (uC (Q.2.2.1 m) (p + 1))) (Int32.ofNat (uC (Q.2.2.1 m) (p + 2))) (zc w b C0 M r0)).bind fun o => mX9_step_327 N (b + 75) (Int32.ofNat f0) (Int32.ofNat p) 3 o := fun C0 r0 => by
    refine (fstep C0 r0).trans ?_
    simp (decide := true) only [mX9_step_74, zqk_75, id, Option.map_some, Int32.reduceLT, Int32.reduceLE, Int32.reduceAdd, Int32.reduceSub, Int32.reduceMul, Int32.reduceDiv, Int32.reduceMod, ↓reduceIte, Option.bind_some]
  have hf13 : ∀ x, mX9_doField N (b + 75) 181 (Int32.ofNat (uC (Q.2.2.1 m) (p + 1))) (Int32.ofNat (uC (Q.2.2.1 m) (p + 2))) x = mX9_doField_13 N (b + 75) 181 (Int32.ofNat (uC (Q.2.2.1 m) (p + 1))) (Int32.ofNat (uC (Q.2.2.1 m) (p + 2))) 1 (b + 75) x := fun x => by
    unfold mX9_doField mX9_doField_0
    rw [if_pos rfl]
  rcases zRf.cs hD u0.ref with ⟨hz, hv⟩ | ⟨u, tt, hd2, hre, hv, hz, hzm, hti⟩
  · have hzm : lg_cmp (M.2 45 (12 * f0 + t)) 0 = 0 := zw_cmp.mpr hv
    have ef : ∀ M0, mX4_faultOfObject N (b + 15) (C.1 (f0 + 140) (16 + t)) (Int32.ofNat (uC (Q.2.2.1 m) (p + 1))) (zc w b C M0 r) = some (zc w b C M0 r, 2) := fun M0 => by
      unfold mX4_faultOfObject mX4_faultOfObject_0
      rw [if_pos hz]
    refine zStp_e (e := 2) hN hw hS h7 hR hO (by decide) (fun M0 => ?_) (Or.inl ⟨Int32.ofNat f0, Int32.ofNat p, 3, fun C0 r0 => ?_⟩)
    · rw [hs, zd_writeE (e := 2) h1 h2 (opd M0) (opd2 M0) (g0 M0) (ef M0) (by decide)]
      rfl
    · rw [fs, zn_thing zqk_75 (by decide) (by decide) (by decide) (by decide) (by decide), hf13, zn_fldN zqk_75 (fp C0 r0) hzm]
      show Option.bind _ _ = (mX9_fail N (b + 75) 2 (zc w b C0 M r0)).bind _
      cases mX9_fail N (b + 75) 2 (zc w b C0 M r0) <;> rfl
  · obtain ⟨so, cl, n, hk⟩ := hR.2.1.pk hw hR.1 hd2
    have ef0 : ∀ M0, _ := fun M0 => zd_faultO (N := N) (w := w) (b := b) (r := r) hw hR.1 hk hty.1 M0
    rw [← hre] at ef0
    have em := fun C0 r0 => zn_isOf (N := N) (w := w) (b := b) (t := tt) (by omega) hR.1 hty.1 hk.2.1 hk.2.2.2.1 hk.2.2.2.2.2.2.1 C0 r0
    have es : ∀ C0 r0, zm_aI (zc w b C0 M r0) (b + 99) (Int32.ofNat tt) = some (Int32.ofNat so) := fun C0 r0 => by rw [zqa_99 hk.2.1, hk.2.2.1]
    by_cases cb : (α cl).testBit (uC (Q.2.2.1 m) (p + 1)) = true
    · simp only [if_pos cb] at ef0 em
      obtain ⟨x1, x2, x3, x4, x5⟩ := hk.fld hR.1 hI h7 hty.2 cb
      have es0 : Int32.ofNat so ≤ 0 := by rw [x1]; decide
      have hk' := hk
      obtain ⟨q1, q2, q3, q4, q5, q6, q7, q8, q9, q10, q11, q12, q13, q14, q15, q16, q17, q18⟩ := hk
      have hq := q18 (uC (Q.2.2.1 m) (p + 2)) x2
      have kof := fun CX MX (hX : zTy CX MX K F ρ α π) M0 => zd_kof (N := N) (w := w) (b := b) (r := r) hX hty.1 x3 M0
      have hz' : zgz M tt = n := by unfold zgz; rw [q5, zN_nat (by omega)]
      have fin : ∀ W : Int32, (∀ M0, if (ρ (uC (Q.2.2.1 m) (p + 1))).testBit (uC (Q.2.2.1 m) (p + 2)) = true then mX1_reference N (b + (3 * f0 + 27)) 0 (zc w b C M0 r) = some (zc w b C M0 r, W) else ∃ v, mX1_number N (b + (3 * f0 + 27)) 0 (zc w b C M0 r) = some (zc w b C M0 r, v) ∧ W = v.toInt32) → (if (ρ (uC (Q.2.2.1 m) (p + 1))).testBit (uC (Q.2.2.1 m) (p + 2)) = true then zRf D W (M.2 45 (12 * f0 + (t + 1))) else (M.2 45 (12 * f0 + (t + 1))) = W.toInt64) → zStp N w b K F ρ α π r Q C M S := by
        intro W hgv hrel
        have oC : ∀ o j, o ≠ f0 + 100 → (zI (zI (zI C 17 (zha C u + 2 + (uC (Q.2.2.1 m) (p + 2))) W) (f0 + 100) 2 (Int32.ofNat (16 + t))) (f0 + 100) 4 (Int32.ofNat (p + 3))).1 o j = (zI C 17 (zha C u + 2 + (uC (Q.2.2.1 m) (p + 2))) W).1 o j := fun o j h => by rw [zI1, if_neg (fun q => h q.1), zI1, if_neg (fun q => h q.1)]
        have oM : ∀ o j, ¬ (j = f0 ∧ (o = 41 ∨ o = 42)) → (zJ (zK (zMD M f0 t) 37 (zgb M tt + (uC (Q.2.2.1 m) (p + 2))) (M.2 45 (12 * f0 + (t + 1)))) 41 f0 (Int32.ofNat (p + 3))).1 o j = M.1 o j := fun o j h => by
          unfold zMD
          rw [zJ1, if_neg (by omega), zK1, zJ1, if_neg (by omega)]
        have oM2 : ∀ o j, (zJ (zK (zMD M f0 t) 37 (zgb M tt + (uC (Q.2.2.1 m) (p + 2))) (M.2 45 (12 * f0 + (t + 1)))) 41 f0 (Int32.ofNat (p + 3))).2 o j = if o = 37 ∧ j = zgb M tt + (uC (Q.2.2.1 m) (p + 2)) then (M.2 45 (12 * f0 + (t + 1))) else M.2 o j := fun o j => rfl
        have hHp : zHp w K F ρ D (zI (zI (zI C 17 (zha C u + 2 + (uC (Q.2.2.1 m) (p + 2))) W) (f0 + 100) 2 (Int32.ofNat (16 + t))) (f0 + 100) 4 (Int32.ofNat (p + 3))) (zJ (zK (zMD M f0 t) 37 (zgb M tt + (uC (Q.2.2.1 m) (p + 2))) (M.2 45 (12 * f0 + (t + 1)))) 41 f0 (Int32.ofNat (p + 3))) S := by
          refine zHp.wr hw hR.1 hR.2.1 hd2 (fun o j y1 y2 y3 => ?_) (fun o j y1 y2 => oM o j (by omega)) (oM _ _ (by omega)) (oM _ _ (by omega)) (fun j y1 => ?_) (fun _ so' cl' n' hk2 j hj => ?_)
          · rw [oC o j (by omega), zI1, if_neg ?_]
            rw [q11, x1, zwd_0] at y3
            omega
          · rw [hz'] at y1
            rw [oM2, if_neg (by omega)]
          · have w1 : so = so' := by
              have := hk2.2.2.1
              rw [q3] at this
              exact zi_inj (by omega) (by have := hk2.2.2.2.2.2.2.2.1; omega) this
            have w2 : cl = cl' := by
              have := hk2.2.2.2.1
              rw [q4] at this
              exact zi_inj (by omega) (by have := hk2.2.2.2.2.2.2.1; omega) this
            have w3 : n = n' := by
              have := hk2.2.2.2.2.1
              rw [q5] at this
              exact zi_inj (by omega) (by have := hk2.2.2.2.2.2.1; omega) this
            subst w1; subst w2; subst w3
            have hqj := q18 j hj
            rw [oM2]
            have el : ∀ CX : zC, zel so (fun i => CX.1 17 (zha C u + 2 + i)) j = (CX.1 17 (zha C u + 2 + j)).toInt64 := fun CX => by rw [x1]; rfl
            have eWj : (zI (zI (zI C 17 (zha C u + 2 + (uC (Q.2.2.1 m) (p + 2))) W) (f0 + 100) 2 (Int32.ofNat (16 + t))) (f0 + 100) 4 (Int32.ofNat (p + 3))).1 17 (zha C u + 2 + j) = if j = (uC (Q.2.2.1 m) (p + 2)) then W else C.1 17 (zha C u + 2 + j) := by
              rw [oC _ _ (by omega), zI1]
              by_cases c : j = (uC (Q.2.2.1 m) (p + 2))
              · rw [if_pos ⟨rfl, by omega⟩, if_pos c]
              · rw [if_neg (by omega), if_neg c]
            have eMj : (if 37 = 37 ∧ zgb M tt + j = zgb M tt + (uC (Q.2.2.1 m) (p + 2)) then (M.2 45 (12 * f0 + (t + 1))) else M.2 37 (zgb M tt + j)) = if j = (uC (Q.2.2.1 m) (p + 2)) then (M.2 45 (12 * f0 + (t + 1))) else M.2 37 (zgb M tt + j) := by
              by_cases c : j = (uC (Q.2.2.1 m) (p + 2))
              · rw [if_pos ⟨rfl, by omega⟩, if_pos c]
              · rw [if_neg (by omega), if_neg c]
            rw [el] at hqj ⊢
            rw [eWj, eMj]
            by_cases c : j = (uC (Q.2.2.1 m) (p + 2))
            · simp only [if_pos c]
              rw [c, x4]
              by_cases cr : (ρ (uC (Q.2.2.1 m) (p + 1))).testBit (uC (Q.2.2.1 m) (p + 2)) = true
              · rw [if_pos cr] at hrel
                rw [if_pos (Or.inr ⟨x1, cr⟩)]
                exact hrel
              · rw [if_neg cr] at hrel
                rw [if_neg (fun q => by rcases q with q | q; omega; exact cr q.2)]
                exact hrel
            · simp only [if_neg c]
              exact hqj
        have hfr2 : zFr D (zI (zI (zI C 17 (zha C u + 2 + (uC (Q.2.2.1 m) (p + 2))) W) (f0 + 100) 2 (Int32.ofNat (16 + t))) (f0 + 100) 4 (Int32.ofNat (p + 3))) (zJ (zK (zMD M f0 t) 37 (zgb M tt + (uC (Q.2.2.1 m) (p + 2))) (M.2 45 (12 * f0 + (t + 1)))) 41 f0 (Int32.ofNat (p + 3))) Q.2.1 f0 t (p + 3) m lt st := by
          have hb := hd.go (p + 3)
          refine hb.mv2 ?_ ?_ rfl (fun j => rfl) (fun j => ?_) ?_ ?_ ?_ (fun j hj => ⟨?_, ?_⟩) (fun j hj => ⟨?_, ?_⟩)
          · rw [zI1, if_neg (by omega), zI1, if_pos ⟨rfl, rfl⟩, zI1, if_neg (by omega), zI1, if_pos ⟨rfl, rfl⟩]
          · rw [zI1, if_pos ⟨rfl, rfl⟩, zI1, if_pos ⟨rfl, rfl⟩]
          · rw [oC _ _ (by omega), zI1, if_neg (by omega), zI1, if_neg (by omega), zI1, if_neg (by omega)]
          · unfold zMD; simp (disch := omega) only [zJ1, zK1, if_neg]
          · unfold zMD; simp (disch := omega) only [zJ1, zK1, if_pos, and_self, if_true]
          · unfold zMD; simp (disch := omega) only [zJ1, zK1, if_neg]
          · unfold zMD; simp (disch := omega) only [zJ1, zK1, if_neg]
          · rw [oM2, if_neg (by omega)]; rfl
          · unfold zMD; simp (disch := omega) only [zJ1, zK1, if_neg]
          · rw [oM2, if_neg (by omega)]; rfl
        obtain ⟨z1, z2, φ', z3, z4⟩ := hR.wr (t' := t) (p' := p + 3) (lt' := lt) (st' := st) hO hφ hfr2 (fun o j y1 y2 y3 => by rw [oC o j y1, zI1, if_neg (fun q => y3 q.1)]) (fun o j y1 => rfl) rfl (fun o j y1 y2 y3 => oM o j y1) (fun o j y1 y2 y3 => by rw [oM2, if_neg (by omega)]) hHp ⟨l3, h3', h4'⟩
        refine ⟨_, _, fun M0 => ?_, fun C0 r0 => ?_, z1, z2, S, Nat.le_succ S, Or.inl ⟨D, f0, φ', z3, z4⟩⟩
        · have kk : (zI C 17 (zha C u + 2 + (uC (Q.2.2.1 m) (p + 2))) W).2.2 15 5 = .ref (b + (3 * f0 + 27)) := h2
          have e3 : mX1_drop N (b + (3 * f0 + 27)) 2 (zc w b (zI C 17 (zha C u + 2 + (uC (Q.2.2.1 m) (p + 2))) W) M0 r) = some (zc w b (zI (zI C 17 (zha C u + 2 + (uC (Q.2.2.1 m) (p + 2))) W) (f0 + 100) 2 (Int32.ofNat (16 + t))) M0 r) := zf_drop (N := N) (w := w) (b := b) (r := r) (t := t + 2) (k := 2) h1 (by rw [zI1, if_neg (by omega)]; exact a1) a3 (by omega) M0
          have e5 : mX4_goOn N (b + 15) 3 (zc w b (zI (zI C 17 (zha C u + 2 + (uC (Q.2.2.1 m) (p + 2))) W) (f0 + 100) 2 (Int32.ofNat (16 + t))) M0 r) = some (zc w b (zI (zI (zI C 17 (zha C u + 2 + (uC (Q.2.2.1 m) (p + 2))) W) (f0 + 100) 2 (Int32.ofNat (16 + t))) (f0 + 100) 4 (Int32.ofNat (p + 3))) M0 r, 0) := zf_goOn (C := zI (zI C 17 (zha C u + 2 + (uC (Q.2.2.1 m) (p + 2))) W) (f0 + 100) 2 (Int32.ofNat (16 + t))) (n := 3) (p := p) h1 kk (zp4_I2.trans (by rw [zI1, if_neg (by omega)]; exact a4)) M0
          have ekf : mX7_kindOfField N (b + 1) (Int32.ofNat (uC (Q.2.2.1 m) (p + 1))) (Int32.ofNat (uC (Q.2.2.1 m) (p + 2))) (zc w b C M0 r) = some (zc w b C M0 r, if (ρ (uC (Q.2.2.1 m) (p + 1))).testBit (uC (Q.2.2.1 m) (p + 2)) = true then 3 else 1) := kof C M hR.1 M0
          have es2 : mX2_setField N (b + 16) (C.1 (f0 + 140) (16 + t)) (Int32.ofNat (uC (Q.2.2.1 m) (p + 2))) W (zc w b C M0 r) = some (zc w b (zI C 17 (zha C u + 2 + (uC (Q.2.2.1 m) (p + 2))) W) M0 r) := by rw [hre]; exact zd_setField (N := N) (w := w) (b := b) (r := r) hw q1 x5 M0
          have hg := hgv M0
          unfold zcs
          rw [hs, zd_writeG h1 h2 (opd M0) (opd2 M0) (g0 M0) (ef0 M0) ekf (by
            by_cases cr : (ρ (uC (Q.2.2.1 m) (p + 1))).testBit (uC (Q.2.2.1 m) (p + 2)) = true
            · rw [if_pos cr] at hg
              rw [if_pos cr, if_pos rfl]; exact hg
            · rw [if_neg cr] at hg
              rw [if_neg cr, if_neg (by decide)]; exact hg) es2 kk e3 e5]
          rfl
        · have f1 : mX9_popValue N (b + 75) (zc w b C0 M r0) = some (zc w b C0 (zMD M f0 (t + 1)) r0, (M.2 45 (12 * f0 + (t + 1)))) := zn_pop (N := N) (w := w) (b := b) (M := M) (t := t + 1) h1 h3 a2 (by omega) C0 r0
          have f2 : mX9_popValue N (b + 75) (zc w b C0 (zMD M f0 (t + 1)) r0) = some (zc w b C0 (zMD M f0 t) r0, M.2 45 (12 * f0 + t)) := by
            have := zn_pop (N := N) (w := w) (b := b) (M := zMD M f0 (t + 1)) (t := t) h1 (zmd100.trans h3) zmd42 (by omega) C0 r0
            rw [zMDD] at this; exact this
          have eb : zm_aI (zc w b C0 (zMD M f0 t) r0) (b + 101) (Int32.ofNat tt) = some (Int32.ofNat (zgb M tt)) := by
            rw [zqa_101 q2]
            unfold zMD
            rw [zJ1, if_neg (by omega)]
            exact congrArg some (zN_of _).symm
          have ecl : zm_sL (zc w b C0 (zMD M f0 t) r0) (b + 103) (Int32.ofNat (zgb M tt) + Int32.ofNat (uC (Q.2.2.1 m) (p + 2))) (M.2 45 (12 * f0 + (t + 1))) = some (zc w b C0 (zK (zMD M f0 t) 37 (zgb M tt + (uC (Q.2.2.1 m) (p + 2))) (M.2 45 (12 * f0 + (t + 1)))) r0) := by
            rw [zi_add, zqs_103 (by omega)]
          have f9 : mX9_step_327 N (b + 75) (Int32.ofNat f0) (Int32.ofNat p) 3 (zc w b C0 (zK (zMD M f0 t) 37 (zgb M tt + (uC (Q.2.2.1 m) (p + 2))) (M.2 45 (12 * f0 + (t + 1)))) r0) = some (zc w b C0 (zJ (zK (zMD M f0 t) 37 (zgb M tt + (uC (Q.2.2.1 m) (p + 2))) (M.2 45 (12 * f0 + (t + 1)))) 41 f0 (Int32.ofNat (p + 3))) r0) := zn_on (N := N) (w := w) (b := b) (M := zK (zMD M f0 t) 37 (zgb M tt + (uC (Q.2.2.1 m) (p + 2))) (M.2 45 (12 * f0 + (t + 1)))) (p := p) (n := 3) h1 ((zmd100 (M := M) (f := f0) (t := t)).trans h4) ((zmd100 (M := M) (f := f0) (t := t)).trans h5) C0 r0
          rw [fs, zn_thing zqk_75 (by decide) (by decide) (by decide) (by decide) (by decide), hf13, zn_fldG zqk_75 (by decide) (fp C0 r0) hzm zqg_75_32 hti (es C0 r0) es0 (em C0 r0), if_pos rfl, f1, Option.bind_some, zn_put zqk_75 f2 zqg_75_37 zqg_75_34 eb ecl, Option.bind_some, Option.bind_some]
          exact f9
      by_cases cr : (ρ (uC (Q.2.2.1 m) (p + 1))).testBit (uC (Q.2.2.1 m) (p + 2)) = true
      · have hkf : zkf ρ (uC (Q.2.2.1 m) (p + 1)) (uC (Q.2.2.1 m) (p + 2)) = 3 := if_pos cr
        rw [hkf] at uv
        refine fin (C.1 (f0 + 140) (16 + (t + 1))) (fun M0 => ?_) ?_
        · rw [if_pos cr]
          have := zf_reference (N := N) (w := w) (b := b) (C := C) (r := r) (t := t + 2) (k := 0) h1 a1 a3 (by omega) M0
          rw [show 15 + (t + 2) - 0 = 16 + (t + 1) by omega] at this
          exact this
        · rw [if_pos cr]; exact uv.ref
      · have hkf : zkf ρ (uC (Q.2.2.1 m) (p + 1)) (uC (Q.2.2.1 m) (p + 2)) = 1 := if_neg cr
        rw [hkf] at uv
        refine fin (M.2 45 (12 * f0 + (t + 1))).toInt32 (fun M0 => ?_) ?_
        · rw [if_neg cr]
          have := zf_number (N := N) (w := w) (b := b) (C := C) (r := r) (t := t + 2) (k := 0) h1 a1 a3 (by omega) M0
          rw [show 15 + (t + 2) - 0 = 16 + (t + 1) by omega, (uv.num (Or.inl rfl)).1] at this
          exact ⟨_, this, rfl⟩
        · rw [if_neg cr]; exact uv.int
    · simp only [if_neg cb] at ef0 em
      by_cases c0 : so = 0
      · have es0 : Int32.ofNat so ≤ 0 := by rw [c0]; decide
        refine zStp_e (e := 5) hN hw hS h7 hR hO (by decide) (fun M0 => ?_) (Or.inl ⟨Int32.ofNat f0, Int32.ofNat p, 3, fun C0 r0 => ?_⟩)
        · rw [hs, zd_writeE (e := 5) h1 h2 (opd M0) (opd2 M0) (g0 M0) (ef0 M0) (by decide)]
          rfl
        · rw [fs, zn_thing zqk_75 (by decide) (by decide) (by decide) (by decide) (by decide), hf13, zn_fldC zqk_75 (by decide) (fp C0 r0) hzm zqg_75_32 hti (es C0 r0) (Or.inl ⟨es0, em C0 r0⟩)]
          show Option.bind _ _ = (mX9_fail N (b + 75) 5 (zc w b C0 M r0)).bind _
          cases mX9_fail N (b + 75) 5 (zc w b C0 M r0) <;> rfl
      · have es0 : ¬ Int32.ofNat so ≤ 0 := by
          have := hk.2.2.2.2.2.2.2.1
          rw [show (0 : Int32) = Int32.ofNat 0 from rfl, zi_le (by omega) (by omega)]; omega
        refine zStp_e (e := 5) hN hw hS h7 hR hO (by decide) (fun M0 => ?_) (Or.inl ⟨Int32.ofNat f0, Int32.ofNat p, 3, fun C0 r0 => ?_⟩)
        · rw [hs, zd_writeE (e := 5) h1 h2 (opd M0) (opd2 M0) (g0 M0) (ef0 M0) (by decide)]
          rfl
        · rw [fs, zn_thing zqk_75 (by decide) (by decide) (by decide) (by decide) (by decide), hf13, zn_fldC zqk_75 (by decide) (fp C0 r0) hzm zqg_75_32 hti (es C0 r0) (Or.inr es0)]
          show Option.bind _ _ = (mX9_fail N (b + 75) 5 (zc w b C0 M r0)).bind _
          cases mX9_fail N (b + 75) 5 (zc w b C0 M r0) <;> rfl

end ZFW
