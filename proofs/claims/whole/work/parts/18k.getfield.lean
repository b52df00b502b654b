/-! ===== fields (written by wip/gen/ops11.py) ===== -/
section ZFI
variable {N w b K S f0 t p m : Nat} {F ρ α π lt st : Nat → Nat} {D : Nat → Nat → Prop} {C : zC} {M : zM} {r : zv_X} {Q : zQo} {φ : Nat → zFd}
theorem zd_field {u fb : Nat} (hw : w ≤ 400) (hu : u < w / 2) (ha : zha C u + 2 + fb < w) : zHC w b (mX2_field N (b + 16) (Int32.ofNat (u + 1)) (Int32.ofNat fb)) C r (fun x => (x, C.1 17 (zha C u + 2 + fb))) C r := by
  intro M
  have e18 : C.1 18 (u + 1) = Int32.ofNat (zha C u) := (zN_of _).symm
  unfold mX2_field mX2_field_0
  rw [zqg_16_1, Option.bind_some, zqg_16_2, Option.bind_some, zqa_18 hw (by omega), Option.bind_some, e18, show (Int32.ofNat (zha C u) + 2 : Int32) = Int32.ofNat (zha C u + 2) from zi_add _ 2, zi_add, zqa_17 hw ha, Option.bind_some]
theorem zd_setField {u fb : Nat} {v : Int32} (hw : w ≤ 400) (hu : u < w / 2) (ha : zha C u + 2 + fb < w) : zHC w b (mX2_setField N (b + 16) (Int32.ofNat (u + 1)) (Int32.ofNat fb) v) C r id (zI C 17 (zha C u + 2 + fb) v) r := by
  intro M
  have e18 : C.1 18 (u + 1) = Int32.ofNat (zha C u) := (zN_of _).symm
  unfold mX2_setField mX2_setField_0
  rw [zqg_16_1, Option.bind_some, zqg_16_2, Option.bind_some, zqa_18 hw (by omega), Option.bind_some, e18, show (Int32.ofNat (zha C u) + 2 : Int32) = Int32.ofNat (zha C u + 2) from zi_add _ 2, zi_add, zqs_17 hw ha, Option.bind_some]
  rfl
theorem zd_kof {ty fb : Nat} (hT : zTy C M K F ρ α π) (hty : ty < K) (hfb : fb < 8) : zHC w b (mX7_kindOfField N (b + 1) (Int32.ofNat ty) (Int32.ofNat fb)) C r (fun x => (x, if (ρ ty).testBit fb = true then 3 else 1)) C r := by
  intro M0
  have hK := hT.2.2.2.1
  have hF := hT.2.2.2.2.2.2.1 ty hty
  have hrho : ρ ty < 2 ^ 31 := Nat.lt_of_lt_of_le hF.2.2.2.2.2.1 (Nat.pow_le_pow_right (by decide) (by have := hF.2.2.2.2.1; omega))
  have eb : ((Int32.ofNat (ρ ty) >>> (Int32.ofNat fb &&& 31)) &&& (1 : Int32) = (1 : Int32)) = ((ρ ty).testBit fb = true) := by
    show ((Int32.ofNat (ρ ty) >>> (Int32.ofNat fb &&& Int32.ofNat 31)) &&& Int32.ofNat 1 = Int32.ofNat 1) = _
    rw [zi_31 (by omega), zi_bitN hrho (by omega)]
  unfold mX7_kindOfField mX7_kindOfField_0 mX7_kindOfField_19
  rw [zqg_1_2, Option.bind_some, zqa_4 (by omega), Option.bind_some, hF.2.2.1]
  by_cases c : (ρ ty).testBit fb = true
  · rw [if_pos (by rw [eb]; exact c), if_pos c]
  · rw [if_neg (by rw [eb]; exact c), if_neg c]
theorem zd_faultO {u tt so cl n ty : Nat} (hw : w ≤ 400) (hT : zTy C M K F ρ α π) (h : zPk w K F ρ D C M u tt so cl n) (hty : ty < K) : zHC w b (mX4_faultOfObject N (b + 15) (Int32.ofNat (u + 1)) (Int32.ofNat ty)) C r (fun x => (x, if (α cl).testBit ty = true then 0 else 5)) C r := by
  intro M0
  have e := zd_isOf (N := N) (w := w) (b := b) (r := r) hw hT h hty M0
  have hu := h.1
  have hne : ¬ Int32.ofNat (u + 1) = 0 := fun q => by
    have := zi_inj (a := u + 1) (b := 0) (by omega) (by omega) q
    omega
  unfold mX4_faultOfObject mX4_faultOfObject_0 mX4_faultOfObject_20
  rw [if_neg hne, zqk_15, if_pos rfl, e, Option.bind_some]
  by_cases c : (α cl).testBit ty = true
  · rw [if_pos c, if_neg (show ¬ (1 : Int32) = 0 by decide), if_pos c]
  · rw [if_neg c, if_pos rfl, if_neg c]
/-- a field of a thing of the class -/
theorem zPk.fld {u tt so cl n ty fb : Nat} (hT : zTy C M K F ρ α π) (hI : zInh K F ρ π) (h7 : ∀ k, k < 7 → F k = 0) (h : zPk w K F ρ D C M u tt so cl n) (hfb : fb < F ty) (hb : (α cl).testBit ty = true) : so = 0 ∧ fb < n ∧ fb < 8 ∧ (ρ cl).testBit fb = (ρ ty).testBit fb ∧ zha C u + 2 + fb < w := by
  obtain ⟨k1, k2, k3, k4, k5, k6, k7, k8, k9, k10, k11, k12, k13, k14, k15, k16, k17, k18⟩ := h
  obtain ⟨g1, g2⟩ := hI.up hT cl cl (Nat.le_refl _) k7 hb
  have hso : so = 0 := by
    by_cases c : so = 0
    · exact c
    · have c0 := k10 c
      rw [c0, hT.2.2.2.2.2.1, Nat.testBit_one_eq_true_iff_self_eq_zero] at hb
      rw [hb, h7 0 (by decide)] at hfb
      omega
  have hn := k9 hso
  have h8 := (hT.2.2.2.2.2.2.1 cl k7).2.2.2.2.1
  refine ⟨hso, by omega, by omega, g2 fb hfb, ?_⟩
  rw [hso, zwd_0] at k14
  omega
theorem zd_readE {f : Nat} {e re ty fb : Int32} {M0 : zM} (h1 : f < 16) (h2 : C.2.2 15 5 = .ref (b + (3 * f + 27))) (o1 : mX1_operand N (b + (3 * f + 27)) 1 (zc w b C M0 r) = some (zc w b C M0 r, ty)) (o2 : mX1_operand N (b + (3 * f + 27)) 2 (zc w b C M0 r) = some (zc w b C M0 r, fb)) (g0 : mX1_reference N (b + (3 * f + 27)) 0 (zc w b C M0 r) = some (zc w b C M0 r, re)) (ef : mX4_faultOfObject N (b + 15) re ty (zc w b C M0 r) = some (zc w b C M0 r, e)) (he : ¬ e = 0) : mX4_readField N (b + 15) (zc w b C M0 r) = some (zc w b C M0 r, e) := by
  unfold mX4_readField mX4_readField_0
  simp only [zqg_15_5 h2, zqkF h1, zqk_15, o1, o2, g0, ef, Option.bind_some, if_true, if_neg he]
theorem zd_readG {f : Nat} {re ty fb val kd : Int32} {M0 : zM} {CD CP C' : zC} (h1 : f < 16) (h2 : C.2.2 15 5 = .ref (b + (3 * f + 27))) (o1 : mX1_operand N (b + (3 * f + 27)) 1 (zc w b C M0 r) = some (zc w b C M0 r, ty)) (o2 : mX1_operand N (b + (3 * f + 27)) 2 (zc w b C M0 r) = some (zc w b C M0 r, fb)) (g0 : mX1_reference N (b + (3 * f + 27)) 0 (zc w b C M0 r) = some (zc w b C M0 r, re)) (ef : mX4_faultOfObject N (b + 15) re ty (zc w b C M0 r) = some (zc w b C M0 r, 0))
    (efd : mX2_field N (b + 16) re fb (zc w b C M0 r) = some (zc w b C M0 r, val)) (ed : mX1_drop N (b + (3 * f + 27)) 1 (zc w b C M0 r) = some (zc w b CD M0 r)) (kk : CD.2.2 15 5 = .ref (b + (3 * f + 27))) (ek : mX7_kindOfField N (b + 1) ty fb (zc w b CD M0 r) = some (zc w b CD M0 r, kd)) (hpu : if kd = 3 then mX1_pushReference N (b + (3 * f + 27)) val (zc w b CD M0 r) = some (zc w b CP M0 r) else mX1_pushNumber N (b + (3 * f + 27)) val.toInt64 (zc w b CD M0 r) = some (zc w b CP M0 r)) (eg : mX4_goOn N (b + 15) 3 (zc w b CP M0 r) = some (zc w b C' M0 r, 0)) : mX4_readField N (b + 15) (zc w b C M0 r) = some (zc w b C' M0 r, 0) := by
  unfold mX4_readField mX4_readField_0 mX4_readField_97
  by_cases c : kd = 3
  · rw [if_pos c] at hpu
    simp only [zqg_15_5 h2, zqkF h1, zqk_15, o1, o2, g0, ef, efd, ed, zqg_15_5 kk, zqg_15_2, zqg_15_0, zqk_1, zqk_16, ek, Option.bind_some, if_true, if_pos c, hpu, eg]
  · rw [if_neg c] at hpu
    simp only [zqg_15_5 h2, zqkF h1, zqk_15, o1, o2, g0, ef, efd, ed, zqg_15_5 kk, zqg_15_2, zqg_15_0, zqk_1, zqk_16, ek, Option.bind_some, if_true, if_neg c, hpu, eg]
theorem zn_thing {op l2 l3 : Int32} {x : zv_X} (hk : zm_k x (b + 75) 9 = true) (a1 : ¬ op = 187) (a2 : ¬ op = 188) (a3 : ¬ op = 189) (a4 : ¬ op = 192) (a5 : ¬ op = 193) : mX9_doThing N (b + 75) op l2 l3 x = (mX9_doField N (b + 75) op l2 l3 x).bind fun o => some o := by
  unfold mX9_doThing mX9_doThing_0 mX9_doThing_256
  rw [if_neg a1, if_neg a2, if_neg a3, if_neg a4, if_neg a5, hk, if_pos rfl]
theorem zn_fldN {op l2 l3 ps : Int32} {a : Int64} {x : zv_X} (hk : zm_k x (b + 75) 9 = true) (fp : mX9_peek N (b + 75) ps x = some (x, a)) (hz : lg_cmp a 0 = 0) : mX9_doField_13 N (b + 75) op l2 l3 ps (b + 75) x = (mX9_fail N (b + 75) 2 x).bind fun o => some o := by
  unfold mX9_doField_13 mX9_doField_46 mX9_doField_47 mX9_doField_100
  rw [hk, if_pos rfl, fp, Option.bind_some, if_pos hz, if_pos hz, if_neg (by decide)]
  simp only [hk, if_true]
theorem zn_fldC {op l2 l3 ps so : Int32} {tt : Nat} {a : Int64} {x : zv_X} (hk : zm_k x (b + 75) 9 = true) (h190 : ¬ op = 190) (fp : mX9_peek N (b + 75) ps x = some (x, a)) (hz : ¬ lg_cmp a 0 = 0) (r0 : zm_R x (b + 75) 9 32 = some (b + 99)) (hti : a.toInt32 - 1 = Int32.ofNat tt) (es : zm_aI x (b + 99) (Int32.ofNat tt) = some so) (hc : (so ≤ 0 ∧ mX9_isOf N (b + 75) (Int32.ofNat tt) l2 x = some (x, 0)) ∨ ¬ so ≤ 0) : mX9_doField_13 N (b + 75) op l2 l3 ps (b + 75) x = (mX9_fail N (b + 75) 5 x).bind fun o => some o := by
  unfold mX9_doField_13 mX9_doField_46 mX9_doField_47 mX9_doField_95 mX9_doField_100
  rw [hk, if_pos rfl, fp, Option.bind_some]
  rw [if_neg hz]
  simp only [r0, Option.bind_some, hti, es]
  rcases hc with ⟨c1, c2⟩ | c1
  · simp only [hk, if_pos c1, if_neg hz, if_neg h190, if_true, c2, Option.bind_some, if_neg (show ¬ (5 : Int32) ≤ 0 by decide)]
  · simp only [hk, if_neg c1, if_neg hz, if_neg h190, if_true, if_neg (show ¬ (1 : Int32) = 0 by decide), if_neg (show ¬ (5 : Int32) ≤ 0 by decide)]
theorem zn_fldG {op l2 l3 ps so : Int32} {tt : Nat} {a : Int64} {x : zv_X} (hk : zm_k x (b + 75) 9 = true) (h190 : ¬ op = 190) (fp : mX9_peek N (b + 75) ps x = some (x, a)) (hz : ¬ lg_cmp a 0 = 0) (r0 : zm_R x (b + 75) 9 32 = some (b + 99)) (hti : a.toInt32 - 1 = Int32.ofNat tt) (es : zm_aI x (b + 99) (Int32.ofNat tt) = some so) (c1 : so ≤ 0) (c2 : mX9_isOf N (b + 75) (Int32.ofNat tt) l2 x = some (x, 1)) : mX9_doField_13 N (b + 75) op l2 l3 ps (b + 75) x = if op = 181 then (mX9_popValue N (b + 75) x).bind fun o1 => mX9_doField_129 N (b + 75) op l2 l3 (Int32.ofNat tt) o1.2 o1.1 else mX9_doField_129 N (b + 75) op l2 l3 (Int32.ofNat tt) 0 x := by
  unfold mX9_doField_13 mX9_doField_46 mX9_doField_47 mX9_doField_95 mX9_doField_100
  rw [hk, if_pos rfl, fp, Option.bind_some]
  rw [if_neg hz]
  simp only [r0, Option.bind_some, hti, es]
  simp only [hk, if_pos c1, if_neg hz, if_neg h190, if_true, c2, Option.bind_some, if_neg (show ¬ (1 : Int32) = 0 by decide), if_pos (show (0 : Int32) ≤ 0 by decide)]
theorem zn_get {kd bg l2 l3 : Int32} {tt : Nat} {v1 val : Int64} {x x1 x2 : zv_X} (hk : zm_k x (b + 75) 9 = true) (hk1 : zm_k x1 (b + 75) 9 = true) (f1 : mX9_popValue N (b + 75) x = some (x1, v1)) (r1 : zm_R x1 (b + 75) 9 4 = some (b + 78)) (e4 : zm_aI x1 (b + 78) ((8 : Int32) * l2 + l3) = some kd) (r2 : zm_R x1 (b + 75) 9 37 = some (b + 103)) (r3 : zm_R x1 (b + 75) 9 34 = some (b + 101)) (eb : zm_aI x1 (b + 101) (Int32.ofNat tt) = some bg) (ecl : zm_aL x1 (b + 103) (bg + l3) = some val) (f8 : mX9_pushValue N (b + 75) kd val x1 = some x2) : mX9_doField_129 N (b + 75) 180 l2 l3 (Int32.ofNat tt) 0 x = some x2 := by
  unfold mX9_doField_129 mX9_doField_214
  simp only [hk, hk1, if_true, f1, r1, e4, r2, r3, eb, ecl, f8, Option.bind_some, if_neg (show ¬ (180 : Int32) = 190 by decide)]
theorem zs_180 (hI : zInh K F ρ π) (hN : 1700 < N) (hw : w ≤ 400) (hS : S + 1 < 2 ^ 31) (h7 : ∀ k, k < 7 → F k = 0) (hR : zRn w b K F ρ α π r Q D C M S f0 φ) (hO : zOn C M) (hφ : φ f0 = (t, p, m, lt, st)) (hop : uC (Q.2.2.1 m) p = 180) : zStp N w b K F ρ α π r Q C M S := by
  obtain ⟨hc, hm, hK, l', hl, s1, hp, s2, l2, hh, hlen, hfl⟩ := hR.ty hO hφ hop
  have hh : (if (uC (Q.2.2.1 m) (p + 1)) < K ∧ (uC (Q.2.2.1 m) (p + 2)) < F (uC (Q.2.2.1 m) (p + 1)) then some (zkf ρ (uC (Q.2.2.1 m) (p + 1)) (uC (Q.2.2.1 m) (p + 2)) :: s1, l') else none) = some (s2, l2) := hh
  obtain ⟨hty, hh⟩ := zg hh
  cases hh
  have hp : zpop [3] (zrv st t) = some s1 := hp
  obtain ⟨t, rfl, k0, hp⟩ := zpopc hp
  have hp := zpop0 hp
  subst hp
  have hc' := hc
  have hD := hR.2.1.1
  have hK30 := hR.1.2.2.2.1
  obtain ⟨h1, h2, h3, h4, h5, hfr, _, h8, h9, h10, h11, h12⟩ := hc
  have hfr0 := hfr
  obtain ⟨a1, a2, a3, a4, a5, a6, a7, a8, a9⟩ := hfr
  rw [hop] at h12
  have h12 : p + 3 ≤ uLen (Q.2.2.1 m) := h12
  have e0 : ∀ M0, mX1_opcode N (b + (3 * f0 + 27)) (zc w b C M0 r) = some (zc w b C M0 r, 180) := fun M0 => ze_step0 (N := N) (w := w) hc' hop M0
  have fstep : ∀ C0 r0, mX9_step N (b + 75) (zc w b C0 M r0) = mX9_step_74 N (b + 75) (Int32.ofNat f0) (Int32.ofNat m) (Int32.ofNat p) 180 3 (Int32.ofNat (uC (Q.2.2.1 m) (p + 1))) (Int32.ofNat (uC (Q.2.2.1 m) (p + 2))) (zc w b C0 M r0) := fun C0 r0 => zn_step (N := N) (w := w) hc' hop (n := 3) rfl rfl rfl C0 r0
  have u0 := (a9 t (by omega)).2.2.2
  rw [k0] at u0
  have g0 : ∀ M0, mX1_reference N (b + (3 * f0 + 27)) 0 (zc w b C M0 r) = some (zc w b C M0 r, C.1 (f0 + 140) (16 + t)) := fun M0 => by
    have := zf_reference (N := N) (w := w) (b := b) (C := C) (r := r) (t := t + 1) (k := 0) h1 a1 a3 (by omega) M0
    rw [show 15 + (t + 1) - 0 = 16 + t by omega] at this
    exact this
  have fp : ∀ C0 r0, mX9_peek N (b + 75) 0 (zc w b C0 M r0) = some (zc w b C0 M r0, M.2 45 (12 * f0 + t)) := fun C0 r0 => zn_peek (N := N) (w := w) (b := b) (M := M) (t := t + 1) (k := 0) h1 h3 a2 a3 (by omega) C0 r0
  have opd : ∀ M0, mX1_operand N (b + (3 * f0 + 27)) 1 (zc w b C M0 r) = some (zc w b C M0 r, Int32.ofNat (uC (Q.2.2.1 m) (p + 1))) := fun M0 => ze_operand (N := N) (w := w) (b := b) (C := C) (r := r) (k := 1) h1 h8 h10 a6 a4 (by omega) M0
  have opd2 : ∀ M0, mX1_operand N (b + (3 * f0 + 27)) 2 (zc w b C M0 r) = some (zc w b C M0 r, Int32.ofNat (uC (Q.2.2.1 m) (p + 2))) := fun M0 => ze_operand (N := N) (w := w) (b := b) (C := C) (r := r) (k := 2) h1 h8 h10 a6 a4 (by omega) M0
  obtain ⟨l3, h3', h4'⟩ := (hfl lt hl).2 (by unfold zgoes; decide)
  have hd := hfr0.drop (t' := t) (by omega)
  have hs : ∀ M0, mX4_step N (b + 15) (zc w b C M0 r) = (mX4_readField N (b + 15) (zc w b C M0 r)).bind fun o => some (o.1, o.2) := fun M0 => by
    simp (decide := true) only [mX4_step_107, mX4_step_249, mX4_step_0, mX4_step, e0, zqg_15_5 h2, zqkF h1, id, zqk_15, zqk_16, zqg_15_2, Option.map_some, Int32.reduceLT, Int32.reduceLE, Int32.reduceAdd, Int32.reduceSub, Int32.reduceMul, Int32.reduceDiv, Int32.reduceMod, ↓reduceIte, Option.bind_some]
  have fs : ∀ C0 r0, mX9_step N (b + 75) (zc w b C0 M r0) = (mX9_doThing N (b + 75) 180 (Int32.ofNat (uC (Q.2.2.1 m) (p + 1))) (Int32.ofNat (uC (Q.2.2.1 m) (p + 2))) (zc w b C0 M r0)).bind fun o => mX9_step_327 N (b + 75) (Int32.ofNat f0) (Int32.ofNat p) 3 o := fun C0 r0 => by
    refine (fstep C0 r0).trans ?_
    simp (decide := true) only [mX9_step_74, zqk_75, id, Option.map_some, Int32.reduceLT, Int32.reduceLE, Int32.reduceAdd, Int32.reduceSub, Int32.reduceMul, Int32.reduceDiv, Int32.reduceMod, ↓reduceIte, Option.bind_some]
  have hf13 : ∀ x, mX9_doField N (b + 75) 180 (Int32.ofNat (uC (Q.2.2.1 m) (p + 1))) (Int32.ofNat (uC (Q.2.2.1 m) (p + 2))) x = mX9_doField_13 N (b + 75) 180 (Int32.ofNat (uC (Q.2.2.1 m) (p + 1))) (Int32.ofNat (uC (Q.2.2.1 m) (p + 2))) 0 (b + 75) x := fun x => by
    unfold mX9_doField mX9_doField_0
    rw [if_neg (by decide)]
  rcases zRf.cs hD u0.ref with ⟨hz, hv⟩ | ⟨u, tt, hd2, hre, hv, hz, hzm, hti⟩
  · have hzm : lg_cmp (M.2 45 (12 * f0 + t)) 0 = 0 := zw_cmp.mpr hv
    have ef : ∀ M0, mX4_faultOfObject N (b + 15) (C.1 (f0 + 140) (16 + t)) (Int32.ofNat (uC (Q.2.2.1 m) (p + 1))) (zc w b C M0 r) = some (zc w b C M0 r, 2) := fun M0 => by
      unfold mX4_faultOfObject mX4_faultOfObject_0
      rw [if_pos hz]
    refine zStp_e (e := 2) hN hw hS h7 hR hO (by decide) (fun M0 => ?_) (Or.inl ⟨Int32.ofNat f0, Int32.ofNat p, 3, fun C0 r0 => ?_⟩)
    · rw [hs, zd_readE (e := 2) h1 h2 (opd M0) (opd2 M0) (g0 M0) (ef M0) (by decide)]
      rfl
    · rw [fs, zn_thing zqk_75 (by decide) (by decide) (by decide) (by decide) (by decide), hf13, zn_fldN zqk_75 (fp C0 r0) hzm]
      show Option.bind _ _ = (mX9_fail N (b + 75) 2 (zc w b C0 M r0)).bind _
      cases mX9_fail N (b + 75) 2 (zc w b C0 M r0) <;> rfl
  · obtain ⟨so, cl, n, hk⟩ := hR.2.1.pk hw hR.1 hd2
    have ef0 : ∀ M0, _ := fun M0 => zd_faultO (N := N) (w := w) (b := b) (r := r) hw hR.1 hk hty.1 M0
    rw [← hre] at ef0
    have em := fun C0 r0 => zn_isOf (N := N) (w := w) (b := b) (t := tt) (by omega) hR.1 hty.1 hk.2.1 hk.2.2.2.1 hk.2.2.2.2.2.2.1 C0 r0
    have es : ∀ C0 r0, zm_aI (zc w b C0 M r0) (b + 99) (Int32.ofNat tt) = some (Int32.ofNat so) := fun C0 r0 => by rw [zqa_99 hk.2.1, hk.2.2.1]
    by_cases cb : (α cl).testBit (uC (Q.2.2.1 m) (p + 1)) = true
    · simp only [if_pos cb] at ef0 em
      obtain ⟨x1, x2, x3, x4, x5⟩ := hk.fld hR.1 hI h7 hty.2 cb
      have es0 : Int32.ofNat so ≤ 0 := by rw [x1]; decide
      have hk' := hk
      obtain ⟨q1, q2, q3, q4, q5, q6, q7, q8, q9, q10, q11, q12, q13, q14, q15, q16, q17, q18⟩ := hk
      have hq := q18 (uC (Q.2.2.1 m) (p + 2)) x2
      have kof := fun CX MX (hX : zTy CX MX K F ρ α π) M0 => zd_kof (N := N) (w := w) (b := b) (r := r) hX hty.1 x3 M0
      have e4f : ∀ C0 r0, zm_aI (zc w b C0 (zMD M f0 t) r0) (b + 78) ((8 : Int32) * Int32.ofNat (uC (Q.2.2.1 m) (p + 1)) + Int32.ofNat (uC (Q.2.2.1 m) (p + 2))) = some (Int32.ofNat (if (ρ (uC (Q.2.2.1 m) (p + 1))).testBit (uC (Q.2.2.1 m) (p + 2)) = true then 3 else 1)) := fun C0 r0 => by
        have hKb := hR.1.2.2.2.1
        rw [show ((8 : Int32) * Int32.ofNat (uC (Q.2.2.1 m) (p + 1)) + Int32.ofNat (uC (Q.2.2.1 m) (p + 2))) = Int32.ofNat (8 * (uC (Q.2.2.1 m) (p + 1)) + (uC (Q.2.2.1 m) (p + 2))) by rw [show (8 : Int32) = Int32.ofNat 8 from rfl, zi_mul, zi_add], zqa_78 (by omega)]
        unfold zMD
        rw [zJ1, if_neg (by omega), (hR.1.2.2.2.2.2.2.1 (uC (Q.2.2.1 m) (p + 1)) hty.1).2.2.2.2.2.2.2 (uC (Q.2.2.1 m) (p + 2)) hty.2]
      have eb : ∀ C0 r0, zm_aI (zc w b C0 (zMD M f0 t) r0) (b + 101) (Int32.ofNat tt) = some (Int32.ofNat (zgb M tt)) := fun C0 r0 => by
        rw [zqa_101 q2]
        unfold zMD
        rw [zJ1, if_neg (by omega)]
        exact congrArg some (zN_of _).symm
      have ecl : ∀ C0 r0, zm_aL (zc w b C0 (zMD M f0 t) r0) (b + 103) (Int32.ofNat (zgb M tt) + Int32.ofNat (uC (Q.2.2.1 m) (p + 2))) = some (M.2 37 (zgb M tt + (uC (Q.2.2.1 m) (p + 2)))) := fun C0 r0 => by
        rw [zi_add, zqa_103 (by omega)]
        rfl
      have f1 : ∀ C0 r0, mX9_popValue N (b + 75) (zc w b C0 M r0) = some (zc w b C0 (zMD M f0 t) r0, M.2 45 (12 * f0 + t)) := fun C0 r0 => zn_pop (N := N) (w := w) (b := b) (M := M) (t := t) h1 h3 a2 (by omega) C0 r0
      have e3 : ∀ M0, mX1_drop N (b + (3 * f0 + 27)) 1 (zc w b C M0 r) = some (zc w b (zI C (f0 + 100) 2 (Int32.ofNat (16 + t))) M0 r) := fun M0 => zf_drop (N := N) (w := w) (b := b) (r := r) (t := t + 1) (k := 1) h1 a1 a3 (by omega) M0
      have kk : (zI C (f0 + 100) 2 (Int32.ofNat (16 + t))).2.2 15 5 = .ref (b + (3 * f0 + 27)) := h2
      have efd : ∀ M0, mX2_field N (b + 16) (C.1 (f0 + 140) (16 + t)) (Int32.ofNat (uC (Q.2.2.1 m) (p + 2))) (zc w b C M0 r) = some (zc w b C M0 r, C.1 17 (zha C u + 2 + (uC (Q.2.2.1 m) (p + 2)))) := fun M0 => by rw [hre]; exact zd_field (N := N) (w := w) (b := b) (r := r) hw q1 x5 M0
      have hTd : zTy (zI C (f0 + 100) 2 (Int32.ofNat (16 + t))) M K F ρ α π := hR.1.sc ⟨fun o k h => by rw [zI1, if_neg (by omega)], fun _ _ _ => rfl, by rw [zI1, if_neg (by omega)], by rw [zI1, if_neg (by omega)]⟩ zSM.rf
      have ekf := fun M0 => kof (zI C (f0 + 100) 2 (Int32.ofNat (16 + t))) M hTd M0
      by_cases cr : (ρ (uC (Q.2.2.1 m) (p + 1))).testBit (uC (Q.2.2.1 m) (p + 2)) = true
      · simp only [if_pos cr] at ekf e4f
        rw [if_pos (Or.inr ⟨x1, by rw [x4]; exact cr⟩)] at hq
        have hkf : zkf ρ (uC (Q.2.2.1 m) (p + 1)) (uC (Q.2.2.1 m) (p + 2)) = 3 := if_pos cr
        rw [hkf] at h3'
        have hp := (hd.pushR (by omega) hq).go (p + 3)
        refine zStp_q hR hO hφ (t' := t + 1) (p' := p + 3) (lt' := lt) (st' := zset st t 3) ⟨_, _, fun M0 => ?_, fun C0 r0 => ?_, hp, zTop.rf.i2.pr.i2, (zTopM.rf.d.p (by omega)).go⟩ ⟨l3, by rw [zrv_push]; exact h3', h4'⟩
        · have e4 : mX1_pushReference N (b + (3 * f0 + 27)) (C.1 17 (zha C u + 2 + (uC (Q.2.2.1 m) (p + 2)))) (zc w b (zI C (f0 + 100) 2 (Int32.ofNat (16 + t))) M0 r) = some (zc w b (zPR (zI C (f0 + 100) 2 (Int32.ofNat (16 + t))) f0 t (C.1 17 (zha C u + 2 + (uC (Q.2.2.1 m) (p + 2))))) M0 r) := zf_pushReference (t := t) h1 zp2_I2 (by omega) _ M0
          have e5 : mX4_goOn N (b + 15) 3 (zc w b (zPR (zI C (f0 + 100) 2 (Int32.ofNat (16 + t))) f0 t (C.1 17 (zha C u + 2 + (uC (Q.2.2.1 m) (p + 2))))) M0 r) = some (zc w b (zI (zPR (zI C (f0 + 100) 2 (Int32.ofNat (16 + t))) f0 t (C.1 17 (zha C u + 2 + (uC (Q.2.2.1 m) (p + 2))))) (f0 + 100) 4 (Int32.ofNat (p + 3))) M0 r, 0) := zf_goOn (C := zPR (zI C (f0 + 100) 2 (Int32.ofNat (16 + t))) f0 t (C.1 17 (zha C u + 2 + (uC (Q.2.2.1 m) (p + 2))))) (n := 3) (p := p) h1 h2 (zp4_PR.trans (zp4_I2.trans a4)) M0
          have ekf' : mX7_kindOfField N (b + 1) (Int32.ofNat (uC (Q.2.2.1 m) (p + 1))) (Int32.ofNat (uC (Q.2.2.1 m) (p + 2))) (zc w b (zI C (f0 + 100) 2 (Int32.ofNat (16 + t))) M0 r) = some (zc w b (zI C (f0 + 100) 2 (Int32.ofNat (16 + t))) M0 r, 3) := ekf M0
          have ef0' : mX4_faultOfObject N (b + 15) (C.1 (f0 + 140) (16 + t)) (Int32.ofNat (uC (Q.2.2.1 m) (p + 1))) (zc w b C M0 r) = some (zc w b C M0 r, 0) := ef0 M0
          rw [hs, zd_readG h1 h2 (opd M0) (opd2 M0) (g0 M0) ef0' (efd M0) (e3 M0) kk ekf' (by rw [if_pos rfl]; exact e4) e5]
          rfl
        · have f8 : mX9_pushValue N (b + 75) 3 (M.2 37 (zgb M tt + (uC (Q.2.2.1 m) (p + 2)))) (zc w b C0 (zMD M f0 t) r0) = some (zc w b C0 (zMP (zMD M f0 t) f0 t 3 (M.2 37 (zgb M tt + (uC (Q.2.2.1 m) (p + 2))))) r0) := zn_push (N := N) (w := w) (b := b) (M := zMD M f0 t) (t := t) h1 (zmd100.trans h3) zmd42 (by omega) 3 _ C0 r0
          have f9 : mX9_step_327 N (b + 75) (Int32.ofNat f0) (Int32.ofNat p) 3 (zc w b C0 (zMP (zMD M f0 t) f0 t 3 (M.2 37 (zgb M tt + (uC (Q.2.2.1 m) (p + 2))))) r0) = some (zc w b C0 (zJ (zMP (zMD M f0 t) f0 t 3 (M.2 37 (zgb M tt + (uC (Q.2.2.1 m) (p + 2))))) 41 f0 (Int32.ofNat (p + 3))) r0) := zn_on (N := N) (w := w) (b := b) (M := zMP (zMD M f0 t) f0 t 3 (M.2 37 (zgb M tt + (uC (Q.2.2.1 m) (p + 2))))) (p := p) (n := 3) h1 (zmp100.trans (zmd100.trans h4)) (zmp100.trans (zmd100.trans h5)) C0 r0
          have e4f' : zm_aI (zc w b C0 (zMD M f0 t) r0) (b + 78) ((8 : Int32) * Int32.ofNat (uC (Q.2.2.1 m) (p + 1)) + Int32.ofNat (uC (Q.2.2.1 m) (p + 2))) = some 3 := e4f C0 r0
          rw [fs, zn_thing zqk_75 (by decide) (by decide) (by decide) (by decide) (by decide), hf13, zn_fldG zqk_75 (by decide) (fp C0 r0) hzm zqg_75_32 hti (es C0 r0) es0 (em C0 r0), if_neg (by decide), zn_get zqk_75 zqk_75 (f1 C0 r0) zqg_75_4 e4f' zqg_75_37 zqg_75_34 (eb C0 r0) (ecl C0 r0) f8, Option.bind_some, Option.bind_some]
          exact f9
      · simp only [if_neg cr] at ekf e4f
        rw [if_neg (fun q => by rcases q with q | q; omega; exact cr (by rw [← x4]; exact q.2))] at hq
        have hel : zel so (fun j => C.1 17 (zha C u + 2 + j)) (uC (Q.2.2.1 m) (p + 2)) = (C.1 17 (zha C u + 2 + (uC (Q.2.2.1 m) (p + 2)))).toInt64 := by rw [x1]; rfl
        rw [hel] at hq
        have hkf : zkf ρ (uC (Q.2.2.1 m) (p + 1)) (uC (Q.2.2.1 m) (p + 2)) = 1 := if_neg cr
        rw [hkf] at h3'
        have hp := (hd.pushN (by omega) (zSl.mk1 (C.1 17 (zha C u + 2 + (uC (Q.2.2.1 m) (p + 2))))) (Or.inl rfl)).go (p + 3)
        rw [← hq] at hp
        refine zStp_q hR hO hφ (t' := t + 1) (p' := p + 3) (lt' := lt) (st' := zset st t 1) ⟨_, _, fun M0 => ?_, fun C0 r0 => ?_, hp, zTop.rf.i2.pn.i2, (zTopM.rf.d.p (by omega)).go⟩ ⟨l3, by rw [zrv_push]; exact h3', h4'⟩
        · have e4 : mX1_pushNumber N (b + (3 * f0 + 27)) (M.2 37 (zgb M tt + (uC (Q.2.2.1 m) (p + 2)))) (zc w b (zI C (f0 + 100) 2 (Int32.ofNat (16 + t))) M0 r) = some (zc w b (zPN (zI C (f0 + 100) 2 (Int32.ofNat (16 + t))) f0 t (M.2 37 (zgb M tt + (uC (Q.2.2.1 m) (p + 2))))) M0 r) := zf_pushNumber (t := t) h1 zp2_I2 (by omega) _ M0
          have e5 : mX4_goOn N (b + 15) 3 (zc w b (zPN (zI C (f0 + 100) 2 (Int32.ofNat (16 + t))) f0 t (M.2 37 (zgb M tt + (uC (Q.2.2.1 m) (p + 2))))) M0 r) = some (zc w b (zI (zPN (zI C (f0 + 100) 2 (Int32.ofNat (16 + t))) f0 t (M.2 37 (zgb M tt + (uC (Q.2.2.1 m) (p + 2))))) (f0 + 100) 4 (Int32.ofNat (p + 3))) M0 r, 0) := zf_goOn (C := zPN (zI C (f0 + 100) 2 (Int32.ofNat (16 + t))) f0 t (M.2 37 (zgb M tt + (uC (Q.2.2.1 m) (p + 2))))) (n := 3) (p := p) h1 h2 (zp4_PN.trans (zp4_I2.trans a4)) M0
          have ekf' : mX7_kindOfField N (b + 1) (Int32.ofNat (uC (Q.2.2.1 m) (p + 1))) (Int32.ofNat (uC (Q.2.2.1 m) (p + 2))) (zc w b (zI C (f0 + 100) 2 (Int32.ofNat (16 + t))) M0 r) = some (zc w b (zI C (f0 + 100) 2 (Int32.ofNat (16 + t))) M0 r, 1) := ekf M0
          have ef0' : mX4_faultOfObject N (b + 15) (C.1 (f0 + 140) (16 + t)) (Int32.ofNat (uC (Q.2.2.1 m) (p + 1))) (zc w b C M0 r) = some (zc w b C M0 r, 0) := ef0 M0
          rw [hs, zd_readG h1 h2 (opd M0) (opd2 M0) (g0 M0) ef0' (efd M0) (e3 M0) kk ekf' (by rw [if_neg (by decide), ← hq]; exact e4) e5]
          rfl
        · have f8 : mX9_pushValue N (b + 75) 1 (M.2 37 (zgb M tt + (uC (Q.2.2.1 m) (p + 2)))) (zc w b C0 (zMD M f0 t) r0) = some (zc w b C0 (zMP (zMD M f0 t) f0 t 1 (M.2 37 (zgb M tt + (uC (Q.2.2.1 m) (p + 2))))) r0) := zn_push (N := N) (w := w) (b := b) (M := zMD M f0 t) (t := t) h1 (zmd100.trans h3) zmd42 (by omega) 1 _ C0 r0
          have f9 : mX9_step_327 N (b + 75) (Int32.ofNat f0) (Int32.ofNat p) 3 (zc w b C0 (zMP (zMD M f0 t) f0 t 1 (M.2 37 (zgb M tt + (uC (Q.2.2.1 m) (p + 2))))) r0) = some (zc w b C0 (zJ (zMP (zMD M f0 t) f0 t 1 (M.2 37 (zgb M tt + (uC (Q.2.2.1 m) (p + 2))))) 41 f0 (Int32.ofNat (p + 3))) r0) := zn_on (N := N) (w := w) (b := b) (M := zMP (zMD M f0 t) f0 t 1 (M.2 37 (zgb M tt + (uC (Q.2.2.1 m) (p + 2))))) (p := p) (n := 3) h1 (zmp100.trans (zmd100.trans h4)) (zmp100.trans (zmd100.trans h5)) C0 r0
          have e4f' : zm_aI (zc w b C0 (zMD M f0 t) r0) (b + 78) ((8 : Int32) * Int32.ofNat (uC (Q.2.2.1 m) (p + 1)) + Int32.ofNat (uC (Q.2.2.1 m) (p + 2))) = some 1 := e4f C0 r0
          rw [fs, zn_thing zqk_75 (by decide) (by decide) (by decide) (by decide) (by decide), hf13, zn_fldG zqk_75 (by decide) (fp C0 r0) hzm zqg_75_32 hti (es C0 r0) es0 (em C0 r0), if_neg (by decide), zn_get zqk_75 zqk_75 (f1 C0 r0) zqg_75_4 e4f' zqg_75_37 zqg_75_34 (eb C0 r0) (ecl C0 r0) f8, Option.bind_some, Option.bind_some]
          exact f9
    · simp only [if_neg cb] at ef0 em
      by_cases c0 : so = 0
      · have es0 : Int32.ofNat so ≤ 0 := by rw [c0]; decide
        refine zStp_e (e := 5) hN hw hS h7 hR hO (by decide) (fun M0 => ?_) (Or.inl ⟨Int32.ofNat f0, Int32.ofNat p, 3, fun C0 r0 => ?_⟩)
        · rw [hs, zd_readE (e := 5) h1 h2 (opd M0) (opd2 M0) (g0 M0) (ef0 M0) (by decide)]
          rfl
        · rw [fs, zn_thing zqk_75 (by decide) (by decide) (by decide) (by decide) (by decide), hf13, zn_fldC zqk_75 (by decide) (fp C0 r0) hzm zqg_75_32 hti (es C0 r0) (Or.inl ⟨es0, em C0 r0⟩)]
          show Option.bind _ _ = (mX9_fail N (b + 75) 5 (zc w b C0 M r0)).bind _
          cases mX9_fail N (b + 75) 5 (zc w b C0 M r0) <;> rfl
      · have es0 : ¬ Int32.ofNat so ≤ 0 := by
          have := hk.2.2.2.2.2.2.2.1
          rw [show (0 : Int32) = Int32.ofNat 0 from rfl, zi_le (by omega) (by omega)]; omega
        refine zStp_e (e := 5) hN hw hS h7 hR hO (by decide) (fun M0 => ?_) (Or.inl ⟨Int32.ofNat f0, Int32.ofNat p, 3, fun C0 r0 => ?_⟩)
        · rw [hs, zd_readE (e := 5) h1 h2 (opd M0) (opd2 M0) (g0 M0) (ef0 M0) (by decide)]
          rfl
        · rw [fs, zn_thing zqk_75 (by decide) (by decide) (by decide) (by decide) (by decide), hf13, zn_fldC zqk_75 (by decide) (fp C0 r0) hzm zqg_75_32 hti (es C0 r0) (Or.inr es0)]
          show Option.bind _ _ = (mX9_fail N (b + 75) 5 (zc w b C0 M r0)).bind _
          cases mX9_fail N (b + 75) 5 (zc w b C0 M r0) <;> rfl

end ZFI
