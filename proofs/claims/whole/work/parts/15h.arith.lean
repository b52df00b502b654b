section ZQV
variable {N w b K f t p m : Nat} {D : Nat → Nat → Prop} {C : zC} {M : zM} {r : zv_X} {ra lt st : Nat → Nat} {μ : zMu}
theorem zmd42 {t : Nat} : (zMD M f t).1 42 f = Int32.ofNat t := by unfold zMD; simp only [zI1, zI2, zL1, zL2, zL3, zV1, zV2, zV3, zJ1, zJ2, zK1, zK2, Nat.reduceEqDiff, and_true, true_and, and_false, false_and, and_self, reduceIte]
theorem zmd100 {t k : Nat} : (zMD M f t).1 100 k = M.1 100 k := by unfold zMD; simp (disch := omega) only [zJ1, if_neg]
theorem zmp100 {t k : Nat} {tag : Int32} {v : Int64} : (zMP M f t tag v).1 100 k = M.1 100 k := by unfold zMP; simp (disch := omega) only [zJ1, zK1, if_neg]
theorem zo_96 (h : zCur b K D C M r ra f (t + 2) p m lt st μ) (hop : uC μ p = 96) (s0 : st (t + 1) = 1) (s1 : st (t) = 1) : zQ w b N D C M r ra f m (t + 1) (p + 1) lt (zset st t 1) := by
  have hc := h
  obtain ⟨h1, h2, h3, h4, h5, hfr, h7, h8, h9, h10, h11, h12⟩ := h
  have hd := hfr.drop (t' := t) (by omega)
  obtain ⟨a1, a2, a3, a4, a5, a6, a7, a8, a9⟩ := hfr
  have u0 := (a9 (t + 1) (by omega)).2.2.2
  rw [s0] at u0
  have n0 := u0.num (Or.inl rfl)
  have u1 := (a9 (t) (by omega)).2.2.2
  rw [s1] at u1
  have n1 := u1.num (Or.inl rfl)
  have hp := (hd.pushN (by omega) (zSl.mk1 ((M.2 45 (12 * f + t)).toInt32 + (M.2 45 (12 * f + (t + 1))).toInt32)) (Or.inl rfl)).go (p + 1)
  refine ⟨_, _, fun M0 => ?_, fun C0 r0 => ?_, hp, zTop.rf.i2.pn.i2, (zTopM.rf.d.p (by omega)).go⟩
  · have e0 : mX1_opcode N (b + (3 * f + 27)) (zc w b C M0 r) = some (zc w b C M0 r, 96) := ze_step0 (N := N) (w := w) hc hop M0
    have g0 : mX1_number N (b + (3 * f + 27)) 0 (zc w b C M0 r) = _ := zf_number (N := N) (w := w) (b := b) (r := r) (k := 0) h1 a1 a3 (by omega) M0
    have g1 : mX1_number N (b + (3 * f + 27)) 1 (zc w b C M0 r) = _ := zf_number (N := N) (w := w) (b := b) (r := r) (k := 1) h1 a1 a3 (by omega) M0
    have e3 : mX1_drop N (b + (3 * f + 27)) 2 (zc w b C M0 r) = some (zc w b (zI C (f + 100) 2 (Int32.ofNat (16 + t))) M0 r) := zf_drop (N := N) (w := w) (b := b) (r := r) (t := t + 2) (k := 2) h1 a1 a3 (by omega) M0
    have k1 : (zI C (f + 100) 2 (Int32.ofNat (16 + t))).2.2 15 5 = .ref (b + (3 * f + 27)) := h2
    have e4 : ∀ v, mX1_pushNumber N (b + (3 * f + 27)) v (zc w b (zI C (f + 100) 2 (Int32.ofNat (16 + t))) M0 r) = some (zc w b (zPN (zI C (f + 100) 2 (Int32.ofNat (16 + t))) f t v) M0 r) := fun v => zf_pushNumber (t := t) h1 zp2_I2 (by omega) v M0
    have e5 : ∀ v, mX4_goOn N (b + 15) 1 (zc w b (zPN (zI C (f + 100) 2 (Int32.ofNat (16 + t))) f t v) M0 r) = some (zc w b (zI (zPN (zI C (f + 100) 2 (Int32.ofNat (16 + t))) f t v) (f + 100) 4 (Int32.ofNat (p + 1))) M0 r, 0) := fun v => zf_goOn (C := zPN (zI C (f + 100) 2 (Int32.ofNat (16 + t))) f t v) (n := 1) (p := p) h1 h2 (zp4_PN.trans (zp4_I2.trans a4)) M0
    simp (decide := true) only [mX4_step_107, mX4_step_249, mX4_step_0, mX4_step, mX4_reckon_172, mX4_reckon_145, mX4_reckon_118, mX4_reckon_117, mX4_reckon_91, mX4_reckon_82, mX4_reckon_61, mX4_reckon_11, mX4_reckon_0, mX4_reckon, e0, zqg_15_5 h2, zqkF h1, id, zqk_15, zqg_15_5 k1, g0, g1, e3, e4, e5, qX4_combined, pX4_combined, pX4_combined_0, Option.map_some, Int32.reduceLT, Int32.reduceLE, Int32.reduceAdd, Int32.reduceSub, Int32.reduceMul, Int32.reduceDiv, Int32.reduceMod, ↓reduceIte, Option.bind_some]
    rw [show 15 + (t + 2) - 0 = 16 + (t + 1) by omega, show 15 + (t + 2) - 1 = 16 + (t) by omega, n0.1, n1.1, Int64.toInt32_add]
  · have f0 : mX9_step N (b + 75) (zc w b C0 M r0) = mX9_step_74 N (b + 75) (Int32.ofNat f) (Int32.ofNat m) (Int32.ofNat p) 96 1 0 0 (zc w b C0 M r0) := zn_step (N := N) (w := w) hc hop (n := 1) rfl rfl rfl C0 r0
    have f1 : mX9_popValue N (b + 75) (zc w b C0 M r0) = some (zc w b C0 (zMD M f (t + 1)) r0, M.2 45 (12 * f + (t + 1))) := by
      have := zn_pop (N := N) (w := w) (b := b) (M := M) (t := t + 1) h1 h3 a2 (by omega) C0 r0
      exact this
    have f2 : mX9_popValue N (b + 75) (zc w b C0 (zMD M f (t + 1)) r0) = some (zc w b C0 (zMD M f (t)) r0, M.2 45 (12 * f + (t))) := by
      have := zn_pop (N := N) (w := w) (b := b) (M := (zMD M f (t + 1))) (t := t) h1 h3 zmd42 (by omega) C0 r0
      rw [zMDD] at this; exact this
    have f8 : ∀ v, mX9_pushValue N (b + 75) 1 v (zc w b C0 (zMD M f (t)) r0) = some (zc w b C0 (zMP (zMD M f (t)) f t 1 v) r0) := fun v => zn_push (N := N) (w := w) (b := b) (M := (zMD M f (t))) (t := t) h1 h3 zmd42 (by omega) 1 v C0 r0
    have f9 : ∀ v, mX9_step_327 N (b + 75) (Int32.ofNat f) (Int32.ofNat p) 1 (zc w b C0 (zMP (zMD M f (t)) f t 1 v) r0) = some (zc w b C0 (zJ (zMP (zMD M f (t)) f t 1 v) 41 f (Int32.ofNat (p + 1))) r0) := fun v => zn_on (N := N) (w := w) (b := b) (M := zMP (zMD M f (t)) f t 1 v) (p := p) (n := 1) h1 (zmp100.trans (zmd100.trans h4)) (zmp100.trans (zmd100.trans h5)) C0 r0
    refine f0.trans ?_
    simp (decide := true) only [mX9_step_74, mX9_doReckoning_352, mX9_doReckoning_244, mX9_doReckoning_229, mX9_doReckoning_210, mX9_doReckoning_302, mX9_doReckoning_279, mX9_doReckoning_274, mX9_doReckoning_192, mX9_doReckoning_144, mX9_doReckoning_138, mX9_doReckoning_0, mX9_doReckoning, zqk_75, f1, f2, f8, f9, id, qX9_ofInts, pX9_ofInts, pX9_ofInts_0, pX9_ofInts_188, pX9_ofInts_0, pX4_combined_0, Option.map_some, Int32.reduceLT, Int32.reduceLE, Int32.reduceAdd, Int32.reduceSub, Int32.reduceMul, Int32.reduceDiv, Int32.reduceMod, ↓reduceIte, Option.bind_some]
    rfl

theorem zo_100 (h : zCur b K D C M r ra f (t + 2) p m lt st μ) (hop : uC μ p = 100) (s0 : st (t + 1) = 1) (s1 : st (t) = 1) : zQ w b N D C M r ra f m (t + 1) (p + 1) lt (zset st t 1) := by
  have hc := h
  obtain ⟨h1, h2, h3, h4, h5, hfr, h7, h8, h9, h10, h11, h12⟩ := h
  have hd := hfr.drop (t' := t) (by omega)
  obtain ⟨a1, a2, a3, a4, a5, a6, a7, a8, a9⟩ := hfr
  have u0 := (a9 (t + 1) (by omega)).2.2.2
  rw [s0] at u0
  have n0 := u0.num (Or.inl rfl)
  have u1 := (a9 (t) (by omega)).2.2.2
  rw [s1] at u1
  have n1 := u1.num (Or.inl rfl)
  have hp := (hd.pushN (by omega) (zSl.mk1 ((M.2 45 (12 * f + t)).toInt32 - (M.2 45 (12 * f + (t + 1))).toInt32)) (Or.inl rfl)).go (p + 1)
  refine ⟨_, _, fun M0 => ?_, fun C0 r0 => ?_, hp, zTop.rf.i2.pn.i2, (zTopM.rf.d.p (by omega)).go⟩
  · have e0 : mX1_opcode N (b + (3 * f + 27)) (zc w b C M0 r) = some (zc w b C M0 r, 100) := ze_step0 (N := N) (w := w) hc hop M0
    have g0 : mX1_number N (b + (3 * f + 27)) 0 (zc w b C M0 r) = _ := zf_number (N := N) (w := w) (b := b) (r := r) (k := 0) h1 a1 a3 (by omega) M0
    have g1 : mX1_number N (b + (3 * f + 27)) 1 (zc w b C M0 r) = _ := zf_number (N := N) (w := w) (b := b) (r := r) (k := 1) h1 a1 a3 (by omega) M0
    have e3 : mX1_drop N (b + (3 * f + 27)) 2 (zc w b C M0 r) = some (zc w b (zI C (f + 100) 2 (Int32.ofNat (16 + t))) M0 r) := zf_drop (N := N) (w := w) (b := b) (r := r) (t := t + 2) (k := 2) h1 a1 a3 (by omega) M0
    have k1 : (zI C (f + 100) 2 (Int32.ofNat (16 + t))).2.2 15 5 = .ref (b + (3 * f + 27)) := h2
    have e4 : ∀ v, mX1_pushNumber N (b + (3 * f + 27)) v (zc w b (zI C (f + 100) 2 (Int32.ofNat (16 + t))) M0 r) = some (zc w b (zPN (zI C (f + 100) 2 (Int32.ofNat (16 + t))) f t v) M0 r) := fun v => zf_pushNumber (t := t) h1 zp2_I2 (by omega) v M0
    have e5 : ∀ v, mX4_goOn N (b + 15) 1 (zc w b (zPN (zI C (f + 100) 2 (Int32.ofNat (16 + t))) f t v) M0 r) = some (zc w b (zI (zPN (zI C (f + 100) 2 (Int32.ofNat (16 + t))) f t v) (f + 100) 4 (Int32.ofNat (p + 1))) M0 r, 0) := fun v => zf_goOn (C := zPN (zI C (f + 100) 2 (Int32.ofNat (16 + t))) f t v) (n := 1) (p := p) h1 h2 (zp4_PN.trans (zp4_I2.trans a4)) M0
    simp (decide := true) only [mX4_step_107, mX4_step_249, mX4_step_0, mX4_step, mX4_reckon_172, mX4_reckon_145, mX4_reckon_118, mX4_reckon_117, mX4_reckon_91, mX4_reckon_82, mX4_reckon_61, mX4_reckon_11, mX4_reckon_0, mX4_reckon, e0, zqg_15_5 h2, zqkF h1, id, zqk_15, zqg_15_5 k1, g0, g1, e3, e4, e5, qX4_combined, pX4_combined, pX4_combined_0, Option.map_some, Int32.reduceLT, Int32.reduceLE, Int32.reduceAdd, Int32.reduceSub, Int32.reduceMul, Int32.reduceDiv, Int32.reduceMod, ↓reduceIte, Option.bind_some]
    rw [show 15 + (t + 2) - 0 = 16 + (t + 1) by omega, show 15 + (t + 2) - 1 = 16 + (t) by omega, n0.1, n1.1, Int64.toInt32_sub]
  · have f0 : mX9_step N (b + 75) (zc w b C0 M r0) = mX9_step_74 N (b + 75) (Int32.ofNat f) (Int32.ofNat m) (Int32.ofNat p) 100 1 0 0 (zc w b C0 M r0) := zn_step (N := N) (w := w) hc hop (n := 1) rfl rfl rfl C0 r0
    have f1 : mX9_popValue N (b + 75) (zc w b C0 M r0) = some (zc w b C0 (zMD M f (t + 1)) r0, M.2 45 (12 * f + (t + 1))) := by
      have := zn_pop (N := N) (w := w) (b := b) (M := M) (t := t + 1) h1 h3 a2 (by omega) C0 r0
      exact this
    have f2 : mX9_popValue N (b + 75) (zc w b C0 (zMD M f (t + 1)) r0) = some (zc w b C0 (zMD M f (t)) r0, M.2 45 (12 * f + (t))) := by
      have := zn_pop (N := N) (w := w) (b := b) (M := (zMD M f (t + 1))) (t := t) h1 h3 zmd42 (by omega) C0 r0
      rw [zMDD] at this; exact this
    have f8 : ∀ v, mX9_pushValue N (b + 75) 1 v (zc w b C0 (zMD M f (t)) r0) = some (zc w b C0 (zMP (zMD M f (t)) f t 1 v) r0) := fun v => zn_push (N := N) (w := w) (b := b) (M := (zMD M f (t))) (t := t) h1 h3 zmd42 (by omega) 1 v C0 r0
    have f9 : ∀ v, mX9_step_327 N (b + 75) (Int32.ofNat f) (Int32.ofNat p) 1 (zc w b C0 (zMP (zMD M f (t)) f t 1 v) r0) = some (zc w b C0 (zJ (zMP (zMD M f (t)) f t 1 v) 41 f (Int32.ofNat (p + 1))) r0) := fun v => zn_on (N := N) (w := w) (b := b) (M := zMP (zMD M f (t)) f t 1 v) (p := p) (n := 1) h1 (zmp100.trans (zmd100.trans h4)) (zmp100.trans (zmd100.trans h5)) C0 r0
    refine f0.trans ?_
    simp (decide := true) only [mX9_step_74, mX9_doReckoning_352, mX9_doReckoning_244, mX9_doReckoning_229, mX9_doReckoning_210, mX9_doReckoning_302, mX9_doReckoning_279, mX9_doReckoning_274, mX9_doReckoning_192, mX9_doReckoning_144, mX9_doReckoning_138, mX9_doReckoning_0, mX9_doReckoning, zqk_75, f1, f2, f8, f9, id, qX9_ofInts, pX9_ofInts, pX9_ofInts_0, pX9_ofInts_188, pX9_ofInts_0, pX4_combined_0, Option.map_some, Int32.reduceLT, Int32.reduceLE, Int32.reduceAdd, Int32.reduceSub, Int32.reduceMul, Int32.reduceDiv, Int32.reduceMod, ↓reduceIte, Option.bind_some]
    rfl

theorem zo_104 (h : zCur b K D C M r ra f (t + 2) p m lt st μ) (hop : uC μ p = 104) (s0 : st (t + 1) = 1) (s1 : st (t) = 1) : zQ w b N D C M r ra f m (t + 1) (p + 1) lt (zset st t 1) := by
  have hc := h
  obtain ⟨h1, h2, h3, h4, h5, hfr, h7, h8, h9, h10, h11, h12⟩ := h
  have hd := hfr.drop (t' := t) (by omega)
  obtain ⟨a1, a2, a3, a4, a5, a6, a7, a8, a9⟩ := hfr
  have u0 := (a9 (t + 1) (by omega)).2.2.2
  rw [s0] at u0
  have n0 := u0.num (Or.inl rfl)
  have u1 := (a9 (t) (by omega)).2.2.2
  rw [s1] at u1
  have n1 := u1.num (Or.inl rfl)
  have hp := (hd.pushN (by omega) (zSl.mk1 ((M.2 45 (12 * f + t)).toInt32 * (M.2 45 (12 * f + (t + 1))).toInt32)) (Or.inl rfl)).go (p + 1)
  refine ⟨_, _, fun M0 => ?_, fun C0 r0 => ?_, hp, zTop.rf.i2.pn.i2, (zTopM.rf.d.p (by omega)).go⟩
  · have e0 : mX1_opcode N (b + (3 * f + 27)) (zc w b C M0 r) = some (zc w b C M0 r, 104) := ze_step0 (N := N) (w := w) hc hop M0
    have g0 : mX1_number N (b + (3 * f + 27)) 0 (zc w b C M0 r) = _ := zf_number (N := N) (w := w) (b := b) (r := r) (k := 0) h1 a1 a3 (by omega) M0
    have g1 : mX1_number N (b + (3 * f + 27)) 1 (zc w b C M0 r) = _ := zf_number (N := N) (w := w) (b := b) (r := r) (k := 1) h1 a1 a3 (by omega) M0
    have e3 : mX1_drop N (b + (3 * f + 27)) 2 (zc w b C M0 r) = some (zc w b (zI C (f + 100) 2 (Int32.ofNat (16 + t))) M0 r) := zf_drop (N := N) (w := w) (b := b) (r := r) (t := t + 2) (k := 2) h1 a1 a3 (by omega) M0
    have k1 : (zI C (f + 100) 2 (Int32.ofNat (16 + t))).2.2 15 5 = .ref (b + (3 * f + 27)) := h2
    have e4 : ∀ v, mX1_pushNumber N (b + (3 * f + 27)) v (zc w b (zI C (f + 100) 2 (Int32.ofNat (16 + t))) M0 r) = some (zc w b (zPN (zI C (f + 100) 2 (Int32.ofNat (16 + t))) f t v) M0 r) := fun v => zf_pushNumber (t := t) h1 zp2_I2 (by omega) v M0
    have e5 : ∀ v, mX4_goOn N (b + 15) 1 (zc w b (zPN (zI C (f + 100) 2 (Int32.ofNat (16 + t))) f t v) M0 r) = some (zc w b (zI (zPN (zI C (f + 100) 2 (Int32.ofNat (16 + t))) f t v) (f + 100) 4 (Int32.ofNat (p + 1))) M0 r, 0) := fun v => zf_goOn (C := zPN (zI C (f + 100) 2 (Int32.ofNat (16 + t))) f t v) (n := 1) (p := p) h1 h2 (zp4_PN.trans (zp4_I2.trans a4)) M0
    simp (decide := true) only [mX4_step_107, mX4_step_249, mX4_step_0, mX4_step, mX4_reckon_172, mX4_reckon_145, mX4_reckon_118, mX4_reckon_117, mX4_reckon_91, mX4_reckon_82, mX4_reckon_61, mX4_reckon_11, mX4_reckon_0, mX4_reckon, e0, zqg_15_5 h2, zqkF h1, id, zqk_15, zqg_15_5 k1, g0, g1, e3, e4, e5, qX4_combined, pX4_combined, pX4_combined_0, Option.map_some, Int32.reduceLT, Int32.reduceLE, Int32.reduceAdd, Int32.reduceSub, Int32.reduceMul, Int32.reduceDiv, Int32.reduceMod, ↓reduceIte, Option.bind_some]
    rw [show 15 + (t + 2) - 0 = 16 + (t + 1) by omega, show 15 + (t + 2) - 1 = 16 + (t) by omega, n0.1, n1.1, Int64.toInt32_mul]
  · have f0 : mX9_step N (b + 75) (zc w b C0 M r0) = mX9_step_74 N (b + 75) (Int32.ofNat f) (Int32.ofNat m) (Int32.ofNat p) 104 1 0 0 (zc w b C0 M r0) := zn_step (N := N) (w := w) hc hop (n := 1) rfl rfl rfl C0 r0
    have f1 : mX9_popValue N (b + 75) (zc w b C0 M r0) = some (zc w b C0 (zMD M f (t + 1)) r0, M.2 45 (12 * f + (t + 1))) := by
      have := zn_pop (N := N) (w := w) (b := b) (M := M) (t := t + 1) h1 h3 a2 (by omega) C0 r0
      exact this
    have f2 : mX9_popValue N (b + 75) (zc w b C0 (zMD M f (t + 1)) r0) = some (zc w b C0 (zMD M f (t)) r0, M.2 45 (12 * f + (t))) := by
      have := zn_pop (N := N) (w := w) (b := b) (M := (zMD M f (t + 1))) (t := t) h1 h3 zmd42 (by omega) C0 r0
      rw [zMDD] at this; exact this
    have f8 : ∀ v, mX9_pushValue N (b + 75) 1 v (zc w b C0 (zMD M f (t)) r0) = some (zc w b C0 (zMP (zMD M f (t)) f t 1 v) r0) := fun v => zn_push (N := N) (w := w) (b := b) (M := (zMD M f (t))) (t := t) h1 h3 zmd42 (by omega) 1 v C0 r0
    have f9 : ∀ v, mX9_step_327 N (b + 75) (Int32.ofNat f) (Int32.ofNat p) 1 (zc w b C0 (zMP (zMD M f (t)) f t 1 v) r0) = some (zc w b C0 (zJ (zMP (zMD M f (t)) f t 1 v) 41 f (Int32.ofNat (p + 1))) r0) := fun v => zn_on (N := N) (w := w) (b := b) (M := zMP (zMD M f (t)) f t 1 v) (p := p) (n := 1) h1 (zmp100.trans (zmd100.trans h4)) (zmp100.trans (zmd100.trans h5)) C0 r0
    refine f0.trans ?_
    simp (decide := true) only [mX9_step_74, mX9_doReckoning_352, mX9_doReckoning_244, mX9_doReckoning_229, mX9_doReckoning_210, mX9_doReckoning_302, mX9_doReckoning_279, mX9_doReckoning_274, mX9_doReckoning_192, mX9_doReckoning_144, mX9_doReckoning_138, mX9_doReckoning_0, mX9_doReckoning, zqk_75, f1, f2, f8, f9, id, qX9_ofInts, pX9_ofInts, pX9_ofInts_0, pX9_ofInts_188, pX9_ofInts_0, pX4_combined_0, Option.map_some, Int32.reduceLT, Int32.reduceLE, Int32.reduceAdd, Int32.reduceSub, Int32.reduceMul, Int32.reduceDiv, Int32.reduceMod, ↓reduceIte, Option.bind_some]
    rfl

theorem zo_126 (h : zCur b K D C M r ra f (t + 2) p m lt st μ) (hop : uC μ p = 126) (s0 : st (t + 1) = 1) (s1 : st (t) = 1) : zQ w b N D C M r ra f m (t + 1) (p + 1) lt (zset st t 1) := by
  have hc := h
  obtain ⟨h1, h2, h3, h4, h5, hfr, h7, h8, h9, h10, h11, h12⟩ := h
  have hd := hfr.drop (t' := t) (by omega)
  obtain ⟨a1, a2, a3, a4, a5, a6, a7, a8, a9⟩ := hfr
  have u0 := (a9 (t + 1) (by omega)).2.2.2
  rw [s0] at u0
  have n0 := u0.num (Or.inl rfl)
  have u1 := (a9 (t) (by omega)).2.2.2
  rw [s1] at u1
  have n1 := u1.num (Or.inl rfl)
  have hp := (hd.pushN (by omega) (zSl.mk1 ((M.2 45 (12 * f + t)).toInt32 &&& (M.2 45 (12 * f + (t + 1))).toInt32)) (Or.inl rfl)).go (p + 1)
  refine ⟨_, _, fun M0 => ?_, fun C0 r0 => ?_, hp, zTop.rf.i2.pn.i2, (zTopM.rf.d.p (by omega)).go⟩
  · have e0 : mX1_opcode N (b + (3 * f + 27)) (zc w b C M0 r) = some (zc w b C M0 r, 126) := ze_step0 (N := N) (w := w) hc hop M0
    have g0 : mX1_number N (b + (3 * f + 27)) 0 (zc w b C M0 r) = _ := zf_number (N := N) (w := w) (b := b) (r := r) (k := 0) h1 a1 a3 (by omega) M0
    have g1 : mX1_number N (b + (3 * f + 27)) 1 (zc w b C M0 r) = _ := zf_number (N := N) (w := w) (b := b) (r := r) (k := 1) h1 a1 a3 (by omega) M0
    have e3 : mX1_drop N (b + (3 * f + 27)) 2 (zc w b C M0 r) = some (zc w b (zI C (f + 100) 2 (Int32.ofNat (16 + t))) M0 r) := zf_drop (N := N) (w := w) (b := b) (r := r) (t := t + 2) (k := 2) h1 a1 a3 (by omega) M0
    have k1 : (zI C (f + 100) 2 (Int32.ofNat (16 + t))).2.2 15 5 = .ref (b + (3 * f + 27)) := h2
    have e4 : ∀ v, mX1_pushNumber N (b + (3 * f + 27)) v (zc w b (zI C (f + 100) 2 (Int32.ofNat (16 + t))) M0 r) = some (zc w b (zPN (zI C (f + 100) 2 (Int32.ofNat (16 + t))) f t v) M0 r) := fun v => zf_pushNumber (t := t) h1 zp2_I2 (by omega) v M0
    have e5 : ∀ v, mX4_goOn N (b + 15) 1 (zc w b (zPN (zI C (f + 100) 2 (Int32.ofNat (16 + t))) f t v) M0 r) = some (zc w b (zI (zPN (zI C (f + 100) 2 (Int32.ofNat (16 + t))) f t v) (f + 100) 4 (Int32.ofNat (p + 1))) M0 r, 0) := fun v => zf_goOn (C := zPN (zI C (f + 100) 2 (Int32.ofNat (16 + t))) f t v) (n := 1) (p := p) h1 h2 (zp4_PN.trans (zp4_I2.trans a4)) M0
    simp (decide := true) only [mX4_step_107, mX4_step_249, mX4_step_0, mX4_step, mX4_reckon_172, mX4_reckon_145, mX4_reckon_118, mX4_reckon_117, mX4_reckon_91, mX4_reckon_82, mX4_reckon_61, mX4_reckon_11, mX4_reckon_0, mX4_reckon, e0, zqg_15_5 h2, zqkF h1, id, zqk_15, zqg_15_5 k1, g0, g1, e3, e4, e5, qX4_combined, pX4_combined, pX4_combined_0, Option.map_some, Int32.reduceLT, Int32.reduceLE, Int32.reduceAdd, Int32.reduceSub, Int32.reduceMul, Int32.reduceDiv, Int32.reduceMod, ↓reduceIte, Option.bind_some]
    rw [show 15 + (t + 2) - 0 = 16 + (t + 1) by omega, show 15 + (t + 2) - 1 = 16 + (t) by omega, n0.1, n1.1, Int64.toInt32_and]
  · have f0 : mX9_step N (b + 75) (zc w b C0 M r0) = mX9_step_74 N (b + 75) (Int32.ofNat f) (Int32.ofNat m) (Int32.ofNat p) 126 1 0 0 (zc w b C0 M r0) := zn_step (N := N) (w := w) hc hop (n := 1) rfl rfl rfl C0 r0
    have f1 : mX9_popValue N (b + 75) (zc w b C0 M r0) = some (zc w b C0 (zMD M f (t + 1)) r0, M.2 45 (12 * f + (t + 1))) := by
      have := zn_pop (N := N) (w := w) (b := b) (M := M) (t := t + 1) h1 h3 a2 (by omega) C0 r0
      exact this
    have f2 : mX9_popValue N (b + 75) (zc w b C0 (zMD M f (t + 1)) r0) = some (zc w b C0 (zMD M f (t)) r0, M.2 45 (12 * f + (t))) := by
      have := zn_pop (N := N) (w := w) (b := b) (M := (zMD M f (t + 1))) (t := t) h1 h3 zmd42 (by omega) C0 r0
      rw [zMDD] at this; exact this
    have f8 : ∀ v, mX9_pushValue N (b + 75) 1 v (zc w b C0 (zMD M f (t)) r0) = some (zc w b C0 (zMP (zMD M f (t)) f t 1 v) r0) := fun v => zn_push (N := N) (w := w) (b := b) (M := (zMD M f (t))) (t := t) h1 h3 zmd42 (by omega) 1 v C0 r0
    have f9 : ∀ v, mX9_step_327 N (b + 75) (Int32.ofNat f) (Int32.ofNat p) 1 (zc w b C0 (zMP (zMD M f (t)) f t 1 v) r0) = some (zc w b C0 (zJ (zMP (zMD M f (t)) f t 1 v) 41 f (Int32.ofNat (p + 1))) r0) := fun v => zn_on (N := N) (w := w) (b := b) (M := zMP (zMD M f (t)) f t 1 v) (p := p) (n := 1) h1 (zmp100.trans (zmd100.trans h4)) (zmp100.trans (zmd100.trans h5)) C0 r0
    refine f0.trans ?_
    simp (decide := true) only [mX9_step_74, mX9_doReckoning_352, mX9_doReckoning_244, mX9_doReckoning_229, mX9_doReckoning_210, mX9_doReckoning_302, mX9_doReckoning_279, mX9_doReckoning_274, mX9_doReckoning_192, mX9_doReckoning_144, mX9_doReckoning_138, mX9_doReckoning_0, mX9_doReckoning, zqk_75, f1, f2, f8, f9, id, qX9_ofInts, pX9_ofInts, pX9_ofInts_0, pX9_ofInts_188, pX9_ofInts_0, pX4_combined_0, Option.map_some, Int32.reduceLT, Int32.reduceLE, Int32.reduceAdd, Int32.reduceSub, Int32.reduceMul, Int32.reduceDiv, Int32.reduceMod, ↓reduceIte, Option.bind_some]
    rfl

theorem zo_128 (h : zCur b K D C M r ra f (t + 2) p m lt st μ) (hop : uC μ p = 128) (s0 : st (t + 1) = 1) (s1 : st (t) = 1) : zQ w b N D C M r ra f m (t + 1) (p + 1) lt (zset st t 1) := by
  have hc := h
  obtain ⟨h1, h2, h3, h4, h5, hfr, h7, h8, h9, h10, h11, h12⟩ := h
  have hd := hfr.drop (t' := t) (by omega)
  obtain ⟨a1, a2, a3, a4, a5, a6, a7, a8, a9⟩ := hfr
  have u0 := (a9 (t + 1) (by omega)).2.2.2
  rw [s0] at u0
  have n0 := u0.num (Or.inl rfl)
  have u1 := (a9 (t) (by omega)).2.2.2
  rw [s1] at u1
  have n1 := u1.num (Or.inl rfl)
  have hp := (hd.pushN (by omega) (zSl.mk1 ((M.2 45 (12 * f + t)).toInt32 ||| (M.2 45 (12 * f + (t + 1))).toInt32)) (Or.inl rfl)).go (p + 1)
  refine ⟨_, _, fun M0 => ?_, fun C0 r0 => ?_, hp, zTop.rf.i2.pn.i2, (zTopM.rf.d.p (by omega)).go⟩
  · have e0 : mX1_opcode N (b + (3 * f + 27)) (zc w b C M0 r) = some (zc w b C M0 r, 128) := ze_step0 (N := N) (w := w) hc hop M0
    have g0 : mX1_number N (b + (3 * f + 27)) 0 (zc w b C M0 r) = _ := zf_number (N := N) (w := w) (b := b) (r := r) (k := 0) h1 a1 a3 (by omega) M0
    have g1 : mX1_number N (b + (3 * f + 27)) 1 (zc w b C M0 r) = _ := zf_number (N := N) (w := w) (b := b) (r := r) (k := 1) h1 a1 a3 (by omega) M0
    have e3 : mX1_drop N (b + (3 * f + 27)) 2 (zc w b C M0 r) = some (zc w b (zI C (f + 100) 2 (Int32.ofNat (16 + t))) M0 r) := zf_drop (N := N) (w := w) (b := b) (r := r) (t := t + 2) (k := 2) h1 a1 a3 (by omega) M0
    have k1 : (zI C (f + 100) 2 (Int32.ofNat (16 + t))).2.2 15 5 = .ref (b + (3 * f + 27)) := h2
    have e4 : ∀ v, mX1_pushNumber N (b + (3 * f + 27)) v (zc w b (zI C (f + 100) 2 (Int32.ofNat (16 + t))) M0 r) = some (zc w b (zPN (zI C (f + 100) 2 (Int32.ofNat (16 + t))) f t v) M0 r) := fun v => zf_pushNumber (t := t) h1 zp2_I2 (by omega) v M0
    have e5 : ∀ v, mX4_goOn N (b + 15) 1 (zc w b (zPN (zI C (f + 100) 2 (Int32.ofNat (16 + t))) f t v) M0 r) = some (zc w b (zI (zPN (zI C (f + 100) 2 (Int32.ofNat (16 + t))) f t v) (f + 100) 4 (Int32.ofNat (p + 1))) M0 r, 0) := fun v => zf_goOn (C := zPN (zI C (f + 100) 2 (Int32.ofNat (16 + t))) f t v) (n := 1) (p := p) h1 h2 (zp4_PN.trans (zp4_I2.trans a4)) M0
    simp (decide := true) only [mX4_step_107, mX4_step_249, mX4_step_0, mX4_step, mX4_reckon_172, mX4_reckon_145, mX4_reckon_118, mX4_reckon_117, mX4_reckon_91, mX4_reckon_82, mX4_reckon_61, mX4_reckon_11, mX4_reckon_0, mX4_reckon, e0, zqg_15_5 h2, zqkF h1, id, zqk_15, zqg_15_5 k1, g0, g1, e3, e4, e5, qX4_combined, pX4_combined, pX4_combined_0, Option.map_some, Int32.reduceLT, Int32.reduceLE, Int32.reduceAdd, Int32.reduceSub, Int32.reduceMul, Int32.reduceDiv, Int32.reduceMod, ↓reduceIte, Option.bind_some]
    rw [show 15 + (t + 2) - 0 = 16 + (t + 1) by omega, show 15 + (t + 2) - 1 = 16 + (t) by omega, n0.1, n1.1, Int64.toInt32_or]
  · have f0 : mX9_step N (b + 75) (zc w b C0 M r0) = mX9_step_74 N (b + 75) (Int32.ofNat f) (Int32.ofNat m) (Int32.ofNat p) 128 1 0 0 (zc w b C0 M r0) := zn_step (N := N) (w := w) hc hop (n := 1) rfl rfl rfl C0 r0
    have f1 : mX9_popValue N (b + 75) (zc w b C0 M r0) = some (zc w b C0 (zMD M f (t + 1)) r0, M.2 45 (12 * f + (t + 1))) := by
      have := zn_pop (N := N) (w := w) (b := b) (M := M) (t := t + 1) h1 h3 a2 (by omega) C0 r0
      exact this
    have f2 : mX9_popValue N (b + 75) (zc w b C0 (zMD M f (t + 1)) r0) = some (zc w b C0 (zMD M f (t)) r0, M.2 45 (12 * f + (t))) := by
      have := zn_pop (N := N) (w := w) (b := b) (M := (zMD M f (t + 1))) (t := t) h1 h3 zmd42 (by omega) C0 r0
      rw [zMDD] at this; exact this
    have f8 : ∀ v, mX9_pushValue N (b + 75) 1 v (zc w b C0 (zMD M f (t)) r0) = some (zc w b C0 (zMP (zMD M f (t)) f t 1 v) r0) := fun v => zn_push (N := N) (w := w) (b := b) (M := (zMD M f (t))) (t := t) h1 h3 zmd42 (by omega) 1 v C0 r0
    have f9 : ∀ v, mX9_step_327 N (b + 75) (Int32.ofNat f) (Int32.ofNat p) 1 (zc w b C0 (zMP (zMD M f (t)) f t 1 v) r0) = some (zc w b C0 (zJ (zMP (zMD M f (t)) f t 1 v) 41 f (Int32.ofNat (p + 1))) r0) := fun v => zn_on (N := N) (w := w) (b := b) (M := zMP (zMD M f (t)) f t 1 v) (p := p) (n := 1) h1 (zmp100.trans (zmd100.trans h4)) (zmp100.trans (zmd100.trans h5)) C0 r0
    refine f0.trans ?_
    simp (decide := true) only [mX9_step_74, mX9_doReckoning_352, mX9_doReckoning_244, mX9_doReckoning_229, mX9_doReckoning_210, mX9_doReckoning_302, mX9_doReckoning_279, mX9_doReckoning_274, mX9_doReckoning_192, mX9_doReckoning_144, mX9_doReckoning_138, mX9_doReckoning_0, mX9_doReckoning, zqk_75, f1, f2, f8, f9, id, qX9_ofInts, pX9_ofInts, pX9_ofInts_0, pX9_ofInts_188, pX9_ofInts_0, pX4_combined_0, Option.map_some, Int32.reduceLT, Int32.reduceLE, Int32.reduceAdd, Int32.reduceSub, Int32.reduceMul, Int32.reduceDiv, Int32.reduceMod, ↓reduceIte, Option.bind_some]
    rfl

theorem zo_130 (h : zCur b K D C M r ra f (t + 2) p m lt st μ) (hop : uC μ p = 130) (s0 : st (t + 1) = 1) (s1 : st (t) = 1) : zQ w b N D C M r ra f m (t + 1) (p + 1) lt (zset st t 1) := by
  have hc := h
  obtain ⟨h1, h2, h3, h4, h5, hfr, h7, h8, h9, h10, h11, h12⟩ := h
  have hd := hfr.drop (t' := t) (by omega)
  obtain ⟨a1, a2, a3, a4, a5, a6, a7, a8, a9⟩ := hfr
  have u0 := (a9 (t + 1) (by omega)).2.2.2
  rw [s0] at u0
  have n0 := u0.num (Or.inl rfl)
  have u1 := (a9 (t) (by omega)).2.2.2
  rw [s1] at u1
  have n1 := u1.num (Or.inl rfl)
  have hp := (hd.pushN (by omega) (zSl.mk1 ((M.2 45 (12 * f + t)).toInt32 ^^^ (M.2 45 (12 * f + (t + 1))).toInt32)) (Or.inl rfl)).go (p + 1)
  refine ⟨_, _, fun M0 => ?_, fun C0 r0 => ?_, hp, zTop.rf.i2.pn.i2, (zTopM.rf.d.p (by omega)).go⟩
  · have e0 : mX1_opcode N (b + (3 * f + 27)) (zc w b C M0 r) = some (zc w b C M0 r, 130) := ze_step0 (N := N) (w := w) hc hop M0
    have g0 : mX1_number N (b + (3 * f + 27)) 0 (zc w b C M0 r) = _ := zf_number (N := N) (w := w) (b := b) (r := r) (k := 0) h1 a1 a3 (by omega) M0
    have g1 : mX1_number N (b + (3 * f + 27)) 1 (zc w b C M0 r) = _ := zf_number (N := N) (w := w) (b := b) (r := r) (k := 1) h1 a1 a3 (by omega) M0
    have e3 : mX1_drop N (b + (3 * f + 27)) 2 (zc w b C M0 r) = some (zc w b (zI C (f + 100) 2 (Int32.ofNat (16 + t))) M0 r) := zf_drop (N := N) (w := w) (b := b) (r := r) (t := t + 2) (k := 2) h1 a1 a3 (by omega) M0
    have k1 : (zI C (f + 100) 2 (Int32.ofNat (16 + t))).2.2 15 5 = .ref (b + (3 * f + 27)) := h2
    have e4 : ∀ v, mX1_pushNumber N (b + (3 * f + 27)) v (zc w b (zI C (f + 100) 2 (Int32.ofNat (16 + t))) M0 r) = some (zc w b (zPN (zI C (f + 100) 2 (Int32.ofNat (16 + t))) f t v) M0 r) := fun v => zf_pushNumber (t := t) h1 zp2_I2 (by omega) v M0
    have e5 : ∀ v, mX4_goOn N (b + 15) 1 (zc w b (zPN (zI C (f + 100) 2 (Int32.ofNat (16 + t))) f t v) M0 r) = some (zc w b (zI (zPN (zI C (f + 100) 2 (Int32.ofNat (16 + t))) f t v) (f + 100) 4 (Int32.ofNat (p + 1))) M0 r, 0) := fun v => zf_goOn (C := zPN (zI C (f + 100) 2 (Int32.ofNat (16 + t))) f t v) (n := 1) (p := p) h1 h2 (zp4_PN.trans (zp4_I2.trans a4)) M0
    simp (decide := true) only [mX4_step_107, mX4_step_249, mX4_step_0, mX4_step, mX4_reckon_172, mX4_reckon_145, mX4_reckon_118, mX4_reckon_117, mX4_reckon_91, mX4_reckon_82, mX4_reckon_61, mX4_reckon_11, mX4_reckon_0, mX4_reckon, e0, zqg_15_5 h2, zqkF h1, id, zqk_15, zqg_15_5 k1, g0, g1, e3, e4, e5, qX4_combined, pX4_combined, pX4_combined_0, Option.map_some, Int32.reduceLT, Int32.reduceLE, Int32.reduceAdd, Int32.reduceSub, Int32.reduceMul, Int32.reduceDiv, Int32.reduceMod, ↓reduceIte, Option.bind_some]
    rw [show 15 + (t + 2) - 0 = 16 + (t + 1) by omega, show 15 + (t + 2) - 1 = 16 + (t) by omega, n0.1, n1.1, Int64.toInt32_xor]
  · have f0 : mX9_step N (b + 75) (zc w b C0 M r0) = mX9_step_74 N (b + 75) (Int32.ofNat f) (Int32.ofNat m) (Int32.ofNat p) 130 1 0 0 (zc w b C0 M r0) := zn_step (N := N) (w := w) hc hop (n := 1) rfl rfl rfl C0 r0
    have f1 : mX9_popValue N (b + 75) (zc w b C0 M r0) = some (zc w b C0 (zMD M f (t + 1)) r0, M.2 45 (12 * f + (t + 1))) := by
      have := zn_pop (N := N) (w := w) (b := b) (M := M) (t := t + 1) h1 h3 a2 (by omega) C0 r0
      exact this
    have f2 : mX9_popValue N (b + 75) (zc w b C0 (zMD M f (t + 1)) r0) = some (zc w b C0 (zMD M f (t)) r0, M.2 45 (12 * f + (t))) := by
      have := zn_pop (N := N) (w := w) (b := b) (M := (zMD M f (t + 1))) (t := t) h1 h3 zmd42 (by omega) C0 r0
      rw [zMDD] at this; exact this
    have f8 : ∀ v, mX9_pushValue N (b + 75) 1 v (zc w b C0 (zMD M f (t)) r0) = some (zc w b C0 (zMP (zMD M f (t)) f t 1 v) r0) := fun v => zn_push (N := N) (w := w) (b := b) (M := (zMD M f (t))) (t := t) h1 h3 zmd42 (by omega) 1 v C0 r0
    have f9 : ∀ v, mX9_step_327 N (b + 75) (Int32.ofNat f) (Int32.ofNat p) 1 (zc w b C0 (zMP (zMD M f (t)) f t 1 v) r0) = some (zc w b C0 (zJ (zMP (zMD M f (t)) f t 1 v) 41 f (Int32.ofNat (p + 1))) r0) := fun v => zn_on (N := N) (w := w) (b := b) (M := zMP (zMD M f (t)) f t 1 v) (p := p) (n := 1) h1 (zmp100.trans (zmd100.trans h4)) (zmp100.trans (zmd100.trans h5)) C0 r0
    refine f0.trans ?_
    simp (decide := true) only [mX9_step_74, mX9_doReckoning_352, mX9_doReckoning_244, mX9_doReckoning_229, mX9_doReckoning_210, mX9_doReckoning_302, mX9_doReckoning_279, mX9_doReckoning_274, mX9_doReckoning_192, mX9_doReckoning_144, mX9_doReckoning_138, mX9_doReckoning_0, mX9_doReckoning, zqk_75, f1, f2, f8, f9, id, qX9_ofInts, pX9_ofInts, pX9_ofInts_0, pX9_ofInts_188, pX9_ofInts_0, pX4_combined_0, Option.map_some, Int32.reduceLT, Int32.reduceLE, Int32.reduceAdd, Int32.reduceSub, Int32.reduceMul, Int32.reduceDiv, Int32.reduceMod, ↓reduceIte, Option.bind_some]
    rfl

theorem zo_97 (h : zCur b K D C M r ra f (t + 2) p m lt st μ) (hop : uC μ p = 97) (s0 : st (t + 1) = 2) (s1 : st (t) = 2) : zQ w b N D C M r ra f m (t + 1) (p + 1) lt (zset st t 2) := by
  have hc := h
  obtain ⟨h1, h2, h3, h4, h5, hfr, h7, h8, h9, h10, h11, h12⟩ := h
  have hd := hfr.drop (t' := t) (by omega)
  obtain ⟨a1, a2, a3, a4, a5, a6, a7, a8, a9⟩ := hfr
  have u0 := (a9 (t + 1) (by omega)).2.2.2
  rw [s0] at u0
  have n0 := u0.num (Or.inr rfl)
  have u1 := (a9 (t) (by omega)).2.2.2
  rw [s1] at u1
  have n1 := u1.num (Or.inr rfl)
  have hp := (hd.pushN (by omega) (zSl.mk2 (M.2 45 (12 * f + t) + M.2 45 (12 * f + (t + 1)))) (Or.inr rfl)).go (p + 1)
  refine ⟨_, _, fun M0 => ?_, fun C0 r0 => ?_, hp, zTop.rf.i2.pn.i2, (zTopM.rf.d.p (by omega)).go⟩
  · have e0 : mX1_opcode N (b + (3 * f + 27)) (zc w b C M0 r) = some (zc w b C M0 r, 97) := ze_step0 (N := N) (w := w) hc hop M0
    have g0 : mX1_number N (b + (3 * f + 27)) 0 (zc w b C M0 r) = _ := zf_number (N := N) (w := w) (b := b) (r := r) (k := 0) h1 a1 a3 (by omega) M0
    have g1 : mX1_number N (b + (3 * f + 27)) 1 (zc w b C M0 r) = _ := zf_number (N := N) (w := w) (b := b) (r := r) (k := 1) h1 a1 a3 (by omega) M0
    have e3 : mX1_drop N (b + (3 * f + 27)) 2 (zc w b C M0 r) = some (zc w b (zI C (f + 100) 2 (Int32.ofNat (16 + t))) M0 r) := zf_drop (N := N) (w := w) (b := b) (r := r) (t := t + 2) (k := 2) h1 a1 a3 (by omega) M0
    have k1 : (zI C (f + 100) 2 (Int32.ofNat (16 + t))).2.2 15 5 = .ref (b + (3 * f + 27)) := h2
    have e4 : ∀ v, mX1_pushNumber N (b + (3 * f + 27)) v (zc w b (zI C (f + 100) 2 (Int32.ofNat (16 + t))) M0 r) = some (zc w b (zPN (zI C (f + 100) 2 (Int32.ofNat (16 + t))) f t v) M0 r) := fun v => zf_pushNumber (t := t) h1 zp2_I2 (by omega) v M0
    have e5 : ∀ v, mX4_goOn N (b + 15) 1 (zc w b (zPN (zI C (f + 100) 2 (Int32.ofNat (16 + t))) f t v) M0 r) = some (zc w b (zI (zPN (zI C (f + 100) 2 (Int32.ofNat (16 + t))) f t v) (f + 100) 4 (Int32.ofNat (p + 1))) M0 r, 0) := fun v => zf_goOn (C := zPN (zI C (f + 100) 2 (Int32.ofNat (16 + t))) f t v) (n := 1) (p := p) h1 h2 (zp4_PN.trans (zp4_I2.trans a4)) M0
    simp (decide := true) only [mX4_step_107, mX4_step_249, mX4_step_0, mX4_step, mX4_reckon_172, mX4_reckon_145, mX4_reckon_118, mX4_reckon_117, mX4_reckon_91, mX4_reckon_82, mX4_reckon_61, mX4_reckon_11, mX4_reckon_0, mX4_reckon, e0, zqg_15_5 h2, zqkF h1, id, zqk_15, zqg_15_5 k1, g0, g1, e3, e4, e5, qX4_combined, pX4_combined, pX4_combined_0, Option.map_some, Int32.reduceLT, Int32.reduceLE, Int32.reduceAdd, Int32.reduceSub, Int32.reduceMul, Int32.reduceDiv, Int32.reduceMod, ↓reduceIte, Option.bind_some]
    rw [show 15 + (t + 2) - 0 = 16 + (t + 1) by omega, show 15 + (t + 2) - 1 = 16 + (t) by omega, n0.1, n1.1]
  · have f0 : mX9_step N (b + 75) (zc w b C0 M r0) = mX9_step_74 N (b + 75) (Int32.ofNat f) (Int32.ofNat m) (Int32.ofNat p) 97 1 0 0 (zc w b C0 M r0) := zn_step (N := N) (w := w) hc hop (n := 1) rfl rfl rfl C0 r0
    have f1 : mX9_popValue N (b + 75) (zc w b C0 M r0) = some (zc w b C0 (zMD M f (t + 1)) r0, M.2 45 (12 * f + (t + 1))) := by
      have := zn_pop (N := N) (w := w) (b := b) (M := M) (t := t + 1) h1 h3 a2 (by omega) C0 r0
      exact this
    have f2 : mX9_popValue N (b + 75) (zc w b C0 (zMD M f (t + 1)) r0) = some (zc w b C0 (zMD M f (t)) r0, M.2 45 (12 * f + (t))) := by
      have := zn_pop (N := N) (w := w) (b := b) (M := (zMD M f (t + 1))) (t := t) h1 h3 zmd42 (by omega) C0 r0
      rw [zMDD] at this; exact this
    have f8 : ∀ v, mX9_pushValue N (b + 75) 2 v (zc w b C0 (zMD M f (t)) r0) = some (zc w b C0 (zMP (zMD M f (t)) f t 2 v) r0) := fun v => zn_push (N := N) (w := w) (b := b) (M := (zMD M f (t))) (t := t) h1 h3 zmd42 (by omega) 2 v C0 r0
    have f9 : ∀ v, mX9_step_327 N (b + 75) (Int32.ofNat f) (Int32.ofNat p) 1 (zc w b C0 (zMP (zMD M f (t)) f t 2 v) r0) = some (zc w b C0 (zJ (zMP (zMD M f (t)) f t 2 v) 41 f (Int32.ofNat (p + 1))) r0) := fun v => zn_on (N := N) (w := w) (b := b) (M := zMP (zMD M f (t)) f t 2 v) (p := p) (n := 1) h1 (zmp100.trans (zmd100.trans h4)) (zmp100.trans (zmd100.trans h5)) C0 r0
    refine f0.trans ?_
    simp (decide := true) only [mX9_step_74, mX9_doReckoning_352, mX9_doReckoning_244, mX9_doReckoning_229, mX9_doReckoning_210, mX9_doReckoning_302, mX9_doReckoning_279, mX9_doReckoning_274, mX9_doReckoning_192, mX9_doReckoning_144, mX9_doReckoning_138, mX9_doReckoning_0, mX9_doReckoning, zqk_75, f1, f2, f8, f9, id, qX9_ofLongs, pX9_ofLongs, pX9_ofLongs_191, pX9_ofLongs_0, Option.map_some, Int32.reduceLT, Int32.reduceLE, Int32.reduceAdd, Int32.reduceSub, Int32.reduceMul, Int32.reduceDiv, Int32.reduceMod, ↓reduceIte, Option.bind_some]
    rfl

theorem zo_101 (h : zCur b K D C M r ra f (t + 2) p m lt st μ) (hop : uC μ p = 101) (s0 : st (t + 1) = 2) (s1 : st (t) = 2) : zQ w b N D C M r ra f m (t + 1) (p + 1) lt (zset st t 2) := by
  have hc := h
  obtain ⟨h1, h2, h3, h4, h5, hfr, h7, h8, h9, h10, h11, h12⟩ := h
  have hd := hfr.drop (t' := t) (by omega)
  obtain ⟨a1, a2, a3, a4, a5, a6, a7, a8, a9⟩ := hfr
  have u0 := (a9 (t + 1) (by omega)).2.2.2
  rw [s0] at u0
  have n0 := u0.num (Or.inr rfl)
  have u1 := (a9 (t) (by omega)).2.2.2
  rw [s1] at u1
  have n1 := u1.num (Or.inr rfl)
  have hp := (hd.pushN (by omega) (zSl.mk2 (M.2 45 (12 * f + t) - M.2 45 (12 * f + (t + 1)))) (Or.inr rfl)).go (p + 1)
  refine ⟨_, _, fun M0 => ?_, fun C0 r0 => ?_, hp, zTop.rf.i2.pn.i2, (zTopM.rf.d.p (by omega)).go⟩
  · have e0 : mX1_opcode N (b + (3 * f + 27)) (zc w b C M0 r) = some (zc w b C M0 r, 101) := ze_step0 (N := N) (w := w) hc hop M0
    have g0 : mX1_number N (b + (3 * f + 27)) 0 (zc w b C M0 r) = _ := zf_number (N := N) (w := w) (b := b) (r := r) (k := 0) h1 a1 a3 (by omega) M0
    have g1 : mX1_number N (b + (3 * f + 27)) 1 (zc w b C M0 r) = _ := zf_number (N := N) (w := w) (b := b) (r := r) (k := 1) h1 a1 a3 (by omega) M0
    have e3 : mX1_drop N (b + (3 * f + 27)) 2 (zc w b C M0 r) = some (zc w b (zI C (f + 100) 2 (Int32.ofNat (16 + t))) M0 r) := zf_drop (N := N) (w := w) (b := b) (r := r) (t := t + 2) (k := 2) h1 a1 a3 (by omega) M0
    have k1 : (zI C (f + 100) 2 (Int32.ofNat (16 + t))).2.2 15 5 = .ref (b + (3 * f + 27)) := h2
    have e4 : ∀ v, mX1_pushNumber N (b + (3 * f + 27)) v (zc w b (zI C (f + 100) 2 (Int32.ofNat (16 + t))) M0 r) = some (zc w b (zPN (zI C (f + 100) 2 (Int32.ofNat (16 + t))) f t v) M0 r) := fun v => zf_pushNumber (t := t) h1 zp2_I2 (by omega) v M0
    have e5 : ∀ v, mX4_goOn N (b + 15) 1 (zc w b (zPN (zI C (f + 100) 2 (Int32.ofNat (16 + t))) f t v) M0 r) = some (zc w b (zI (zPN (zI C (f + 100) 2 (Int32.ofNat (16 + t))) f t v) (f + 100) 4 (Int32.ofNat (p + 1))) M0 r, 0) := fun v => zf_goOn (C := zPN (zI C (f + 100) 2 (Int32.ofNat (16 + t))) f t v) (n := 1) (p := p) h1 h2 (zp4_PN.trans (zp4_I2.trans a4)) M0
    simp (decide := true) only [mX4_step_107, mX4_step_249, mX4_step_0, mX4_step, mX4_reckon_172, mX4_reckon_145, mX4_reckon_118, mX4_reckon_117, mX4_reckon_91, mX4_reckon_82, mX4_reckon_61, mX4_reckon_11, mX4_reckon_0, mX4_reckon, e0, zqg_15_5 h2, zqkF h1, id, zqk_15, zqg_15_5 k1, g0, g1, e3, e4, e5, qX4_combined, pX4_combined, pX4_combined_0, Option.map_some, Int32.reduceLT, Int32.reduceLE, Int32.reduceAdd, Int32.reduceSub, Int32.reduceMul, Int32.reduceDiv, Int32.reduceMod, ↓reduceIte, Option.bind_some]
    rw [show 15 + (t + 2) - 0 = 16 + (t + 1) by omega, show 15 + (t + 2) - 1 = 16 + (t) by omega, n0.1, n1.1]
  · have f0 : mX9_step N (b + 75) (zc w b C0 M r0) = mX9_step_74 N (b + 75) (Int32.ofNat f) (Int32.ofNat m) (Int32.ofNat p) 101 1 0 0 (zc w b C0 M r0) := zn_step (N := N) (w := w) hc hop (n := 1) rfl rfl rfl C0 r0
    have f1 : mX9_popValue N (b + 75) (zc w b C0 M r0) = some (zc w b C0 (zMD M f (t + 1)) r0, M.2 45 (12 * f + (t + 1))) := by
      have := zn_pop (N := N) (w := w) (b := b) (M := M) (t := t + 1) h1 h3 a2 (by omega) C0 r0
      exact this
    have f2 : mX9_popValue N (b + 75) (zc w b C0 (zMD M f (t + 1)) r0) = some (zc w b C0 (zMD M f (t)) r0, M.2 45 (12 * f + (t))) := by
      have := zn_pop (N := N) (w := w) (b := b) (M := (zMD M f (t + 1))) (t := t) h1 h3 zmd42 (by omega) C0 r0
      rw [zMDD] at this; exact this
    have f8 : ∀ v, mX9_pushValue N (b + 75) 2 v (zc w b C0 (zMD M f (t)) r0) = some (zc w b C0 (zMP (zMD M f (t)) f t 2 v) r0) := fun v => zn_push (N := N) (w := w) (b := b) (M := (zMD M f (t))) (t := t) h1 h3 zmd42 (by omega) 2 v C0 r0
    have f9 : ∀ v, mX9_step_327 N (b + 75) (Int32.ofNat f) (Int32.ofNat p) 1 (zc w b C0 (zMP (zMD M f (t)) f t 2 v) r0) = some (zc w b C0 (zJ (zMP (zMD M f (t)) f t 2 v) 41 f (Int32.ofNat (p + 1))) r0) := fun v => zn_on (N := N) (w := w) (b := b) (M := zMP (zMD M f (t)) f t 2 v) (p := p) (n := 1) h1 (zmp100.trans (zmd100.trans h4)) (zmp100.trans (zmd100.trans h5)) C0 r0
    refine f0.trans ?_
    simp (decide := true) only [mX9_step_74, mX9_doReckoning_352, mX9_doReckoning_244, mX9_doReckoning_229, mX9_doReckoning_210, mX9_doReckoning_302, mX9_doReckoning_279, mX9_doReckoning_274, mX9_doReckoning_192, mX9_doReckoning_144, mX9_doReckoning_138, mX9_doReckoning_0, mX9_doReckoning, zqk_75, f1, f2, f8, f9, id, qX9_ofLongs, pX9_ofLongs, pX9_ofLongs_191, pX9_ofLongs_0, Option.map_some, Int32.reduceLT, Int32.reduceLE, Int32.reduceAdd, Int32.reduceSub, Int32.reduceMul, Int32.reduceDiv, Int32.reduceMod, ↓reduceIte, Option.bind_some]
    rfl

theorem zo_105 (h : zCur b K D C M r ra f (t + 2) p m lt st μ) (hop : uC μ p = 105) (s0 : st (t + 1) = 2) (s1 : st (t) = 2) : zQ w b N D C M r ra f m (t + 1) (p + 1) lt (zset st t 2) := by
  have hc := h
  obtain ⟨h1, h2, h3, h4, h5, hfr, h7, h8, h9, h10, h11, h12⟩ := h
  have hd := hfr.drop (t' := t) (by omega)
  obtain ⟨a1, a2, a3, a4, a5, a6, a7, a8, a9⟩ := hfr
  have u0 := (a9 (t + 1) (by omega)).2.2.2
  rw [s0] at u0
  have n0 := u0.num (Or.inr rfl)
  have u1 := (a9 (t) (by omega)).2.2.2
  rw [s1] at u1
  have n1 := u1.num (Or.inr rfl)
  have hp := (hd.pushN (by omega) (zSl.mk2 (M.2 45 (12 * f + t) * M.2 45 (12 * f + (t + 1)))) (Or.inr rfl)).go (p + 1)
  refine ⟨_, _, fun M0 => ?_, fun C0 r0 => ?_, hp, zTop.rf.i2.pn.i2, (zTopM.rf.d.p (by omega)).go⟩
  · have e0 : mX1_opcode N (b + (3 * f + 27)) (zc w b C M0 r) = some (zc w b C M0 r, 105) := ze_step0 (N := N) (w := w) hc hop M0
    have g0 : mX1_number N (b + (3 * f + 27)) 0 (zc w b C M0 r) = _ := zf_number (N := N) (w := w) (b := b) (r := r) (k := 0) h1 a1 a3 (by omega) M0
    have g1 : mX1_number N (b + (3 * f + 27)) 1 (zc w b C M0 r) = _ := zf_number (N := N) (w := w) (b := b) (r := r) (k := 1) h1 a1 a3 (by omega) M0
    have e3 : mX1_drop N (b + (3 * f + 27)) 2 (zc w b C M0 r) = some (zc w b (zI C (f + 100) 2 (Int32.ofNat (16 + t))) M0 r) := zf_drop (N := N) (w := w) (b := b) (r := r) (t := t + 2) (k := 2) h1 a1 a3 (by omega) M0
    have k1 : (zI C (f + 100) 2 (Int32.ofNat (16 + t))).2.2 15 5 = .ref (b + (3 * f + 27)) := h2
    have e4 : ∀ v, mX1_pushNumber N (b + (3 * f + 27)) v (zc w b (zI C (f + 100) 2 (Int32.ofNat (16 + t))) M0 r) = some (zc w b (zPN (zI C (f + 100) 2 (Int32.ofNat (16 + t))) f t v) M0 r) := fun v => zf_pushNumber (t := t) h1 zp2_I2 (by omega) v M0
    have e5 : ∀ v, mX4_goOn N (b + 15) 1 (zc w b (zPN (zI C (f + 100) 2 (Int32.ofNat (16 + t))) f t v) M0 r) = some (zc w b (zI (zPN (zI C (f + 100) 2 (Int32.ofNat (16 + t))) f t v) (f + 100) 4 (Int32.ofNat (p + 1))) M0 r, 0) := fun v => zf_goOn (C := zPN (zI C (f + 100) 2 (Int32.ofNat (16 + t))) f t v) (n := 1) (p := p) h1 h2 (zp4_PN.trans (zp4_I2.trans a4)) M0
    simp (decide := true) only [mX4_step_107, mX4_step_249, mX4_step_0, mX4_step, mX4_reckon_172, mX4_reckon_145, mX4_reckon_118, mX4_reckon_117, mX4_reckon_91, mX4_reckon_82, mX4_reckon_61, mX4_reckon_11, mX4_reckon_0, mX4_reckon, e0, zqg_15_5 h2, zqkF h1, id, zqk_15, zqg_15_5 k1, g0, g1, e3, e4, e5, qX4_combined, pX4_combined, pX4_combined_0, Option.map_some, Int32.reduceLT, Int32.reduceLE, Int32.reduceAdd, Int32.reduceSub, Int32.reduceMul, Int32.reduceDiv, Int32.reduceMod, ↓reduceIte, Option.bind_some]
    rw [show 15 + (t + 2) - 0 = 16 + (t + 1) by omega, show 15 + (t + 2) - 1 = 16 + (t) by omega, n0.1, n1.1]
  · have f0 : mX9_step N (b + 75) (zc w b C0 M r0) = mX9_step_74 N (b + 75) (Int32.ofNat f) (Int32.ofNat m) (Int32.ofNat p) 105 1 0 0 (zc w b C0 M r0) := zn_step (N := N) (w := w) hc hop (n := 1) rfl rfl rfl C0 r0
    have f1 : mX9_popValue N (b + 75) (zc w b C0 M r0) = some (zc w b C0 (zMD M f (t + 1)) r0, M.2 45 (12 * f + (t + 1))) := by
      have := zn_pop (N := N) (w := w) (b := b) (M := M) (t := t + 1) h1 h3 a2 (by omega) C0 r0
      exact this
    have f2 : mX9_popValue N (b + 75) (zc w b C0 (zMD M f (t + 1)) r0) = some (zc w b C0 (zMD M f (t)) r0, M.2 45 (12 * f + (t))) := by
      have := zn_pop (N := N) (w := w) (b := b) (M := (zMD M f (t + 1))) (t := t) h1 h3 zmd42 (by omega) C0 r0
      rw [zMDD] at this; exact this
    have f8 : ∀ v, mX9_pushValue N (b + 75) 2 v (zc w b C0 (zMD M f (t)) r0) = some (zc w b C0 (zMP (zMD M f (t)) f t 2 v) r0) := fun v => zn_push (N := N) (w := w) (b := b) (M := (zMD M f (t))) (t := t) h1 h3 zmd42 (by omega) 2 v C0 r0
    have f9 : ∀ v, mX9_step_327 N (b + 75) (Int32.ofNat f) (Int32.ofNat p) 1 (zc w b C0 (zMP (zMD M f (t)) f t 2 v) r0) = some (zc w b C0 (zJ (zMP (zMD M f (t)) f t 2 v) 41 f (Int32.ofNat (p + 1))) r0) := fun v => zn_on (N := N) (w := w) (b := b) (M := zMP (zMD M f (t)) f t 2 v) (p := p) (n := 1) h1 (zmp100.trans (zmd100.trans h4)) (zmp100.trans (zmd100.trans h5)) C0 r0
    refine f0.trans ?_
    simp (decide := true) only [mX9_step_74, mX9_doReckoning_352, mX9_doReckoning_244, mX9_doReckoning_229, mX9_doReckoning_210, mX9_doReckoning_302, mX9_doReckoning_279, mX9_doReckoning_274, mX9_doReckoning_192, mX9_doReckoning_144, mX9_doReckoning_138, mX9_doReckoning_0, mX9_doReckoning, zqk_75, f1, f2, f8, f9, id, qX9_ofLongs, pX9_ofLongs, pX9_ofLongs_191, pX9_ofLongs_0, Option.map_some, Int32.reduceLT, Int32.reduceLE, Int32.reduceAdd, Int32.reduceSub, Int32.reduceMul, Int32.reduceDiv, Int32.reduceMod, ↓reduceIte, Option.bind_some]
    rfl

theorem zo_127 (h : zCur b K D C M r ra f (t + 2) p m lt st μ) (hop : uC μ p = 127) (s0 : st (t + 1) = 2) (s1 : st (t) = 2) : zQ w b N D C M r ra f m (t + 1) (p + 1) lt (zset st t 2) := by
  have hc := h
  obtain ⟨h1, h2, h3, h4, h5, hfr, h7, h8, h9, h10, h11, h12⟩ := h
  have hd := hfr.drop (t' := t) (by omega)
  obtain ⟨a1, a2, a3, a4, a5, a6, a7, a8, a9⟩ := hfr
  have u0 := (a9 (t + 1) (by omega)).2.2.2
  rw [s0] at u0
  have n0 := u0.num (Or.inr rfl)
  have u1 := (a9 (t) (by omega)).2.2.2
  rw [s1] at u1
  have n1 := u1.num (Or.inr rfl)
  have hp := (hd.pushN (by omega) (zSl.mk2 (M.2 45 (12 * f + t) &&& M.2 45 (12 * f + (t + 1)))) (Or.inr rfl)).go (p + 1)
  refine ⟨_, _, fun M0 => ?_, fun C0 r0 => ?_, hp, zTop.rf.i2.pn.i2, (zTopM.rf.d.p (by omega)).go⟩
  · have e0 : mX1_opcode N (b + (3 * f + 27)) (zc w b C M0 r) = some (zc w b C M0 r, 127) := ze_step0 (N := N) (w := w) hc hop M0
    have g0 : mX1_number N (b + (3 * f + 27)) 0 (zc w b C M0 r) = _ := zf_number (N := N) (w := w) (b := b) (r := r) (k := 0) h1 a1 a3 (by omega) M0
    have g1 : mX1_number N (b + (3 * f + 27)) 1 (zc w b C M0 r) = _ := zf_number (N := N) (w := w) (b := b) (r := r) (k := 1) h1 a1 a3 (by omega) M0
    have e3 : mX1_drop N (b + (3 * f + 27)) 2 (zc w b C M0 r) = some (zc w b (zI C (f + 100) 2 (Int32.ofNat (16 + t))) M0 r) := zf_drop (N := N) (w := w) (b := b) (r := r) (t := t + 2) (k := 2) h1 a1 a3 (by omega) M0
    have k1 : (zI C (f + 100) 2 (Int32.ofNat (16 + t))).2.2 15 5 = .ref (b + (3 * f + 27)) := h2
    have e4 : ∀ v, mX1_pushNumber N (b + (3 * f + 27)) v (zc w b (zI C (f + 100) 2 (Int32.ofNat (16 + t))) M0 r) = some (zc w b (zPN (zI C (f + 100) 2 (Int32.ofNat (16 + t))) f t v) M0 r) := fun v => zf_pushNumber (t := t) h1 zp2_I2 (by omega) v M0
    have e5 : ∀ v, mX4_goOn N (b + 15) 1 (zc w b (zPN (zI C (f + 100) 2 (Int32.ofNat (16 + t))) f t v) M0 r) = some (zc w b (zI (zPN (zI C (f + 100) 2 (Int32.ofNat (16 + t))) f t v) (f + 100) 4 (Int32.ofNat (p + 1))) M0 r, 0) := fun v => zf_goOn (C := zPN (zI C (f + 100) 2 (Int32.ofNat (16 + t))) f t v) (n := 1) (p := p) h1 h2 (zp4_PN.trans (zp4_I2.trans a4)) M0
    simp (decide := true) only [mX4_step_107, mX4_step_249, mX4_step_0, mX4_step, mX4_reckon_172, mX4_reckon_145, mX4_reckon_118, mX4_reckon_117, mX4_reckon_91, mX4_reckon_82, mX4_reckon_61, mX4_reckon_11, mX4_reckon_0, mX4_reckon, e0, zqg_15_5 h2, zqkF h1, id, zqk_15, zqg_15_5 k1, g0, g1, e3, e4, e5, qX4_combined, pX4_combined, pX4_combined_0, Option.map_some, Int32.reduceLT, Int32.reduceLE, Int32.reduceAdd, Int32.reduceSub, Int32.reduceMul, Int32.reduceDiv, Int32.reduceMod, ↓reduceIte, Option.bind_some]
    rw [show 15 + (t + 2) - 0 = 16 + (t + 1) by omega, show 15 + (t + 2) - 1 = 16 + (t) by omega, n0.1, n1.1]
  · have f0 : mX9_step N (b + 75) (zc w b C0 M r0) = mX9_step_74 N (b + 75) (Int32.ofNat f) (Int32.ofNat m) (Int32.ofNat p) 127 1 0 0 (zc w b C0 M r0) := zn_step (N := N) (w := w) hc hop (n := 1) rfl rfl rfl C0 r0
    have f1 : mX9_popValue N (b + 75) (zc w b C0 M r0) = some (zc w b C0 (zMD M f (t + 1)) r0, M.2 45 (12 * f + (t + 1))) := by
      have := zn_pop (N := N) (w := w) (b := b) (M := M) (t := t + 1) h1 h3 a2 (by omega) C0 r0
      exact this
    have f2 : mX9_popValue N (b + 75) (zc w b C0 (zMD M f (t + 1)) r0) = some (zc w b C0 (zMD M f (t)) r0, M.2 45 (12 * f + (t))) := by
      have := zn_pop (N := N) (w := w) (b := b) (M := (zMD M f (t + 1))) (t := t) h1 h3 zmd42 (by omega) C0 r0
      rw [zMDD] at this; exact this
    have f8 : ∀ v, mX9_pushValue N (b + 75) 2 v (zc w b C0 (zMD M f (t)) r0) = some (zc w b C0 (zMP (zMD M f (t)) f t 2 v) r0) := fun v => zn_push (N := N) (w := w) (b := b) (M := (zMD M f (t))) (t := t) h1 h3 zmd42 (by omega) 2 v C0 r0
    have f9 : ∀ v, mX9_step_327 N (b + 75) (Int32.ofNat f) (Int32.ofNat p) 1 (zc w b C0 (zMP (zMD M f (t)) f t 2 v) r0) = some (zc w b C0 (zJ (zMP (zMD M f (t)) f t 2 v) 41 f (Int32.ofNat (p + 1))) r0) := fun v => zn_on (N := N) (w := w) (b := b) (M := zMP (zMD M f (t)) f t 2 v) (p := p) (n := 1) h1 (zmp100.trans (zmd100.trans h4)) (zmp100.trans (zmd100.trans h5)) C0 r0
    refine f0.trans ?_
    simp (decide := true) only [mX9_step_74, mX9_doReckoning_352, mX9_doReckoning_244, mX9_doReckoning_229, mX9_doReckoning_210, mX9_doReckoning_302, mX9_doReckoning_279, mX9_doReckoning_274, mX9_doReckoning_192, mX9_doReckoning_144, mX9_doReckoning_138, mX9_doReckoning_0, mX9_doReckoning, zqk_75, f1, f2, f8, f9, id, qX9_ofLongs, pX9_ofLongs, pX9_ofLongs_191, pX9_ofLongs_0, Option.map_some, Int32.reduceLT, Int32.reduceLE, Int32.reduceAdd, Int32.reduceSub, Int32.reduceMul, Int32.reduceDiv, Int32.reduceMod, ↓reduceIte, Option.bind_some]
    rfl

theorem zo_129 (h : zCur b K D C M r ra f (t + 2) p m lt st μ) (hop : uC μ p = 129) (s0 : st (t + 1) = 2) (s1 : st (t) = 2) : zQ w b N D C M r ra f m (t + 1) (p + 1) lt (zset st t 2) := by
  have hc := h
  obtain ⟨h1, h2, h3, h4, h5, hfr, h7, h8, h9, h10, h11, h12⟩ := h
  have hd := hfr.drop (t' := t) (by omega)
  obtain ⟨a1, a2, a3, a4, a5, a6, a7, a8, a9⟩ := hfr
  have u0 := (a9 (t + 1) (by omega)).2.2.2
  rw [s0] at u0
  have n0 := u0.num (Or.inr rfl)
  have u1 := (a9 (t) (by omega)).2.2.2
  rw [s1] at u1
  have n1 := u1.num (Or.inr rfl)
  have hp := (hd.pushN (by omega) (zSl.mk2 (M.2 45 (12 * f + t) ||| M.2 45 (12 * f + (t + 1)))) (Or.inr rfl)).go (p + 1)
  refine ⟨_, _, fun M0 => ?_, fun C0 r0 => ?_, hp, zTop.rf.i2.pn.i2, (zTopM.rf.d.p (by omega)).go⟩
  · have e0 : mX1_opcode N (b + (3 * f + 27)) (zc w b C M0 r) = some (zc w b C M0 r, 129) := ze_step0 (N := N) (w := w) hc hop M0
    have g0 : mX1_number N (b + (3 * f + 27)) 0 (zc w b C M0 r) = _ := zf_number (N := N) (w := w) (b := b) (r := r) (k := 0) h1 a1 a3 (by omega) M0
    have g1 : mX1_number N (b + (3 * f + 27)) 1 (zc w b C M0 r) = _ := zf_number (N := N) (w := w) (b := b) (r := r) (k := 1) h1 a1 a3 (by omega) M0
    have e3 : mX1_drop N (b + (3 * f + 27)) 2 (zc w b C M0 r) = some (zc w b (zI C (f + 100) 2 (Int32.ofNat (16 + t))) M0 r) := zf_drop (N := N) (w := w) (b := b) (r := r) (t := t + 2) (k := 2) h1 a1 a3 (by omega) M0
    have k1 : (zI C (f + 100) 2 (Int32.ofNat (16 + t))).2.2 15 5 = .ref (b + (3 * f + 27)) := h2
    have e4 : ∀ v, mX1_pushNumber N (b + (3 * f + 27)) v (zc w b (zI C (f + 100) 2 (Int32.ofNat (16 + t))) M0 r) = some (zc w b (zPN (zI C (f + 100) 2 (Int32.ofNat (16 + t))) f t v) M0 r) := fun v => zf_pushNumber (t := t) h1 zp2_I2 (by omega) v M0
    have e5 : ∀ v, mX4_goOn N (b + 15) 1 (zc w b (zPN (zI C (f + 100) 2 (Int32.ofNat (16 + t))) f t v) M0 r) = some (zc w b (zI (zPN (zI C (f + 100) 2 (Int32.ofNat (16 + t))) f t v) (f + 100) 4 (Int32.ofNat (p + 1))) M0 r, 0) := fun v => zf_goOn (C := zPN (zI C (f + 100) 2 (Int32.ofNat (16 + t))) f t v) (n := 1) (p := p) h1 h2 (zp4_PN.trans (zp4_I2.trans a4)) M0
    simp (decide := true) only [mX4_step_107, mX4_step_249, mX4_step_0, mX4_step, mX4_reckon_172, mX4_reckon_145, mX4_reckon_118, mX4_reckon_117, mX4_reckon_91, mX4_reckon_82, mX4_reckon_61, mX4_reckon_11, mX4_reckon_0, mX4_reckon, e0, zqg_15_5 h2, zqkF h1, id, zqk_15, zqg_15_5 k1, g0, g1, e3, e4, e5, qX4_combined, pX4_combined, pX4_combined_0, Option.map_some, Int32.reduceLT, Int32.reduceLE, Int32.reduceAdd, Int32.reduceSub, Int32.reduceMul, Int32.reduceDiv, Int32.reduceMod, ↓reduceIte, Option.bind_some]
    rw [show 15 + (t + 2) - 0 = 16 + (t + 1) by omega, show 15 + (t + 2) - 1 = 16 + (t) by omega, n0.1, n1.1]
  · have f0 : mX9_step N (b + 75) (zc w b C0 M r0) = mX9_step_74 N (b + 75) (Int32.ofNat f) (Int32.ofNat m) (Int32.ofNat p) 129 1 0 0 (zc w b C0 M r0) := zn_step (N := N) (w := w) hc hop (n := 1) rfl rfl rfl C0 r0
    have f1 : mX9_popValue N (b + 75) (zc w b C0 M r0) = some (zc w b C0 (zMD M f (t + 1)) r0, M.2 45 (12 * f + (t + 1))) := by
      have := zn_pop (N := N) (w := w) (b := b) (M := M) (t := t + 1) h1 h3 a2 (by omega) C0 r0
      exact this
    have f2 : mX9_popValue N (b + 75) (zc w b C0 (zMD M f (t + 1)) r0) = some (zc w b C0 (zMD M f (t)) r0, M.2 45 (12 * f + (t))) := by
      have := zn_pop (N := N) (w := w) (b := b) (M := (zMD M f (t + 1))) (t := t) h1 h3 zmd42 (by omega) C0 r0
      rw [zMDD] at this; exact this
    have f8 : ∀ v, mX9_pushValue N (b + 75) 2 v (zc w b C0 (zMD M f (t)) r0) = some (zc w b C0 (zMP (zMD M f (t)) f t 2 v) r0) := fun v => zn_push (N := N) (w := w) (b := b) (M := (zMD M f (t))) (t := t) h1 h3 zmd42 (by omega) 2 v C0 r0
    have f9 : ∀ v, mX9_step_327 N (b + 75) (Int32.ofNat f) (Int32.ofNat p) 1 (zc w b C0 (zMP (zMD M f (t)) f t 2 v) r0) = some (zc w b C0 (zJ (zMP (zMD M f (t)) f t 2 v) 41 f (Int32.ofNat (p + 1))) r0) := fun v => zn_on (N := N) (w := w) (b := b) (M := zMP (zMD M f (t)) f t 2 v) (p := p) (n := 1) h1 (zmp100.trans (zmd100.trans h4)) (zmp100.trans (zmd100.trans h5)) C0 r0
    refine f0.trans ?_
    simp (decide := true) only [mX9_step_74, mX9_doReckoning_352, mX9_doReckoning_244, mX9_doReckoning_229, mX9_doReckoning_210, mX9_doReckoning_302, mX9_doReckoning_279, mX9_doReckoning_274, mX9_doReckoning_192, mX9_doReckoning_144, mX9_doReckoning_138, mX9_doReckoning_0, mX9_doReckoning, zqk_75, f1, f2, f8, f9, id, qX9_ofLongs, pX9_ofLongs, pX9_ofLongs_191, pX9_ofLongs_0, Option.map_some, Int32.reduceLT, Int32.reduceLE, Int32.reduceAdd, Int32.reduceSub, Int32.reduceMul, Int32.reduceDiv, Int32.reduceMod, ↓reduceIte, Option.bind_some]
    rfl

theorem zo_131 (h : zCur b K D C M r ra f (t + 2) p m lt st μ) (hop : uC μ p = 131) (s0 : st (t + 1) = 2) (s1 : st (t) = 2) : zQ w b N D C M r ra f m (t + 1) (p + 1) lt (zset st t 2) := by
  have hc := h
  obtain ⟨h1, h2, h3, h4, h5, hfr, h7, h8, h9, h10, h11, h12⟩ := h
  have hd := hfr.drop (t' := t) (by omega)
  obtain ⟨a1, a2, a3, a4, a5, a6, a7, a8, a9⟩ := hfr
  have u0 := (a9 (t + 1) (by omega)).2.2.2
  rw [s0] at u0
  have n0 := u0.num (Or.inr rfl)
  have u1 := (a9 (t) (by omega)).2.2.2
  rw [s1] at u1
  have n1 := u1.num (Or.inr rfl)
  have hp := (hd.pushN (by omega) (zSl.mk2 (M.2 45 (12 * f + t) ^^^ M.2 45 (12 * f + (t + 1)))) (Or.inr rfl)).go (p + 1)
  refine ⟨_, _, fun M0 => ?_, fun C0 r0 => ?_, hp, zTop.rf.i2.pn.i2, (zTopM.rf.d.p (by omega)).go⟩
  · have e0 : mX1_opcode N (b + (3 * f + 27)) (zc w b C M0 r) = some (zc w b C M0 r, 131) := ze_step0 (N := N) (w := w) hc hop M0
    have g0 : mX1_number N (b + (3 * f + 27)) 0 (zc w b C M0 r) = _ := zf_number (N := N) (w := w) (b := b) (r := r) (k := 0) h1 a1 a3 (by omega) M0
    have g1 : mX1_number N (b + (3 * f + 27)) 1 (zc w b C M0 r) = _ := zf_number (N := N) (w := w) (b := b) (r := r) (k := 1) h1 a1 a3 (by omega) M0
    have e3 : mX1_drop N (b + (3 * f + 27)) 2 (zc w b C M0 r) = some (zc w b (zI C (f + 100) 2 (Int32.ofNat (16 + t))) M0 r) := zf_drop (N := N) (w := w) (b := b) (r := r) (t := t + 2) (k := 2) h1 a1 a3 (by omega) M0
    have k1 : (zI C (f + 100) 2 (Int32.ofNat (16 + t))).2.2 15 5 = .ref (b + (3 * f + 27)) := h2
    have e4 : ∀ v, mX1_pushNumber N (b + (3 * f + 27)) v (zc w b (zI C (f + 100) 2 (Int32.ofNat (16 + t))) M0 r) = some (zc w b (zPN (zI C (f + 100) 2 (Int32.ofNat (16 + t))) f t v) M0 r) := fun v => zf_pushNumber (t := t) h1 zp2_I2 (by omega) v M0
    have e5 : ∀ v, mX4_goOn N (b + 15) 1 (zc w b (zPN (zI C (f + 100) 2 (Int32.ofNat (16 + t))) f t v) M0 r) = some (zc w b (zI (zPN (zI C (f + 100) 2 (Int32.ofNat (16 + t))) f t v) (f + 100) 4 (Int32.ofNat (p + 1))) M0 r, 0) := fun v => zf_goOn (C := zPN (zI C (f + 100) 2 (Int32.ofNat (16 + t))) f t v) (n := 1) (p := p) h1 h2 (zp4_PN.trans (zp4_I2.trans a4)) M0
    simp (decide := true) only [mX4_step_107, mX4_step_249, mX4_step_0, mX4_step, mX4_reckon_172, mX4_reckon_145, mX4_reckon_118, mX4_reckon_117, mX4_reckon_91, mX4_reckon_82, mX4_reckon_61, mX4_reckon_11, mX4_reckon_0, mX4_reckon, e0, zqg_15_5 h2, zqkF h1, id, zqk_15, zqg_15_5 k1, g0, g1, e3, e4, e5, qX4_combined, pX4_combined, pX4_combined_0, Option.map_some, Int32.reduceLT, Int32.reduceLE, Int32.reduceAdd, Int32.reduceSub, Int32.reduceMul, Int32.reduceDiv, Int32.reduceMod, ↓reduceIte, Option.bind_some]
    rw [show 15 + (t + 2) - 0 = 16 + (t + 1) by omega, show 15 + (t + 2) - 1 = 16 + (t) by omega, n0.1, n1.1]
  · have f0 : mX9_step N (b + 75) (zc w b C0 M r0) = mX9_step_74 N (b + 75) (Int32.ofNat f) (Int32.ofNat m) (Int32.ofNat p) 131 1 0 0 (zc w b C0 M r0) := zn_step (N := N) (w := w) hc hop (n := 1) rfl rfl rfl C0 r0
    have f1 : mX9_popValue N (b + 75) (zc w b C0 M r0) = some (zc w b C0 (zMD M f (t + 1)) r0, M.2 45 (12 * f + (t + 1))) := by
      have := zn_pop (N := N) (w := w) (b := b) (M := M) (t := t + 1) h1 h3 a2 (by omega) C0 r0
      exact this
    have f2 : mX9_popValue N (b + 75) (zc w b C0 (zMD M f (t + 1)) r0) = some (zc w b C0 (zMD M f (t)) r0, M.2 45 (12 * f + (t))) := by
      have := zn_pop (N := N) (w := w) (b := b) (M := (zMD M f (t + 1))) (t := t) h1 h3 zmd42 (by omega) C0 r0
      rw [zMDD] at this; exact this
    have f8 : ∀ v, mX9_pushValue N (b + 75) 2 v (zc w b C0 (zMD M f (t)) r0) = some (zc w b C0 (zMP (zMD M f (t)) f t 2 v) r0) := fun v => zn_push (N := N) (w := w) (b := b) (M := (zMD M f (t))) (t := t) h1 h3 zmd42 (by omega) 2 v C0 r0
    have f9 : ∀ v, mX9_step_327 N (b + 75) (Int32.ofNat f) (Int32.ofNat p) 1 (zc w b C0 (zMP (zMD M f (t)) f t 2 v) r0) = some (zc w b C0 (zJ (zMP (zMD M f (t)) f t 2 v) 41 f (Int32.ofNat (p + 1))) r0) := fun v => zn_on (N := N) (w := w) (b := b) (M := zMP (zMD M f (t)) f t 2 v) (p := p) (n := 1) h1 (zmp100.trans (zmd100.trans h4)) (zmp100.trans (zmd100.trans h5)) C0 r0
    refine f0.trans ?_
    simp (decide := true) only [mX9_step_74, mX9_doReckoning_352, mX9_doReckoning_244, mX9_doReckoning_229, mX9_doReckoning_210, mX9_doReckoning_302, mX9_doReckoning_279, mX9_doReckoning_274, mX9_doReckoning_192, mX9_doReckoning_144, mX9_doReckoning_138, mX9_doReckoning_0, mX9_doReckoning, zqk_75, f1, f2, f8, f9, id, qX9_ofLongs, pX9_ofLongs, pX9_ofLongs_191, pX9_ofLongs_0, Option.map_some, Int32.reduceLT, Int32.reduceLE, Int32.reduceAdd, Int32.reduceSub, Int32.reduceMul, Int32.reduceDiv, Int32.reduceMod, ↓reduceIte, Option.bind_some]
    rfl

end ZQV
