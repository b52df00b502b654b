section ZQV
variable {N w b K f t p m : Nat} {D : Nat → Nat → Prop} {C : zC} {M : zM} {r : zv_X} {ra lt st : Nat → Nat} {μ : zMu}
theorem zo_120 (h : zCur b K D C M r ra f (t + 2) p m lt st μ) (hop : uC μ p = 120) (s0 : st (t + 1) = 1) (s1 : st (t) = 1) : zQ w b N D C M r ra f m (t + 1) (p + 1) lt (zset st t 1) := by
  have hc := h
  obtain ⟨h1, h2, h3, h4, h5, hfr, h7, h8, h9, h10, h11, h12⟩ := h
  have hd := hfr.drop (t' := t) (by omega)
  obtain ⟨a1, a2, a3, a4, a5, a6, a7, a8, a9⟩ := hfr
  have u0 := (a9 (t + 1) (by omega)).2.2.2
  rw [s0] at u0
  have n0 := u0.num (Or.inl rfl)
  have u1 := (a9 (t) (by omega)).2.2.2
  rw [s1] at u1
  have n1 := u1.num (Or.inl rfl)
  have hp := (hd.pushN (by omega) (zSl.mk1 ((M.2 45 (12 * f + t)).toInt32 <<< ((M.2 45 (12 * f + (t + 1))).toInt32 &&& 31))) (Or.inl rfl)).go (p + 1)
  refine ⟨_, _, fun M0 => ?_, fun C0 r0 => ?_, hp, zTop.rf.i2.pn.i2, (zTopM.rf.d.p (by omega)).go⟩
  · have e0 : mX1_opcode N (b + (3 * f + 27)) (zc w b C M0 r) = some (zc w b C M0 r, 120) := ze_step0 (N := N) (w := w) hc hop M0
    have g0 : mX1_number N (b + (3 * f + 27)) 0 (zc w b C M0 r) = _ := zf_number (N := N) (w := w) (b := b) (r := r) (k := 0) h1 a1 a3 (by omega) M0
    have g1 : mX1_number N (b + (3 * f + 27)) 1 (zc w b C M0 r) = _ := zf_number (N := N) (w := w) (b := b) (r := r) (k := 1) h1 a1 a3 (by omega) M0
    have e3 : mX1_drop N (b + (3 * f + 27)) 2 (zc w b C M0 r) = some (zc w b (zI C (f + 100) 2 (Int32.ofNat (16 + t))) M0 r) := zf_drop (N := N) (w := w) (b := b) (r := r) (t := t + 2) (k := 2) h1 a1 a3 (by omega) M0
    have k1 : (zI C (f + 100) 2 (Int32.ofNat (16 + t))).2.2 15 5 = .ref (b + (3 * f + 27)) := h2
    have e4 : ∀ v, mX1_pushNumber N (b + (3 * f + 27)) v (zc w b (zI C (f + 100) 2 (Int32.ofNat (16 + t))) M0 r) = some (zc w b (zPN (zI C (f + 100) 2 (Int32.ofNat (16 + t))) f t v) M0 r) := fun v => zf_pushNumber (t := t) h1 zp2_I2 (by omega) v M0
    have e5 : ∀ v, mX4_goOn N (b + 15) 1 (zc w b (zPN (zI C (f + 100) 2 (Int32.ofNat (16 + t))) f t v) M0 r) = some (zc w b (zI (zPN (zI C (f + 100) 2 (Int32.ofNat (16 + t))) f t v) (f + 100) 4 (Int32.ofNat (p + 1))) M0 r, 0) := fun v => zf_goOn (C := zPN (zI C (f + 100) 2 (Int32.ofNat (16 + t))) f t v) (n := 1) (p := p) h1 h2 (zp4_PN.trans (zp4_I2.trans a4)) M0
    simp (decide := true) only [mX4_step_107, mX4_step_249, mX4_step_0, mX4_step, mX4_reckon_172, mX4_reckon_145, mX4_reckon_118, mX4_reckon_117, mX4_reckon_91, mX4_reckon_82, mX4_reckon_61, mX4_reckon_11, mX4_reckon_0, mX4_reckon, e0, zqg_15_5 h2, zqkF h1, id, zqk_15, zqg_15_5 k1, g0, g1, e3, e4, e5, qX4_moved, pX4_moved, pX4_moved_68, pX4_moved_14, pX4_moved_0, Option.map_some, Int32.reduceLT, Int32.reduceLE, Int32.reduceAdd, Int32.reduceSub, Int32.reduceMul, Int32.reduceDiv, Int32.reduceMod, ↓reduceIte, Option.bind_some]
    rw [show 15 + (t + 2) - 0 = 16 + (t + 1) by omega, show 15 + (t + 2) - 1 = 16 + (t) by omega, n0.1, n1.1, zw_120]
  · have f0 : mX9_step N (b + 75) (zc w b C0 M r0) = mX9_step_74 N (b + 75) (Int32.ofNat f) (Int32.ofNat m) (Int32.ofNat p) 120 1 0 0 (zc w b C0 M r0) := zn_step (N := N) (w := w) hc hop (n := 1) rfl rfl rfl C0 r0
    have f1 : mX9_popValue N (b + 75) (zc w b C0 M r0) = some (zc w b C0 (zMD M f (t + 1)) r0, M.2 45 (12 * f + (t + 1))) := by
      have := zn_pop (N := N) (w := w) (b := b) (M := M) (t := t + 1) h1 h3 a2 (by omega) C0 r0
      exact this
    have f2 : mX9_popValue N (b + 75) (zc w b C0 (zMD M f (t + 1)) r0) = some (zc w b C0 (zMD M f (t)) r0, M.2 45 (12 * f + (t))) := by
      have := zn_pop (N := N) (w := w) (b := b) (M := (zMD M f (t + 1))) (t := t) h1 h3 zmd42 (by omega) C0 r0
      rw [zMDD] at this; exact this
    have f8 : ∀ v, mX9_pushValue N (b + 75) 1 v (zc w b C0 (zMD M f (t)) r0) = some (zc w b C0 (zMP (zMD M f (t)) f t 1 v) r0) := fun v => zn_push (N := N) (w := w) (b := b) (M := (zMD M f (t))) (t := t) h1 h3 zmd42 (by omega) 1 v C0 r0
    have f9 : ∀ v, mX9_step_327 N (b + 75) (Int32.ofNat f) (Int32.ofNat p) 1 (zc w b C0 (zMP (zMD M f (t)) f t 1 v) r0) = some (zc w b C0 (zJ (zMP (zMD M f (t)) f t 1 v) 41 f (Int32.ofNat (p + 1))) r0) := fun v => zn_on (N := N) (w := w) (b := b) (M := zMP (zMD M f (t)) f t 1 v) (p := p) (n := 1) h1 (zmp100.trans (zmd100.trans h4)) (zmp100.trans (zmd100.trans h5)) C0 r0
    refine f0.trans ?_
    simp (decide := true) only [mX9_step_74, mX9_doReckoning_352, mX9_doReckoning_244, mX9_doReckoning_229, mX9_doReckoning_210, mX9_doReckoning_302, mX9_doReckoning_279, mX9_doReckoning_274, mX9_doReckoning_192, mX9_doReckoning_144, mX9_doReckoning_138, mX9_doReckoning_0, mX9_doReckoning, zqk_75, f1, f2, f8, f9, id, qX9_ofInts, pX9_ofInts, pX9_ofInts_188, pX9_ofInts_0, Option.map_some, Int32.reduceLT, Int32.reduceLE, Int32.reduceAdd, Int32.reduceSub, Int32.reduceMul, Int32.reduceDiv, Int32.reduceMod, ↓reduceIte, Option.bind_some]
    rfl

theorem zo_122 (h : zCur b K D C M r ra f (t + 2) p m lt st μ) (hop : uC μ p = 122) (s0 : st (t + 1) = 1) (s1 : st (t) = 1) : zQ w b N D C M r ra f m (t + 1) (p + 1) lt (zset st t 1) := by
  have hc := h
  obtain ⟨h1, h2, h3, h4, h5, hfr, h7, h8, h9, h10, h11, h12⟩ := h
  have hd := hfr.drop (t' := t) (by omega)
  obtain ⟨a1, a2, a3, a4, a5, a6, a7, a8, a9⟩ := hfr
  have u0 := (a9 (t + 1) (by omega)).2.2.2
  rw [s0] at u0
  have n0 := u0.num (Or.inl rfl)
  have u1 := (a9 (t) (by omega)).2.2.2
  rw [s1] at u1
  have n1 := u1.num (Or.inl rfl)
  have hp := (hd.pushN (by omega) (zSl.mk1 ((M.2 45 (12 * f + t)).toInt32 >>> ((M.2 45 (12 * f + (t + 1))).toInt32 &&& 31))) (Or.inl rfl)).go (p + 1)
  refine ⟨_, _, fun M0 => ?_, fun C0 r0 => ?_, hp, zTop.rf.i2.pn.i2, (zTopM.rf.d.p (by omega)).go⟩
  · have e0 : mX1_opcode N (b + (3 * f + 27)) (zc w b C M0 r) = some (zc w b C M0 r, 122) := ze_step0 (N := N) (w := w) hc hop M0
    have g0 : mX1_number N (b + (3 * f + 27)) 0 (zc w b C M0 r) = _ := zf_number (N := N) (w := w) (b := b) (r := r) (k := 0) h1 a1 a3 (by omega) M0
    have g1 : mX1_number N (b + (3 * f + 27)) 1 (zc w b C M0 r) = _ := zf_number (N := N) (w := w) (b := b) (r := r) (k := 1) h1 a1 a3 (by omega) M0
    have e3 : mX1_drop N (b + (3 * f + 27)) 2 (zc w b C M0 r) = some (zc w b (zI C (f + 100) 2 (Int32.ofNat (16 + t))) M0 r) := zf_drop (N := N) (w := w) (b := b) (r := r) (t := t + 2) (k := 2) h1 a1 a3 (by omega) M0
    have k1 : (zI C (f + 100) 2 (Int32.ofNat (16 + t))).2.2 15 5 = .ref (b + (3 * f + 27)) := h2
    have e4 : ∀ v, mX1_pushNumber N (b + (3 * f + 27)) v (zc w b (zI C (f + 100) 2 (Int32.ofNat (16 + t))) M0 r) = some (zc w b (zPN (zI C (f + 100) 2 (Int32.ofNat (16 + t))) f t v) M0 r) := fun v => zf_pushNumber (t := t) h1 zp2_I2 (by omega) v M0
    have e5 : ∀ v, mX4_goOn N (b + 15) 1 (zc w b (zPN (zI C (f + 100) 2 (Int32.ofNat (16 + t))) f t v) M0 r) = some (zc w b (zI (zPN (zI C (f + 100) 2 (Int32.ofNat (16 + t))) f t v) (f + 100) 4 (Int32.ofNat (p + 1))) M0 r, 0) := fun v => zf_goOn (C := zPN (zI C (f + 100) 2 (Int32.ofNat (16 + t))) f t v) (n := 1) (p := p) h1 h2 (zp4_PN.trans (zp4_I2.trans a4)) M0
    simp (decide := true) only [mX4_step_107, mX4_step_249, mX4_step_0, mX4_step, mX4_reckon_172, mX4_reckon_145, mX4_reckon_118, mX4_reckon_117, mX4_reckon_91, mX4_reckon_82, mX4_reckon_61, mX4_reckon_11, mX4_reckon_0, mX4_reckon, e0, zqg_15_5 h2, zqkF h1, id, zqk_15, zqg_15_5 k1, g0, g1, e3, e4, e5, qX4_moved, pX4_moved, pX4_moved_68, pX4_moved_14, pX4_moved_0, Option.map_some, Int32.reduceLT, Int32.reduceLE, Int32.reduceAdd, Int32.reduceSub, Int32.reduceMul, Int32.reduceDiv, Int32.reduceMod, ↓reduceIte, Option.bind_some]
    rw [show 15 + (t + 2) - 0 = 16 + (t + 1) by omega, show 15 + (t + 2) - 1 = 16 + (t) by omega, n0.1, n1.1, zw_122h u1.int]
  · have f0 : mX9_step N (b + 75) (zc w b C0 M r0) = mX9_step_74 N (b + 75) (Int32.ofNat f) (Int32.ofNat m) (Int32.ofNat p) 122 1 0 0 (zc w b C0 M r0) := zn_step (N := N) (w := w) hc hop (n := 1) rfl rfl rfl C0 r0
    have f1 : mX9_popValue N (b + 75) (zc w b C0 M r0) = some (zc w b C0 (zMD M f (t + 1)) r0, M.2 45 (12 * f + (t + 1))) := by
      have := zn_pop (N := N) (w := w) (b := b) (M := M) (t := t + 1) h1 h3 a2 (by omega) C0 r0
      exact this
    have f2 : mX9_popValue N (b + 75) (zc w b C0 (zMD M f (t + 1)) r0) = some (zc w b C0 (zMD M f (t)) r0, M.2 45 (12 * f + (t))) := by
      have := zn_pop (N := N) (w := w) (b := b) (M := (zMD M f (t + 1))) (t := t) h1 h3 zmd42 (by omega) C0 r0
      rw [zMDD] at this; exact this
    have f8 : ∀ v, mX9_pushValue N (b + 75) 1 v (zc w b C0 (zMD M f (t)) r0) = some (zc w b C0 (zMP (zMD M f (t)) f t 1 v) r0) := fun v => zn_push (N := N) (w := w) (b := b) (M := (zMD M f (t))) (t := t) h1 h3 zmd42 (by omega) 1 v C0 r0
    have f9 : ∀ v, mX9_step_327 N (b + 75) (Int32.ofNat f) (Int32.ofNat p) 1 (zc w b C0 (zMP (zMD M f (t)) f t 1 v) r0) = some (zc w b C0 (zJ (zMP (zMD M f (t)) f t 1 v) 41 f (Int32.ofNat (p + 1))) r0) := fun v => zn_on (N := N) (w := w) (b := b) (M := zMP (zMD M f (t)) f t 1 v) (p := p) (n := 1) h1 (zmp100.trans (zmd100.trans h4)) (zmp100.trans (zmd100.trans h5)) C0 r0
    refine f0.trans ?_
    simp (decide := true) only [mX9_step_74, mX9_doReckoning_352, mX9_doReckoning_244, mX9_doReckoning_229, mX9_doReckoning_210, mX9_doReckoning_302, mX9_doReckoning_279, mX9_doReckoning_274, mX9_doReckoning_192, mX9_doReckoning_144, mX9_doReckoning_138, mX9_doReckoning_0, mX9_doReckoning, zqk_75, f1, f2, f8, f9, id, qX9_ofInts, pX9_ofInts, pX9_ofInts_188, pX9_ofInts_0, Option.map_some, Int32.reduceLT, Int32.reduceLE, Int32.reduceAdd, Int32.reduceSub, Int32.reduceMul, Int32.reduceDiv, Int32.reduceMod, ↓reduceIte, Option.bind_some]
    rfl

theorem zo_124 (h : zCur b K D C M r ra f (t + 2) p m lt st μ) (hop : uC μ p = 124) (s0 : st (t + 1) = 1) (s1 : st (t) = 1) : zQ w b N D C M r ra f m (t + 1) (p + 1) lt (zset st t 1) := by
  have hc := h
  obtain ⟨h1, h2, h3, h4, h5, hfr, h7, h8, h9, h10, h11, h12⟩ := h
  have hd := hfr.drop (t' := t) (by omega)
  obtain ⟨a1, a2, a3, a4, a5, a6, a7, a8, a9⟩ := hfr
  have u0 := (a9 (t + 1) (by omega)).2.2.2
  rw [s0] at u0
  have n0 := u0.num (Or.inl rfl)
  have u1 := (a9 (t) (by omega)).2.2.2
  rw [s1] at u1
  have n1 := u1.num (Or.inl rfl)
  have hp := (hd.pushN (by omega) (zSl.mk1 (((M.2 45 (12 * f + t)).toInt32.toUInt32 >>> ((M.2 45 (12 * f + (t + 1))).toInt32.toUInt32 &&& Int32.toUInt32 31)).toInt32)) (Or.inl rfl)).go (p + 1)
  refine ⟨_, _, fun M0 => ?_, fun C0 r0 => ?_, hp, zTop.rf.i2.pn.i2, (zTopM.rf.d.p (by omega)).go⟩
  · have e0 : mX1_opcode N (b + (3 * f + 27)) (zc w b C M0 r) = some (zc w b C M0 r, 124) := ze_step0 (N := N) (w := w) hc hop M0
    have g0 : mX1_number N (b + (3 * f + 27)) 0 (zc w b C M0 r) = _ := zf_number (N := N) (w := w) (b := b) (r := r) (k := 0) h1 a1 a3 (by omega) M0
    have g1 : mX1_number N (b + (3 * f + 27)) 1 (zc w b C M0 r) = _ := zf_number (N := N) (w := w) (b := b) (r := r) (k := 1) h1 a1 a3 (by omega) M0
    have e3 : mX1_drop N (b + (3 * f + 27)) 2 (zc w b C M0 r) = some (zc w b (zI C (f + 100) 2 (Int32.ofNat (16 + t))) M0 r) := zf_drop (N := N) (w := w) (b := b) (r := r) (t := t + 2) (k := 2) h1 a1 a3 (by omega) M0
    have k1 : (zI C (f + 100) 2 (Int32.ofNat (16 + t))).2.2 15 5 = .ref (b + (3 * f + 27)) := h2
    have e4 : ∀ v, mX1_pushNumber N (b + (3 * f + 27)) v (zc w b (zI C (f + 100) 2 (Int32.ofNat (16 + t))) M0 r) = some (zc w b (zPN (zI C (f + 100) 2 (Int32.ofNat (16 + t))) f t v) M0 r) := fun v => zf_pushNumber (t := t) h1 zp2_I2 (by omega) v M0
    have e5 : ∀ v, mX4_goOn N (b + 15) 1 (zc w b (zPN (zI C (f + 100) 2 (Int32.ofNat (16 + t))) f t v) M0 r) = some (zc w b (zI (zPN (zI C (f + 100) 2 (Int32.ofNat (16 + t))) f t v) (f + 100) 4 (Int32.ofNat (p + 1))) M0 r, 0) := fun v => zf_goOn (C := zPN (zI C (f + 100) 2 (Int32.ofNat (16 + t))) f t v) (n := 1) (p := p) h1 h2 (zp4_PN.trans (zp4_I2.trans a4)) M0
    simp (decide := true) only [mX4_step_107, mX4_step_249, mX4_step_0, mX4_step, mX4_reckon_172, mX4_reckon_145, mX4_reckon_118, mX4_reckon_117, mX4_reckon_91, mX4_reckon_82, mX4_reckon_61, mX4_reckon_11, mX4_reckon_0, mX4_reckon, e0, zqg_15_5 h2, zqkF h1, id, zqk_15, zqg_15_5 k1, g0, g1, e3, e4, e5, qX4_moved, pX4_moved, pX4_moved_68, pX4_moved_14, pX4_moved_0, Option.map_some, Int32.reduceLT, Int32.reduceLE, Int32.reduceAdd, Int32.reduceSub, Int32.reduceMul, Int32.reduceDiv, Int32.reduceMod, ↓reduceIte, Option.bind_some]
    rw [show 15 + (t + 2) - 0 = 16 + (t + 1) by omega, show 15 + (t + 2) - 1 = 16 + (t) by omega, n0.1, n1.1, zw_124h u1.int]
  · have f0 : mX9_step N (b + 75) (zc w b C0 M r0) = mX9_step_74 N (b + 75) (Int32.ofNat f) (Int32.ofNat m) (Int32.ofNat p) 124 1 0 0 (zc w b C0 M r0) := zn_step (N := N) (w := w) hc hop (n := 1) rfl rfl rfl C0 r0
    have f1 : mX9_popValue N (b + 75) (zc w b C0 M r0) = some (zc w b C0 (zMD M f (t + 1)) r0, M.2 45 (12 * f + (t + 1))) := by
      have := zn_pop (N := N) (w := w) (b := b) (M := M) (t := t + 1) h1 h3 a2 (by omega) C0 r0
      exact this
    have f2 : mX9_popValue N (b + 75) (zc w b C0 (zMD M f (t + 1)) r0) = some (zc w b C0 (zMD M f (t)) r0, M.2 45 (12 * f + (t))) := by
      have := zn_pop (N := N) (w := w) (b := b) (M := (zMD M f (t + 1))) (t := t) h1 h3 zmd42 (by omega) C0 r0
      rw [zMDD] at this; exact this
    have f8 : ∀ v, mX9_pushValue N (b + 75) 1 v (zc w b C0 (zMD M f (t)) r0) = some (zc w b C0 (zMP (zMD M f (t)) f t 1 v) r0) := fun v => zn_push (N := N) (w := w) (b := b) (M := (zMD M f (t))) (t := t) h1 h3 zmd42 (by omega) 1 v C0 r0
    have f9 : ∀ v, mX9_step_327 N (b + 75) (Int32.ofNat f) (Int32.ofNat p) 1 (zc w b C0 (zMP (zMD M f (t)) f t 1 v) r0) = some (zc w b C0 (zJ (zMP (zMD M f (t)) f t 1 v) 41 f (Int32.ofNat (p + 1))) r0) := fun v => zn_on (N := N) (w := w) (b := b) (M := zMP (zMD M f (t)) f t 1 v) (p := p) (n := 1) h1 (zmp100.trans (zmd100.trans h4)) (zmp100.trans (zmd100.trans h5)) C0 r0
    refine f0.trans ?_
    simp (decide := true) only [mX9_step_74, mX9_doReckoning_352, mX9_doReckoning_244, mX9_doReckoning_229, mX9_doReckoning_210, mX9_doReckoning_302, mX9_doReckoning_279, mX9_doReckoning_274, mX9_doReckoning_192, mX9_doReckoning_144, mX9_doReckoning_138, mX9_doReckoning_0, mX9_doReckoning, zqk_75, f1, f2, f8, f9, id, qX9_ofInts, pX9_ofInts, pX9_ofInts_188, pX9_ofInts_0, Option.map_some, Int32.reduceLT, Int32.reduceLE, Int32.reduceAdd, Int32.reduceSub, Int32.reduceMul, Int32.reduceDiv, Int32.reduceMod, ↓reduceIte, Option.bind_some]
    rfl

theorem zo_121 (h : zCur b K D C M r ra f (t + 2) p m lt st μ) (hop : uC μ p = 121) (s0 : st (t + 1) = 1) (s1 : st (t) = 2) : zQ w b N D C M r ra f m (t + 1) (p + 1) lt (zset st t 2) := by
  have hc := h
  obtain ⟨h1, h2, h3, h4, h5, hfr, h7, h8, h9, h10, h11, h12⟩ := h
  have hd := hfr.drop (t' := t) (by omega)
  obtain ⟨a1, a2, a3, a4, a5, a6, a7, a8, a9⟩ := hfr
  have u0 := (a9 (t + 1) (by omega)).2.2.2
  rw [s0] at u0
  have n0 := u0.num (Or.inl rfl)
  have u1 := (a9 (t) (by omega)).2.2.2
  rw [s1] at u1
  have n1 := u1.num (Or.inr rfl)
  have hp := (hd.pushN (by omega) (zSl.mk2 (M.2 45 (12 * f + t) <<< (Int32.toInt64 (M.2 45 (12 * f + (t + 1))).toInt32 &&& 63))) (Or.inr rfl)).go (p + 1)
  refine ⟨_, _, fun M0 => ?_, fun C0 r0 => ?_, hp, zTop.rf.i2.pn.i2, (zTopM.rf.d.p (by omega)).go⟩
  · have e0 : mX1_opcode N (b + (3 * f + 27)) (zc w b C M0 r) = some (zc w b C M0 r, 121) := ze_step0 (N := N) (w := w) hc hop M0
    have g0 : mX1_number N (b + (3 * f + 27)) 0 (zc w b C M0 r) = _ := zf_number (N := N) (w := w) (b := b) (r := r) (k := 0) h1 a1 a3 (by omega) M0
    have g1 : mX1_number N (b + (3 * f + 27)) 1 (zc w b C M0 r) = _ := zf_number (N := N) (w := w) (b := b) (r := r) (k := 1) h1 a1 a3 (by omega) M0
    have e3 : mX1_drop N (b + (3 * f + 27)) 2 (zc w b C M0 r) = some (zc w b (zI C (f + 100) 2 (Int32.ofNat (16 + t))) M0 r) := zf_drop (N := N) (w := w) (b := b) (r := r) (t := t + 2) (k := 2) h1 a1 a3 (by omega) M0
    have k1 : (zI C (f + 100) 2 (Int32.ofNat (16 + t))).2.2 15 5 = .ref (b + (3 * f + 27)) := h2
    have e4 : ∀ v, mX1_pushNumber N (b + (3 * f + 27)) v (zc w b (zI C (f + 100) 2 (Int32.ofNat (16 + t))) M0 r) = some (zc w b (zPN (zI C (f + 100) 2 (Int32.ofNat (16 + t))) f t v) M0 r) := fun v => zf_pushNumber (t := t) h1 zp2_I2 (by omega) v M0
    have e5 : ∀ v, mX4_goOn N (b + 15) 1 (zc w b (zPN (zI C (f + 100) 2 (Int32.ofNat (16 + t))) f t v) M0 r) = some (zc w b (zI (zPN (zI C (f + 100) 2 (Int32.ofNat (16 + t))) f t v) (f + 100) 4 (Int32.ofNat (p + 1))) M0 r, 0) := fun v => zf_goOn (C := zPN (zI C (f + 100) 2 (Int32.ofNat (16 + t))) f t v) (n := 1) (p := p) h1 h2 (zp4_PN.trans (zp4_I2.trans a4)) M0
    simp (decide := true) only [mX4_step_107, mX4_step_249, mX4_step_0, mX4_step, mX4_reckon_172, mX4_reckon_145, mX4_reckon_118, mX4_reckon_117, mX4_reckon_91, mX4_reckon_82, mX4_reckon_61, mX4_reckon_11, mX4_reckon_0, mX4_reckon, e0, zqg_15_5 h2, zqkF h1, id, zqk_15, zqg_15_5 k1, g0, g1, e3, e4, e5, qX4_moved, pX4_moved, pX4_moved_68, pX4_moved_14, pX4_moved_0, Option.map_some, Int32.reduceLT, Int32.reduceLE, Int32.reduceAdd, Int32.reduceSub, Int32.reduceMul, Int32.reduceDiv, Int32.reduceMod, ↓reduceIte, Option.bind_some]
    rw [show 15 + (t + 2) - 0 = 16 + (t + 1) by omega, show 15 + (t + 2) - 1 = 16 + (t) by omega, n0.1, n1.1, zw_121]
  · have f0 : mX9_step N (b + 75) (zc w b C0 M r0) = mX9_step_74 N (b + 75) (Int32.ofNat f) (Int32.ofNat m) (Int32.ofNat p) 121 1 0 0 (zc w b C0 M r0) := zn_step (N := N) (w := w) hc hop (n := 1) rfl rfl rfl C0 r0
    have f1 : mX9_popValue N (b + 75) (zc w b C0 M r0) = some (zc w b C0 (zMD M f (t + 1)) r0, M.2 45 (12 * f + (t + 1))) := by
      have := zn_pop (N := N) (w := w) (b := b) (M := M) (t := t + 1) h1 h3 a2 (by omega) C0 r0
      exact this
    have f2 : mX9_popValue N (b + 75) (zc w b C0 (zMD M f (t + 1)) r0) = some (zc w b C0 (zMD M f (t)) r0, M.2 45 (12 * f + (t))) := by
      have := zn_pop (N := N) (w := w) (b := b) (M := (zMD M f (t + 1))) (t := t) h1 h3 zmd42 (by omega) C0 r0
      rw [zMDD] at this; exact this
    have f8 : ∀ v, mX9_pushValue N (b + 75) 2 v (zc w b C0 (zMD M f (t)) r0) = some (zc w b C0 (zMP (zMD M f (t)) f t 2 v) r0) := fun v => zn_push (N := N) (w := w) (b := b) (M := (zMD M f (t))) (t := t) h1 h3 zmd42 (by omega) 2 v C0 r0
    have f9 : ∀ v, mX9_step_327 N (b + 75) (Int32.ofNat f) (Int32.ofNat p) 1 (zc w b C0 (zMP (zMD M f (t)) f t 2 v) r0) = some (zc w b C0 (zJ (zMP (zMD M f (t)) f t 2 v) 41 f (Int32.ofNat (p + 1))) r0) := fun v => zn_on (N := N) (w := w) (b := b) (M := zMP (zMD M f (t)) f t 2 v) (p := p) (n := 1) h1 (zmp100.trans (zmd100.trans h4)) (zmp100.trans (zmd100.trans h5)) C0 r0
    refine f0.trans ?_
    simp (decide := true) only [mX9_step_74, mX9_doReckoning_352, mX9_doReckoning_244, mX9_doReckoning_229, mX9_doReckoning_210, mX9_doReckoning_302, mX9_doReckoning_279, mX9_doReckoning_274, mX9_doReckoning_192, mX9_doReckoning_144, mX9_doReckoning_138, mX9_doReckoning_0, mX9_doReckoning, zqk_75, f1, f2, f8, f9, id, qX9_ofLongs, pX9_ofLongs, pX9_ofLongs_191, pX9_ofLongs_0, Option.map_some, Int32.reduceLT, Int32.reduceLE, Int32.reduceAdd, Int32.reduceSub, Int32.reduceMul, Int32.reduceDiv, Int32.reduceMod, ↓reduceIte, Option.bind_some]
    rfl

theorem zo_123 (h : zCur b K D C M r ra f (t + 2) p m lt st μ) (hop : uC μ p = 123) (s0 : st (t + 1) = 1) (s1 : st (t) = 2) : zQ w b N D C M r ra f m (t + 1) (p + 1) lt (zset st t 2) := by
  have hc := h
  obtain ⟨h1, h2, h3, h4, h5, hfr, h7, h8, h9, h10, h11, h12⟩ := h
  have hd := hfr.drop (t' := t) (by omega)
  obtain ⟨a1, a2, a3, a4, a5, a6, a7, a8, a9⟩ := hfr
  have u0 := (a9 (t + 1) (by omega)).2.2.2
  rw [s0] at u0
  have n0 := u0.num (Or.inl rfl)
  have u1 := (a9 (t) (by omega)).2.2.2
  rw [s1] at u1
  have n1 := u1.num (Or.inr rfl)
  have hp := (hd.pushN (by omega) (zSl.mk2 (M.2 45 (12 * f + t) >>> (Int32.toInt64 (M.2 45 (12 * f + (t + 1))).toInt32 &&& 63))) (Or.inr rfl)).go (p + 1)
  refine ⟨_, _, fun M0 => ?_, fun C0 r0 => ?_, hp, zTop.rf.i2.pn.i2, (zTopM.rf.d.p (by omega)).go⟩
  · have e0 : mX1_opcode N (b + (3 * f + 27)) (zc w b C M0 r) = some (zc w b C M0 r, 123) := ze_step0 (N := N) (w := w) hc hop M0
    have g0 : mX1_number N (b + (3 * f + 27)) 0 (zc w b C M0 r) = _ := zf_number (N := N) (w := w) (b := b) (r := r) (k := 0) h1 a1 a3 (by omega) M0
    have g1 : mX1_number N (b + (3 * f + 27)) 1 (zc w b C M0 r) = _ := zf_number (N := N) (w := w) (b := b) (r := r) (k := 1) h1 a1 a3 (by omega) M0
    have e3 : mX1_drop N (b + (3 * f + 27)) 2 (zc w b C M0 r) = some (zc w b (zI C (f + 100) 2 (Int32.ofNat (16 + t))) M0 r) := zf_drop (N := N) (w := w) (b := b) (r := r) (t := t + 2) (k := 2) h1 a1 a3 (by omega) M0
    have k1 : (zI C (f + 100) 2 (Int32.ofNat (16 + t))).2.2 15 5 = .ref (b + (3 * f + 27)) := h2
    have e4 : ∀ v, mX1_pushNumber N (b + (3 * f + 27)) v (zc w b (zI C (f + 100) 2 (Int32.ofNat (16 + t))) M0 r) = some (zc w b (zPN (zI C (f + 100) 2 (Int32.ofNat (16 + t))) f t v) M0 r) := fun v => zf_pushNumber (t := t) h1 zp2_I2 (by omega) v M0
    have e5 : ∀ v, mX4_goOn N (b + 15) 1 (zc w b (zPN (zI C (f + 100) 2 (Int32.ofNat (16 + t))) f t v) M0 r) = some (zc w b (zI (zPN (zI C (f + 100) 2 (Int32.ofNat (16 + t))) f t v) (f + 100) 4 (Int32.ofNat (p + 1))) M0 r, 0) := fun v => zf_goOn (C := zPN (zI C (f + 100) 2 (Int32.ofNat (16 + t))) f t v) (n := 1) (p := p) h1 h2 (zp4_PN.trans (zp4_I2.trans a4)) M0
    simp (decide := true) only [mX4_step_107, mX4_step_249, mX4_step_0, mX4_step, mX4_reckon_172, mX4_reckon_145, mX4_reckon_118, mX4_reckon_117, mX4_reckon_91, mX4_reckon_82, mX4_reckon_61, mX4_reckon_11, mX4_reckon_0, mX4_reckon, e0, zqg_15_5 h2, zqkF h1, id, zqk_15, zqg_15_5 k1, g0, g1, e3, e4, e5, qX4_moved, pX4_moved, pX4_moved_68, pX4_moved_14, pX4_moved_0, Option.map_some, Int32.reduceLT, Int32.reduceLE, Int32.reduceAdd, Int32.reduceSub, Int32.reduceMul, Int32.reduceDiv, Int32.reduceMod, ↓reduceIte, Option.bind_some]
    rw [show 15 + (t + 2) - 0 = 16 + (t + 1) by omega, show 15 + (t + 2) - 1 = 16 + (t) by omega, n0.1, n1.1, zw_123]
  · have f0 : mX9_step N (b + 75) (zc w b C0 M r0) = mX9_step_74 N (b + 75) (Int32.ofNat f) (Int32.ofNat m) (Int32.ofNat p) 123 1 0 0 (zc w b C0 M r0) := zn_step (N := N) (w := w) hc hop (n := 1) rfl rfl rfl C0 r0
    have f1 : mX9_popValue N (b + 75) (zc w b C0 M r0) = some (zc w b C0 (zMD M f (t + 1)) r0, M.2 45 (12 * f + (t + 1))) := by
      have := zn_pop (N := N) (w := w) (b := b) (M := M) (t := t + 1) h1 h3 a2 (by omega) C0 r0
      exact this
    have f2 : mX9_popValue N (b + 75) (zc w b C0 (zMD M f (t + 1)) r0) = some (zc w b C0 (zMD M f (t)) r0, M.2 45 (12 * f + (t))) := by
      have := zn_pop (N := N) (w := w) (b := b) (M := (zMD M f (t + 1))) (t := t) h1 h3 zmd42 (by omega) C0 r0
      rw [zMDD] at this; exact this
    have f8 : ∀ v, mX9_pushValue N (b + 75) 2 v (zc w b C0 (zMD M f (t)) r0) = some (zc w b C0 (zMP (zMD M f (t)) f t 2 v) r0) := fun v => zn_push (N := N) (w := w) (b := b) (M := (zMD M f (t))) (t := t) h1 h3 zmd42 (by omega) 2 v C0 r0
    have f9 : ∀ v, mX9_step_327 N (b + 75) (Int32.ofNat f) (Int32.ofNat p) 1 (zc w b C0 (zMP (zMD M f (t)) f t 2 v) r0) = some (zc w b C0 (zJ (zMP (zMD M f (t)) f t 2 v) 41 f (Int32.ofNat (p + 1))) r0) := fun v => zn_on (N := N) (w := w) (b := b) (M := zMP (zMD M f (t)) f t 2 v) (p := p) (n := 1) h1 (zmp100.trans (zmd100.trans h4)) (zmp100.trans (zmd100.trans h5)) C0 r0
    refine f0.trans ?_
    simp (decide := true) only [mX9_step_74, mX9_doReckoning_352, mX9_doReckoning_244, mX9_doReckoning_229, mX9_doReckoning_210, mX9_doReckoning_302, mX9_doReckoning_279, mX9_doReckoning_274, mX9_doReckoning_192, mX9_doReckoning_144, mX9_doReckoning_138, mX9_doReckoning_0, mX9_doReckoning, zqk_75, f1, f2, f8, f9, id, qX9_ofLongs, pX9_ofLongs, pX9_ofLongs_191, pX9_ofLongs_0, Option.map_some, Int32.reduceLT, Int32.reduceLE, Int32.reduceAdd, Int32.reduceSub, Int32.reduceMul, Int32.reduceDiv, Int32.reduceMod, ↓reduceIte, Option.bind_some]
    rfl

theorem zo_125 (h : zCur b K D C M r ra f (t + 2) p m lt st μ) (hop : uC μ p = 125) (s0 : st (t + 1) = 1) (s1 : st (t) = 2) : zQ w b N D C M r ra f m (t + 1) (p + 1) lt (zset st t 2) := by
  have hc := h
  obtain ⟨h1, h2, h3, h4, h5, hfr, h7, h8, h9, h10, h11, h12⟩ := h
  have hd := hfr.drop (t' := t) (by omega)
  obtain ⟨a1, a2, a3, a4, a5, a6, a7, a8, a9⟩ := hfr
  have u0 := (a9 (t + 1) (by omega)).2.2.2
  rw [s0] at u0
  have n0 := u0.num (Or.inl rfl)
  have u1 := (a9 (t) (by omega)).2.2.2
  rw [s1] at u1
  have n1 := u1.num (Or.inr rfl)
  have hp := (hd.pushN (by omega) (zSl.mk2 (((M.2 45 (12 * f + t)).toUInt64 >>> ((Int32.toInt64 (M.2 45 (12 * f + (t + 1))).toInt32).toUInt64 &&& Int64.toUInt64 63)).toInt64)) (Or.inr rfl)).go (p + 1)
  refine ⟨_, _, fun M0 => ?_, fun C0 r0 => ?_, hp, zTop.rf.i2.pn.i2, (zTopM.rf.d.p (by omega)).go⟩
  · have e0 : mX1_opcode N (b + (3 * f + 27)) (zc w b C M0 r) = some (zc w b C M0 r, 125) := ze_step0 (N := N) (w := w) hc hop M0
    have g0 : mX1_number N (b + (3 * f + 27)) 0 (zc w b C M0 r) = _ := zf_number (N := N) (w := w) (b := b) (r := r) (k := 0) h1 a1 a3 (by omega) M0
    have g1 : mX1_number N (b + (3 * f + 27)) 1 (zc w b C M0 r) = _ := zf_number (N := N) (w := w) (b := b) (r := r) (k := 1) h1 a1 a3 (by omega) M0
    have e3 : mX1_drop N (b + (3 * f + 27)) 2 (zc w b C M0 r) = some (zc w b (zI C (f + 100) 2 (Int32.ofNat (16 + t))) M0 r) := zf_drop (N := N) (w := w) (b := b) (r := r) (t := t + 2) (k := 2) h1 a1 a3 (by omega) M0
    have k1 : (zI C (f + 100) 2 (Int32.ofNat (16 + t))).2.2 15 5 = .ref (b + (3 * f + 27)) := h2
    have e4 : ∀ v, mX1_pushNumber N (b + (3 * f + 27)) v (zc w b (zI C (f + 100) 2 (Int32.ofNat (16 + t))) M0 r) = some (zc w b (zPN (zI C (f + 100) 2 (Int32.ofNat (16 + t))) f t v) M0 r) := fun v => zf_pushNumber (t := t) h1 zp2_I2 (by omega) v M0
    have e5 : ∀ v, mX4_goOn N (b + 15) 1 (zc w b (zPN (zI C (f + 100) 2 (Int32.ofNat (16 + t))) f t v) M0 r) = some (zc w b (zI (zPN (zI C (f + 100) 2 (Int32.ofNat (16 + t))) f t v) (f + 100) 4 (Int32.ofNat (p + 1))) M0 r, 0) := fun v => zf_goOn (C := zPN (zI C (f + 100) 2 (Int32.ofNat (16 + t))) f t v) (n := 1) (p := p) h1 h2 (zp4_PN.trans (zp4_I2.trans a4)) M0
    simp (decide := true) only [mX4_step_107, mX4_step_249, mX4_step_0, mX4_step, mX4_reckon_172, mX4_reckon_145, mX4_reckon_118, mX4_reckon_117, mX4_reckon_91, mX4_reckon_82, mX4_reckon_61, mX4_reckon_11, mX4_reckon_0, mX4_reckon, e0, zqg_15_5 h2, zqkF h1, id, zqk_15, zqg_15_5 k1, g0, g1, e3, e4, e5, qX4_moved, pX4_moved, pX4_moved_68, pX4_moved_14, pX4_moved_0, Option.map_some, Int32.reduceLT, Int32.reduceLE, Int32.reduceAdd, Int32.reduceSub, Int32.reduceMul, Int32.reduceDiv, Int32.reduceMod, ↓reduceIte, Option.bind_some]
    rw [show 15 + (t + 2) - 0 = 16 + (t + 1) by omega, show 15 + (t + 2) - 1 = 16 + (t) by omega, n0.1, n1.1, zw_125]
  · have f0 : mX9_step N (b + 75) (zc w b C0 M r0) = mX9_step_74 N (b + 75) (Int32.ofNat f) (Int32.ofNat m) (Int32.ofNat p) 125 1 0 0 (zc w b C0 M r0) := zn_step (N := N) (w := w) hc hop (n := 1) rfl rfl rfl C0 r0
    have f1 : mX9_popValue N (b + 75) (zc w b C0 M r0) = some (zc w b C0 (zMD M f (t + 1)) r0, M.2 45 (12 * f + (t + 1))) := by
      have := zn_pop (N := N) (w := w) (b := b) (M := M) (t := t + 1) h1 h3 a2 (by omega) C0 r0
      exact this
    have f2 : mX9_popValue N (b + 75) (zc w b C0 (zMD M f (t + 1)) r0) = some (zc w b C0 (zMD M f (t)) r0, M.2 45 (12 * f + (t))) := by
      have := zn_pop (N := N) (w := w) (b := b) (M := (zMD M f (t + 1))) (t := t) h1 h3 zmd42 (by omega) C0 r0
      rw [zMDD] at this; exact this
    have f8 : ∀ v, mX9_pushValue N (b + 75) 2 v (zc w b C0 (zMD M f (t)) r0) = some (zc w b C0 (zMP (zMD M f (t)) f t 2 v) r0) := fun v => zn_push (N := N) (w := w) (b := b) (M := (zMD M f (t))) (t := t) h1 h3 zmd42 (by omega) 2 v C0 r0
    have f9 : ∀ v, mX9_step_327 N (b + 75) (Int32.ofNat f) (Int32.ofNat p) 1 (zc w b C0 (zMP (zMD M f (t)) f t 2 v) r0) = some (zc w b C0 (zJ (zMP (zMD M f (t)) f t 2 v) 41 f (Int32.ofNat (p + 1))) r0) := fun v => zn_on (N := N) (w := w) (b := b) (M := zMP (zMD M f (t)) f t 2 v) (p := p) (n := 1) h1 (zmp100.trans (zmd100.trans h4)) (zmp100.trans (zmd100.trans h5)) C0 r0
    refine f0.trans ?_
    simp (decide := true) only [mX9_step_74, mX9_doReckoning_352, mX9_doReckoning_244, mX9_doReckoning_229, mX9_doReckoning_210, mX9_doReckoning_302, mX9_doReckoning_279, mX9_doReckoning_274, mX9_doReckoning_192, mX9_doReckoning_144, mX9_doReckoning_138, mX9_doReckoning_0, mX9_doReckoning, zqk_75, f1, f2, f8, f9, id, qX9_ofLongs, pX9_ofLongs, pX9_ofLongs_191, pX9_ofLongs_0, Option.map_some, Int32.reduceLT, Int32.reduceLE, Int32.reduceAdd, Int32.reduceSub, Int32.reduceMul, Int32.reduceDiv, Int32.reduceMod, ↓reduceIte, Option.bind_some]
    rfl

theorem zo_108 (h : zCur b K D C M r ra f (t + 2) p m lt st μ) (hop : uC μ p = 108) (s0 : st (t + 1) = 1) (s1 : st (t) = 1) (hz : ¬ M.2 45 (12 * f + (t + 1)) = 0) : zQ w b N D C M r ra f m (t + 1) (p + 1) lt (zset st t 1) := by
  have hc := h
  obtain ⟨h1, h2, h3, h4, h5, hfr, h7, h8, h9, h10, h11, h12⟩ := h
  have hd := hfr.drop (t' := t) (by omega)
  obtain ⟨a1, a2, a3, a4, a5, a6, a7, a8, a9⟩ := hfr
  have u0 := (a9 (t + 1) (by omega)).2.2.2
  rw [s0] at u0
  have n0 := u0.num (Or.inl rfl)
  have u1 := (a9 (t) (by omega)).2.2.2
  rw [s1] at u1
  have n1 := u1.num (Or.inl rfl)
  have hp := (hd.pushN (by omega) (zSl.mk1 ((M.2 45 (12 * f + t)).toInt32 / (M.2 45 (12 * f + (t + 1))).toInt32)) (Or.inl rfl)).go (p + 1)
  refine ⟨_, _, fun M0 => ?_, fun C0 r0 => ?_, hp, zTop.rf.i2.pn.i2, (zTopM.rf.d.p (by omega)).go⟩
  · have e0 : mX1_opcode N (b + (3 * f + 27)) (zc w b C M0 r) = some (zc w b C M0 r, 108) := ze_step0 (N := N) (w := w) hc hop M0
    have g0 : mX1_number N (b + (3 * f + 27)) 0 (zc w b C M0 r) = _ := zf_number (N := N) (w := w) (b := b) (r := r) (k := 0) h1 a1 a3 (by omega) M0
    have g1 : mX1_number N (b + (3 * f + 27)) 1 (zc w b C M0 r) = _ := zf_number (N := N) (w := w) (b := b) (r := r) (k := 1) h1 a1 a3 (by omega) M0
    have e3 : mX1_drop N (b + (3 * f + 27)) 2 (zc w b C M0 r) = some (zc w b (zI C (f + 100) 2 (Int32.ofNat (16 + t))) M0 r) := zf_drop (N := N) (w := w) (b := b) (r := r) (t := t + 2) (k := 2) h1 a1 a3 (by omega) M0
    have k1 : (zI C (f + 100) 2 (Int32.ofNat (16 + t))).2.2 15 5 = .ref (b + (3 * f + 27)) := h2
    have e4 : ∀ v, mX1_pushNumber N (b + (3 * f + 27)) v (zc w b (zI C (f + 100) 2 (Int32.ofNat (16 + t))) M0 r) = some (zc w b (zPN (zI C (f + 100) 2 (Int32.ofNat (16 + t))) f t v) M0 r) := fun v => zf_pushNumber (t := t) h1 zp2_I2 (by omega) v M0
    have e5 : ∀ v, mX4_goOn N (b + 15) 1 (zc w b (zPN (zI C (f + 100) 2 (Int32.ofNat (16 + t))) f t v) M0 r) = some (zc w b (zI (zPN (zI C (f + 100) 2 (Int32.ofNat (16 + t))) f t v) (f + 100) 4 (Int32.ofNat (p + 1))) M0 r, 0) := fun v => zf_goOn (C := zPN (zI C (f + 100) 2 (Int32.ofNat (16 + t))) f t v) (n := 1) (p := p) h1 h2 (zp4_PN.trans (zp4_I2.trans a4)) M0
    have z1 : ¬ lg_cmp (C.2.1 (f + 120) (15 + (t + 2) - 0)) 0 = 0 := by rw [show 15 + (t + 2) - 0 = 16 + (t + 1) by omega, n0.1, zw_cmp]; exact hz
    have z2 : ¬ C.2.1 (f + 120) (15 + (t + 2) - 0) = 0 := by rw [show 15 + (t + 2) - 0 = 16 + (t + 1) by omega, n0.1]; exact hz
    simp (decide := true) only [mX4_step_107, mX4_step_249, mX4_step_0, mX4_step, mX4_reckon_172, mX4_reckon_145, mX4_reckon_118, mX4_reckon_117, mX4_reckon_91, mX4_reckon_82, mX4_reckon_61, mX4_reckon_11, mX4_reckon_0, mX4_reckon, e0, zqg_15_5 h2, zqkF h1, id, zqk_15, zqg_15_5 k1, g0, g1, e3, e4, e5, z1, z2, qX4_combined, pX4_combined, pX4_combined_0, Option.map_some, Int32.reduceLT, Int32.reduceLE, Int32.reduceAdd, Int32.reduceSub, Int32.reduceMul, Int32.reduceDiv, Int32.reduceMod, ↓reduceIte, Option.bind_some]
    rw [show 15 + (t + 2) - 0 = 16 + (t + 1) by omega, show 15 + (t + 2) - 1 = 16 + (t) by omega, n0.1, n1.1, zw_divh u1.int u0.int]
  · have f0 : mX9_step N (b + 75) (zc w b C0 M r0) = mX9_step_74 N (b + 75) (Int32.ofNat f) (Int32.ofNat m) (Int32.ofNat p) 108 1 0 0 (zc w b C0 M r0) := zn_step (N := N) (w := w) hc hop (n := 1) rfl rfl rfl C0 r0
    have f1 : mX9_popValue N (b + 75) (zc w b C0 M r0) = some (zc w b C0 (zMD M f (t + 1)) r0, M.2 45 (12 * f + (t + 1))) := by
      have := zn_pop (N := N) (w := w) (b := b) (M := M) (t := t + 1) h1 h3 a2 (by omega) C0 r0
      exact this
    have f2 : mX9_popValue N (b + 75) (zc w b C0 (zMD M f (t + 1)) r0) = some (zc w b C0 (zMD M f (t)) r0, M.2 45 (12 * f + (t))) := by
      have := zn_pop (N := N) (w := w) (b := b) (M := (zMD M f (t + 1))) (t := t) h1 h3 zmd42 (by omega) C0 r0
      rw [zMDD] at this; exact this
    have fp : mX9_peek N (b + 75) 0 (zc w b C0 M r0) = some (zc w b C0 M r0, M.2 45 (12 * f + (t + 1))) := zn_peek (N := N) (w := w) (b := b) (M := M) (t := t + 2) (k := 0) h1 h3 a2 a3 (by omega) C0 r0
    have f8 : ∀ v, mX9_pushValue N (b + 75) 1 v (zc w b C0 (zMD M f (t)) r0) = some (zc w b C0 (zMP (zMD M f (t)) f t 1 v) r0) := fun v => zn_push (N := N) (w := w) (b := b) (M := (zMD M f (t))) (t := t) h1 h3 zmd42 (by omega) 1 v C0 r0
    have f9 : ∀ v, mX9_step_327 N (b + 75) (Int32.ofNat f) (Int32.ofNat p) 1 (zc w b C0 (zMP (zMD M f (t)) f t 1 v) r0) = some (zc w b C0 (zJ (zMP (zMD M f (t)) f t 1 v) 41 f (Int32.ofNat (p + 1))) r0) := fun v => zn_on (N := N) (w := w) (b := b) (M := zMP (zMD M f (t)) f t 1 v) (p := p) (n := 1) h1 (zmp100.trans (zmd100.trans h4)) (zmp100.trans (zmd100.trans h5)) C0 r0
    have z1 : ¬ lg_cmp (M.2 45 (12 * f + (t + 1))) 0 = 0 := fun e => hz (zw_cmp.mp e)
    have z2 : ¬ (M.2 45 (12 * f + (t + 1))).toInt32 = 0 := fun e => hz ((zw_i0 u0.int).mpr e)
    refine f0.trans ?_
    simp (decide := true) only [mX9_step_74, mX9_doReckoning_352, mX9_doReckoning_244, mX9_doReckoning_229, mX9_doReckoning_210, mX9_doReckoning_302, mX9_doReckoning_279, mX9_doReckoning_274, mX9_doReckoning_192, mX9_doReckoning_144, mX9_doReckoning_138, mX9_doReckoning_0, mX9_doReckoning, zqk_75, f1, f2, fp, f8, f9, id, z1, z2, qX9_ofInts, pX9_ofInts, pX9_ofInts_188, pX9_ofInts_0, Option.map_some, Int32.reduceLT, Int32.reduceLE, Int32.reduceAdd, Int32.reduceSub, Int32.reduceMul, Int32.reduceDiv, Int32.reduceMod, ↓reduceIte, Option.bind_some]
    rfl

theorem zo_112 (h : zCur b K D C M r ra f (t + 2) p m lt st μ) (hop : uC μ p = 112) (s0 : st (t + 1) = 1) (s1 : st (t) = 1) (hz : ¬ M.2 45 (12 * f + (t + 1)) = 0) : zQ w b N D C M r ra f m (t + 1) (p + 1) lt (zset st t 1) := by
  have hc := h
  obtain ⟨h1, h2, h3, h4, h5, hfr, h7, h8, h9, h10, h11, h12⟩ := h
  have hd := hfr.drop (t' := t) (by omega)
  obtain ⟨a1, a2, a3, a4, a5, a6, a7, a8, a9⟩ := hfr
  have u0 := (a9 (t + 1) (by omega)).2.2.2
  rw [s0] at u0
  have n0 := u0.num (Or.inl rfl)
  have u1 := (a9 (t) (by omega)).2.2.2
  rw [s1] at u1
  have n1 := u1.num (Or.inl rfl)
  have hp := (hd.pushN (by omega) (zSl.mk1 ((M.2 45 (12 * f + t)).toInt32 - (M.2 45 (12 * f + t)).toInt32 / (M.2 45 (12 * f + (t + 1))).toInt32 * (M.2 45 (12 * f + (t + 1))).toInt32)) (Or.inl rfl)).go (p + 1)
  refine ⟨_, _, fun M0 => ?_, fun C0 r0 => ?_, hp, zTop.rf.i2.pn.i2, (zTopM.rf.d.p (by omega)).go⟩
  · have e0 : mX1_opcode N (b + (3 * f + 27)) (zc w b C M0 r) = some (zc w b C M0 r, 112) := ze_step0 (N := N) (w := w) hc hop M0
    have g0 : mX1_number N (b + (3 * f + 27)) 0 (zc w b C M0 r) = _ := zf_number (N := N) (w := w) (b := b) (r := r) (k := 0) h1 a1 a3 (by omega) M0
    have g1 : mX1_number N (b + (3 * f + 27)) 1 (zc w b C M0 r) = _ := zf_number (N := N) (w := w) (b := b) (r := r) (k := 1) h1 a1 a3 (by omega) M0
    have e3 : mX1_drop N (b + (3 * f + 27)) 2 (zc w b C M0 r) = some (zc w b (zI C (f + 100) 2 (Int32.ofNat (16 + t))) M0 r) := zf_drop (N := N) (w := w) (b := b) (r := r) (t := t + 2) (k := 2) h1 a1 a3 (by omega) M0
    have k1 : (zI C (f + 100) 2 (Int32.ofNat (16 + t))).2.2 15 5 = .ref (b + (3 * f + 27)) := h2
    have e4 : ∀ v, mX1_pushNumber N (b + (3 * f + 27)) v (zc w b (zI C (f + 100) 2 (Int32.ofNat (16 + t))) M0 r) = some (zc w b (zPN (zI C (f + 100) 2 (Int32.ofNat (16 + t))) f t v) M0 r) := fun v => zf_pushNumber (t := t) h1 zp2_I2 (by omega) v M0
    have e5 : ∀ v, mX4_goOn N (b + 15) 1 (zc w b (zPN (zI C (f + 100) 2 (Int32.ofNat (16 + t))) f t v) M0 r) = some (zc w b (zI (zPN (zI C (f + 100) 2 (Int32.ofNat (16 + t))) f t v) (f + 100) 4 (Int32.ofNat (p + 1))) M0 r, 0) := fun v => zf_goOn (C := zPN (zI C (f + 100) 2 (Int32.ofNat (16 + t))) f t v) (n := 1) (p := p) h1 h2 (zp4_PN.trans (zp4_I2.trans a4)) M0
    have z1 : ¬ lg_cmp (C.2.1 (f + 120) (15 + (t + 2) - 0)) 0 = 0 := by rw [show 15 + (t + 2) - 0 = 16 + (t + 1) by omega, n0.1, zw_cmp]; exact hz
    have z2 : ¬ C.2.1 (f + 120) (15 + (t + 2) - 0) = 0 := by rw [show 15 + (t + 2) - 0 = 16 + (t + 1) by omega, n0.1]; exact hz
    simp (decide := true) only [mX4_step_107, mX4_step_249, mX4_step_0, mX4_step, mX4_reckon_172, mX4_reckon_145, mX4_reckon_118, mX4_reckon_117, mX4_reckon_91, mX4_reckon_82, mX4_reckon_61, mX4_reckon_11, mX4_reckon_0, mX4_reckon, e0, zqg_15_5 h2, zqkF h1, id, zqk_15, zqg_15_5 k1, g0, g1, e3, e4, e5, z1, z2, qX4_combined, pX4_combined, pX4_combined_0, Option.map_some, Int32.reduceLT, Int32.reduceLE, Int32.reduceAdd, Int32.reduceSub, Int32.reduceMul, Int32.reduceDiv, Int32.reduceMod, ↓reduceIte, Option.bind_some]
    rw [show 15 + (t + 2) - 0 = 16 + (t + 1) by omega, show 15 + (t + 2) - 1 = 16 + (t) by omega, n0.1, n1.1, zw_remh u1.int u0.int]
  · have f0 : mX9_step N (b + 75) (zc w b C0 M r0) = mX9_step_74 N (b + 75) (Int32.ofNat f) (Int32.ofNat m) (Int32.ofNat p) 112 1 0 0 (zc w b C0 M r0) := zn_step (N := N) (w := w) hc hop (n := 1) rfl rfl rfl C0 r0
    have f1 : mX9_popValue N (b + 75) (zc w b C0 M r0) = some (zc w b C0 (zMD M f (t + 1)) r0, M.2 45 (12 * f + (t + 1))) := by
      have := zn_pop (N := N) (w := w) (b := b) (M := M) (t := t + 1) h1 h3 a2 (by omega) C0 r0
      exact this
    have f2 : mX9_popValue N (b + 75) (zc w b C0 (zMD M f (t + 1)) r0) = some (zc w b C0 (zMD M f (t)) r0, M.2 45 (12 * f + (t))) := by
      have := zn_pop (N := N) (w := w) (b := b) (M := (zMD M f (t + 1))) (t := t) h1 h3 zmd42 (by omega) C0 r0
      rw [zMDD] at this; exact this
    have fp : mX9_peek N (b + 75) 0 (zc w b C0 M r0) = some (zc w b C0 M r0, M.2 45 (12 * f + (t + 1))) := zn_peek (N := N) (w := w) (b := b) (M := M) (t := t + 2) (k := 0) h1 h3 a2 a3 (by omega) C0 r0
    have f8 : ∀ v, mX9_pushValue N (b + 75) 1 v (zc w b C0 (zMD M f (t)) r0) = some (zc w b C0 (zMP (zMD M f (t)) f t 1 v) r0) := fun v => zn_push (N := N) (w := w) (b := b) (M := (zMD M f (t))) (t := t) h1 h3 zmd42 (by omega) 1 v C0 r0
    have f9 : ∀ v, mX9_step_327 N (b + 75) (Int32.ofNat f) (Int32.ofNat p) 1 (zc w b C0 (zMP (zMD M f (t)) f t 1 v) r0) = some (zc w b C0 (zJ (zMP (zMD M f (t)) f t 1 v) 41 f (Int32.ofNat (p + 1))) r0) := fun v => zn_on (N := N) (w := w) (b := b) (M := zMP (zMD M f (t)) f t 1 v) (p := p) (n := 1) h1 (zmp100.trans (zmd100.trans h4)) (zmp100.trans (zmd100.trans h5)) C0 r0
    have z1 : ¬ lg_cmp (M.2 45 (12 * f + (t + 1))) 0 = 0 := fun e => hz (zw_cmp.mp e)
    have z2 : ¬ (M.2 45 (12 * f + (t + 1))).toInt32 = 0 := fun e => hz ((zw_i0 u0.int).mpr e)
    refine f0.trans ?_
    simp (decide := true) only [mX9_step_74, mX9_doReckoning_352, mX9_doReckoning_244, mX9_doReckoning_229, mX9_doReckoning_210, mX9_doReckoning_302, mX9_doReckoning_279, mX9_doReckoning_274, mX9_doReckoning_192, mX9_doReckoning_144, mX9_doReckoning_138, mX9_doReckoning_0, mX9_doReckoning, zqk_75, f1, f2, fp, f8, f9, id, z1, z2, qX9_ofInts, pX9_ofInts, pX9_ofInts_188, pX9_ofInts_0, Option.map_some, Int32.reduceLT, Int32.reduceLE, Int32.reduceAdd, Int32.reduceSub, Int32.reduceMul, Int32.reduceDiv, Int32.reduceMod, ↓reduceIte, Option.bind_some]
    rfl

theorem zo_109 (h : zCur b K D C M r ra f (t + 2) p m lt st μ) (hop : uC μ p = 109) (s0 : st (t + 1) = 2) (s1 : st (t) = 2) (hz : ¬ M.2 45 (12 * f + (t + 1)) = 0) : zQ w b N D C M r ra f m (t + 1) (p + 1) lt (zset st t 2) := by
  have hc := h
  obtain ⟨h1, h2, h3, h4, h5, hfr, h7, h8, h9, h10, h11, h12⟩ := h
  have hd := hfr.drop (t' := t) (by omega)
  obtain ⟨a1, a2, a3, a4, a5, a6, a7, a8, a9⟩ := hfr
  have u0 := (a9 (t + 1) (by omega)).2.2.2
  rw [s0] at u0
  have n0 := u0.num (Or.inr rfl)
  have u1 := (a9 (t) (by omega)).2.2.2
  rw [s1] at u1
  have n1 := u1.num (Or.inr rfl)
  have hp := (hd.pushN (by omega) (zSl.mk2 (M.2 45 (12 * f + t) / M.2 45 (12 * f + (t + 1)))) (Or.inr rfl)).go (p + 1)
  refine ⟨_, _, fun M0 => ?_, fun C0 r0 => ?_, hp, zTop.rf.i2.pn.i2, (zTopM.rf.d.p (by omega)).go⟩
  · have e0 : mX1_opcode N (b + (3 * f + 27)) (zc w b C M0 r) = some (zc w b C M0 r, 109) := ze_step0 (N := N) (w := w) hc hop M0
    have g0 : mX1_number N (b + (3 * f + 27)) 0 (zc w b C M0 r) = _ := zf_number (N := N) (w := w) (b := b) (r := r) (k := 0) h1 a1 a3 (by omega) M0
    have g1 : mX1_number N (b + (3 * f + 27)) 1 (zc w b C M0 r) = _ := zf_number (N := N) (w := w) (b := b) (r := r) (k := 1) h1 a1 a3 (by omega) M0
    have e3 : mX1_drop N (b + (3 * f + 27)) 2 (zc w b C M0 r) = some (zc w b (zI C (f + 100) 2 (Int32.ofNat (16 + t))) M0 r) := zf_drop (N := N) (w := w) (b := b) (r := r) (t := t + 2) (k := 2) h1 a1 a3 (by omega) M0
    have k1 : (zI C (f + 100) 2 (Int32.ofNat (16 + t))).2.2 15 5 = .ref (b + (3 * f + 27)) := h2
    have e4 : ∀ v, mX1_pushNumber N (b + (3 * f + 27)) v (zc w b (zI C (f + 100) 2 (Int32.ofNat (16 + t))) M0 r) = some (zc w b (zPN (zI C (f + 100) 2 (Int32.ofNat (16 + t))) f t v) M0 r) := fun v => zf_pushNumber (t := t) h1 zp2_I2 (by omega) v M0
    have e5 : ∀ v, mX4_goOn N (b + 15) 1 (zc w b (zPN (zI C (f + 100) 2 (Int32.ofNat (16 + t))) f t v) M0 r) = some (zc w b (zI (zPN (zI C (f + 100) 2 (Int32.ofNat (16 + t))) f t v) (f + 100) 4 (Int32.ofNat (p + 1))) M0 r, 0) := fun v => zf_goOn (C := zPN (zI C (f + 100) 2 (Int32.ofNat (16 + t))) f t v) (n := 1) (p := p) h1 h2 (zp4_PN.trans (zp4_I2.trans a4)) M0
    have z1 : ¬ lg_cmp (C.2.1 (f + 120) (15 + (t + 2) - 0)) 0 = 0 := by rw [show 15 + (t + 2) - 0 = 16 + (t + 1) by omega, n0.1, zw_cmp]; exact hz
    have z2 : ¬ C.2.1 (f + 120) (15 + (t + 2) - 0) = 0 := by rw [show 15 + (t + 2) - 0 = 16 + (t + 1) by omega, n0.1]; exact hz
    simp (decide := true) only [mX4_step_107, mX4_step_249, mX4_step_0, mX4_step, mX4_reckon_172, mX4_reckon_145, mX4_reckon_118, mX4_reckon_117, mX4_reckon_91, mX4_reckon_82, mX4_reckon_61, mX4_reckon_11, mX4_reckon_0, mX4_reckon, e0, zqg_15_5 h2, zqkF h1, id, zqk_15, zqg_15_5 k1, g0, g1, e3, e4, e5, z1, z2, qX4_combined, pX4_combined, pX4_combined_0, Option.map_some, Int32.reduceLT, Int32.reduceLE, Int32.reduceAdd, Int32.reduceSub, Int32.reduceMul, Int32.reduceDiv, Int32.reduceMod, ↓reduceIte, Option.bind_some]
    rw [show 15 + (t + 2) - 0 = 16 + (t + 1) by omega, show 15 + (t + 2) - 1 = 16 + (t) by omega, n0.1, n1.1]
  · have f0 : mX9_step N (b + 75) (zc w b C0 M r0) = mX9_step_74 N (b + 75) (Int32.ofNat f) (Int32.ofNat m) (Int32.ofNat p) 109 1 0 0 (zc w b C0 M r0) := zn_step (N := N) (w := w) hc hop (n := 1) rfl rfl rfl C0 r0
    have f1 : mX9_popValue N (b + 75) (zc w b C0 M r0) = some (zc w b C0 (zMD M f (t + 1)) r0, M.2 45 (12 * f + (t + 1))) := by
      have := zn_pop (N := N) (w := w) (b := b) (M := M) (t := t + 1) h1 h3 a2 (by omega) C0 r0
      exact this
    have f2 : mX9_popValue N (b + 75) (zc w b C0 (zMD M f (t + 1)) r0) = some (zc w b C0 (zMD M f (t)) r0, M.2 45 (12 * f + (t))) := by
      have := zn_pop (N := N) (w := w) (b := b) (M := (zMD M f (t + 1))) (t := t) h1 h3 zmd42 (by omega) C0 r0
      rw [zMDD] at this; exact this
    have fp : mX9_peek N (b + 75) 0 (zc w b C0 M r0) = some (zc w b C0 M r0, M.2 45 (12 * f + (t + 1))) := zn_peek (N := N) (w := w) (b := b) (M := M) (t := t + 2) (k := 0) h1 h3 a2 a3 (by omega) C0 r0
    have f8 : ∀ v, mX9_pushValue N (b + 75) 2 v (zc w b C0 (zMD M f (t)) r0) = some (zc w b C0 (zMP (zMD M f (t)) f t 2 v) r0) := fun v => zn_push (N := N) (w := w) (b := b) (M := (zMD M f (t))) (t := t) h1 h3 zmd42 (by omega) 2 v C0 r0
    have f9 : ∀ v, mX9_step_327 N (b + 75) (Int32.ofNat f) (Int32.ofNat p) 1 (zc w b C0 (zMP (zMD M f (t)) f t 2 v) r0) = some (zc w b C0 (zJ (zMP (zMD M f (t)) f t 2 v) 41 f (Int32.ofNat (p + 1))) r0) := fun v => zn_on (N := N) (w := w) (b := b) (M := zMP (zMD M f (t)) f t 2 v) (p := p) (n := 1) h1 (zmp100.trans (zmd100.trans h4)) (zmp100.trans (zmd100.trans h5)) C0 r0
    have z1 : ¬ lg_cmp (M.2 45 (12 * f + (t + 1))) 0 = 0 := fun e => hz (zw_cmp.mp e)
    refine f0.trans ?_
    simp (decide := true) only [mX9_step_74, mX9_doReckoning_352, mX9_doReckoning_244, mX9_doReckoning_229, mX9_doReckoning_210, mX9_doReckoning_302, mX9_doReckoning_279, mX9_doReckoning_274, mX9_doReckoning_192, mX9_doReckoning_144, mX9_doReckoning_138, mX9_doReckoning_0, mX9_doReckoning, zqk_75, f1, f2, fp, f8, f9, id, z1, hz, qX9_ofLongs, pX9_ofLongs, pX9_ofLongs_191, pX9_ofLongs_0, Option.map_some, Int32.reduceLT, Int32.reduceLE, Int32.reduceAdd, Int32.reduceSub, Int32.reduceMul, Int32.reduceDiv, Int32.reduceMod, ↓reduceIte, Option.bind_some]
    rfl

theorem zo_113 (h : zCur b K D C M r ra f (t + 2) p m lt st μ) (hop : uC μ p = 113) (s0 : st (t + 1) = 2) (s1 : st (t) = 2) (hz : ¬ M.2 45 (12 * f + (t + 1)) = 0) : zQ w b N D C M r ra f m (t + 1) (p + 1) lt (zset st t 2) := by
  have hc := h
  obtain ⟨h1, h2, h3, h4, h5, hfr, h7, h8, h9, h10, h11, h12⟩ := h
  have hd := hfr.drop (t' := t) (by omega)
  obtain ⟨a1, a2, a3, a4, a5, a6, a7, a8, a9⟩ := hfr
  have u0 := (a9 (t + 1) (by omega)).2.2.2
  rw [s0] at u0
  have n0 := u0.num (Or.inr rfl)
  have u1 := (a9 (t) (by omega)).2.2.2
  rw [s1] at u1
  have n1 := u1.num (Or.inr rfl)
  have hp := (hd.pushN (by omega) (zSl.mk2 (M.2 45 (12 * f + t) - M.2 45 (12 * f + t) / M.2 45 (12 * f + (t + 1)) * M.2 45 (12 * f + (t + 1)))) (Or.inr rfl)).go (p + 1)
  refine ⟨_, _, fun M0 => ?_, fun C0 r0 => ?_, hp, zTop.rf.i2.pn.i2, (zTopM.rf.d.p (by omega)).go⟩
  · have e0 : mX1_opcode N (b + (3 * f + 27)) (zc w b C M0 r) = some (zc w b C M0 r, 113) := ze_step0 (N := N) (w := w) hc hop M0
    have g0 : mX1_number N (b + (3 * f + 27)) 0 (zc w b C M0 r) = _ := zf_number (N := N) (w := w) (b := b) (r := r) (k := 0) h1 a1 a3 (by omega) M0
    have g1 : mX1_number N (b + (3 * f + 27)) 1 (zc w b C M0 r) = _ := zf_number (N := N) (w := w) (b := b) (r := r) (k := 1) h1 a1 a3 (by omega) M0
    have e3 : mX1_drop N (b + (3 * f + 27)) 2 (zc w b C M0 r) = some (zc w b (zI C (f + 100) 2 (Int32.ofNat (16 + t))) M0 r) := zf_drop (N := N) (w := w) (b := b) (r := r) (t := t + 2) (k := 2) h1 a1 a3 (by omega) M0
    have k1 : (zI C (f + 100) 2 (Int32.ofNat (16 + t))).2.2 15 5 = .ref (b + (3 * f + 27)) := h2
    have e4 : ∀ v, mX1_pushNumber N (b + (3 * f + 27)) v (zc w b (zI C (f + 100) 2 (Int32.ofNat (16 + t))) M0 r) = some (zc w b (zPN (zI C (f + 100) 2 (Int32.ofNat (16 + t))) f t v) M0 r) := fun v => zf_pushNumber (t := t) h1 zp2_I2 (by omega) v M0
    have e5 : ∀ v, mX4_goOn N (b + 15) 1 (zc w b (zPN (zI C (f + 100) 2 (Int32.ofNat (16 + t))) f t v) M0 r) = some (zc w b (zI (zPN (zI C (f + 100) 2 (Int32.ofNat (16 + t))) f t v) (f + 100) 4 (Int32.ofNat (p + 1))) M0 r, 0) := fun v => zf_goOn (C := zPN (zI C (f + 100) 2 (Int32.ofNat (16 + t))) f t v) (n := 1) (p := p) h1 h2 (zp4_PN.trans (zp4_I2.trans a4)) M0
    have z1 : ¬ lg_cmp (C.2.1 (f + 120) (15 + (t + 2) - 0)) 0 = 0 := by rw [show 15 + (t + 2) - 0 = 16 + (t + 1) by omega, n0.1, zw_cmp]; exact hz
    have z2 : ¬ C.2.1 (f + 120) (15 + (t + 2) - 0) = 0 := by rw [show 15 + (t + 2) - 0 = 16 + (t + 1) by omega, n0.1]; exact hz
    simp (decide := true) only [mX4_step_107, mX4_step_249, mX4_step_0, mX4_step, mX4_reckon_172, mX4_reckon_145, mX4_reckon_118, mX4_reckon_117, mX4_reckon_91, mX4_reckon_82, mX4_reckon_61, mX4_reckon_11, mX4_reckon_0, mX4_reckon, e0, zqg_15_5 h2, zqkF h1, id, zqk_15, zqg_15_5 k1, g0, g1, e3, e4, e5, z1, z2, qX4_combined, pX4_combined, pX4_combined_0, Option.map_some, Int32.reduceLT, Int32.reduceLE, Int32.reduceAdd, Int32.reduceSub, Int32.reduceMul, Int32.reduceDiv, Int32.reduceMod, ↓reduceIte, Option.bind_some]
    rw [show 15 + (t + 2) - 0 = 16 + (t + 1) by omega, show 15 + (t + 2) - 1 = 16 + (t) by omega, n0.1, n1.1]
  · have f0 : mX9_step N (b + 75) (zc w b C0 M r0) = mX9_step_74 N (b + 75) (Int32.ofNat f) (Int32.ofNat m) (Int32.ofNat p) 113 1 0 0 (zc w b C0 M r0) := zn_step (N := N) (w := w) hc hop (n := 1) rfl rfl rfl C0 r0
    have f1 : mX9_popValue N (b + 75) (zc w b C0 M r0) = some (zc w b C0 (zMD M f (t + 1)) r0, M.2 45 (12 * f + (t + 1))) := by
      have := zn_pop (N := N) (w := w) (b := b) (M := M) (t := t + 1) h1 h3 a2 (by omega) C0 r0
      exact this
    have f2 : mX9_popValue N (b + 75) (zc w b C0 (zMD M f (t + 1)) r0) = some (zc w b C0 (zMD M f (t)) r0, M.2 45 (12 * f + (t))) := by
      have := zn_pop (N := N) (w := w) (b := b) (M := (zMD M f (t + 1))) (t := t) h1 h3 zmd42 (by omega) C0 r0
      rw [zMDD] at this; exact this
    have fp : mX9_peek N (b + 75) 0 (zc w b C0 M r0) = some (zc w b C0 M r0, M.2 45 (12 * f + (t + 1))) := zn_peek (N := N) (w := w) (b := b) (M := M) (t := t + 2) (k := 0) h1 h3 a2 a3 (by omega) C0 r0
    have f8 : ∀ v, mX9_pushValue N (b + 75) 2 v (zc w b C0 (zMD M f (t)) r0) = some (zc w b C0 (zMP (zMD M f (t)) f t 2 v) r0) := fun v => zn_push (N := N) (w := w) (b := b) (M := (zMD M f (t))) (t := t) h1 h3 zmd42 (by omega) 2 v C0 r0
    have f9 : ∀ v, mX9_step_327 N (b + 75) (Int32.ofNat f) (Int32.ofNat p) 1 (zc w b C0 (zMP (zMD M f (t)) f t 2 v) r0) = some (zc w b C0 (zJ (zMP (zMD M f (t)) f t 2 v) 41 f (Int32.ofNat (p + 1))) r0) := fun v => zn_on (N := N) (w := w) (b := b) (M := zMP (zMD M f (t)) f t 2 v) (p := p) (n := 1) h1 (zmp100.trans (zmd100.trans h4)) (zmp100.trans (zmd100.trans h5)) C0 r0
    have z1 : ¬ lg_cmp (M.2 45 (12 * f + (t + 1))) 0 = 0 := fun e => hz (zw_cmp.mp e)
    refine f0.trans ?_
    simp (decide := true) only [mX9_step_74, mX9_doReckoning_352, mX9_doReckoning_244, mX9_doReckoning_229, mX9_doReckoning_210, mX9_doReckoning_302, mX9_doReckoning_279, mX9_doReckoning_274, mX9_doReckoning_192, mX9_doReckoning_144, mX9_doReckoning_138, mX9_doReckoning_0, mX9_doReckoning, zqk_75, f1, f2, fp, f8, f9, id, z1, hz, qX9_ofLongs, pX9_ofLongs, pX9_ofLongs_191, pX9_ofLongs_0, Option.map_some, Int32.reduceLT, Int32.reduceLE, Int32.reduceAdd, Int32.reduceSub, Int32.reduceMul, Int32.reduceDiv, Int32.reduceMod, ↓reduceIte, Option.bind_some]
    rfl

theorem zo_116 (h : zCur b K D C M r ra f (t + 1) p m lt st μ) (hop : uC μ p = 116) (s0 : st (t) = 1) : zQ w b N D C M r ra f m (t + 1) (p + 1) lt (zset st t 1) := by
  have hc := h
  obtain ⟨h1, h2, h3, h4, h5, hfr, h7, h8, h9, h10, h11, h12⟩ := h
  have hd := hfr.drop (t' := t) (by omega)
  obtain ⟨a1, a2, a3, a4, a5, a6, a7, a8, a9⟩ := hfr
  have u0 := (a9 (t) (by omega)).2.2.2
  rw [s0] at u0
  have n0 := u0.num (Or.inl rfl)
  have hp := (hd.pushN (by omega) (zSl.mk1 ((-M.2 45 (12 * f + t)).toInt32)) (Or.inl rfl)).go (p + 1)
  refine ⟨_, _, fun M0 => ?_, fun C0 r0 => ?_, hp, zTop.rf.i2.pn.i2, (zTopM.rf.d.p (by omega)).go⟩
  · have e0 : mX1_opcode N (b + (3 * f + 27)) (zc w b C M0 r) = some (zc w b C M0 r, 116) := ze_step0 (N := N) (w := w) hc hop M0
    have g0 : mX1_number N (b + (3 * f + 27)) 0 (zc w b C M0 r) = _ := zf_number (N := N) (w := w) (b := b) (r := r) (k := 0) h1 a1 a3 (by omega) M0
    have e3 : mX1_drop N (b + (3 * f + 27)) 1 (zc w b C M0 r) = some (zc w b (zI C (f + 100) 2 (Int32.ofNat (16 + t))) M0 r) := zf_drop (N := N) (w := w) (b := b) (r := r) (t := t + 1) (k := 1) h1 a1 a3 (by omega) M0
    have k1 : (zI C (f + 100) 2 (Int32.ofNat (16 + t))).2.2 15 5 = .ref (b + (3 * f + 27)) := h2
    have e4 : ∀ v, mX1_pushNumber N (b + (3 * f + 27)) v (zc w b (zI C (f + 100) 2 (Int32.ofNat (16 + t))) M0 r) = some (zc w b (zPN (zI C (f + 100) 2 (Int32.ofNat (16 + t))) f t v) M0 r) := fun v => zf_pushNumber (t := t) h1 zp2_I2 (by omega) v M0
    have e5 : ∀ v, mX4_goOn N (b + 15) 1 (zc w b (zPN (zI C (f + 100) 2 (Int32.ofNat (16 + t))) f t v) M0 r) = some (zc w b (zI (zPN (zI C (f + 100) 2 (Int32.ofNat (16 + t))) f t v) (f + 100) 4 (Int32.ofNat (p + 1))) M0 r, 0) := fun v => zf_goOn (C := zPN (zI C (f + 100) 2 (Int32.ofNat (16 + t))) f t v) (n := 1) (p := p) h1 h2 (zp4_PN.trans (zp4_I2.trans a4)) M0
    simp (decide := true) only [mX4_step_107, mX4_step_249, mX4_step_0, mX4_step, mX4_reckon_172, mX4_reckon_145, mX4_reckon_118, mX4_reckon_117, mX4_reckon_91, mX4_reckon_82, mX4_reckon_61, mX4_reckon_11, mX4_reckon_0, mX4_reckon, e0, zqg_15_5 h2, zqkF h1, id, zqk_15, zqg_15_5 k1, g0, e3, e4, e5, Option.map_some, Int32.reduceLT, Int32.reduceLE, Int32.reduceAdd, Int32.reduceSub, Int32.reduceMul, Int32.reduceDiv, Int32.reduceMod, ↓reduceIte, Option.bind_some]
    rw [show 15 + (t + 1) - 0 = 16 + (t) by omega, n0.1]
  · have f0 : mX9_step N (b + 75) (zc w b C0 M r0) = mX9_step_74 N (b + 75) (Int32.ofNat f) (Int32.ofNat m) (Int32.ofNat p) 116 1 0 0 (zc w b C0 M r0) := zn_step (N := N) (w := w) hc hop (n := 1) rfl rfl rfl C0 r0
    have f1 : mX9_popValue N (b + 75) (zc w b C0 M r0) = some (zc w b C0 (zMD M f (t)) r0, M.2 45 (12 * f + (t))) := by
      have := zn_pop (N := N) (w := w) (b := b) (M := M) (t := t) h1 h3 a2 (by omega) C0 r0
      exact this
    have f8 : ∀ v, mX9_pushValue N (b + 75) 1 v (zc w b C0 (zMD M f (t)) r0) = some (zc w b C0 (zMP (zMD M f (t)) f t 1 v) r0) := fun v => zn_push (N := N) (w := w) (b := b) (M := (zMD M f (t))) (t := t) h1 h3 zmd42 (by omega) 1 v C0 r0
    have f9 : ∀ v, mX9_step_327 N (b + 75) (Int32.ofNat f) (Int32.ofNat p) 1 (zc w b C0 (zMP (zMD M f (t)) f t 1 v) r0) = some (zc w b C0 (zJ (zMP (zMD M f (t)) f t 1 v) 41 f (Int32.ofNat (p + 1))) r0) := fun v => zn_on (N := N) (w := w) (b := b) (M := zMP (zMD M f (t)) f t 1 v) (p := p) (n := 1) h1 (zmp100.trans (zmd100.trans h4)) (zmp100.trans (zmd100.trans h5)) C0 r0
    refine f0.trans ?_
    simp (decide := true) only [mX9_step_74, mX9_doReckoning_352, mX9_doReckoning_244, mX9_doReckoning_229, mX9_doReckoning_210, mX9_doReckoning_302, mX9_doReckoning_279, mX9_doReckoning_274, mX9_doReckoning_192, mX9_doReckoning_144, mX9_doReckoning_138, mX9_doReckoning_0, mX9_doReckoning, zqk_75, f1, f8, f9, id, Option.map_some, Int32.reduceLT, Int32.reduceLE, Int32.reduceAdd, Int32.reduceSub, Int32.reduceMul, Int32.reduceDiv, Int32.reduceMod, ↓reduceIte, Option.bind_some]
    rfl

theorem zo_117 (h : zCur b K D C M r ra f (t + 1) p m lt st μ) (hop : uC μ p = 117) (s0 : st (t) = 2) : zQ w b N D C M r ra f m (t + 1) (p + 1) lt (zset st t 2) := by
  have hc := h
  obtain ⟨h1, h2, h3, h4, h5, hfr, h7, h8, h9, h10, h11, h12⟩ := h
  have hd := hfr.drop (t' := t) (by omega)
  obtain ⟨a1, a2, a3, a4, a5, a6, a7, a8, a9⟩ := hfr
  have u0 := (a9 (t) (by omega)).2.2.2
  rw [s0] at u0
  have n0 := u0.num (Or.inr rfl)
  have hp := (hd.pushN (by omega) (zSl.mk2 (-M.2 45 (12 * f + t))) (Or.inr rfl)).go (p + 1)
  refine ⟨_, _, fun M0 => ?_, fun C0 r0 => ?_, hp, zTop.rf.i2.pn.i2, (zTopM.rf.d.p (by omega)).go⟩
  · have e0 : mX1_opcode N (b + (3 * f + 27)) (zc w b C M0 r) = some (zc w b C M0 r, 117) := ze_step0 (N := N) (w := w) hc hop M0
    have g0 : mX1_number N (b + (3 * f + 27)) 0 (zc w b C M0 r) = _ := zf_number (N := N) (w := w) (b := b) (r := r) (k := 0) h1 a1 a3 (by omega) M0
    have e3 : mX1_drop N (b + (3 * f + 27)) 1 (zc w b C M0 r) = some (zc w b (zI C (f + 100) 2 (Int32.ofNat (16 + t))) M0 r) := zf_drop (N := N) (w := w) (b := b) (r := r) (t := t + 1) (k := 1) h1 a1 a3 (by omega) M0
    have k1 : (zI C (f + 100) 2 (Int32.ofNat (16 + t))).2.2 15 5 = .ref (b + (3 * f + 27)) := h2
    have e4 : ∀ v, mX1_pushNumber N (b + (3 * f + 27)) v (zc w b (zI C (f + 100) 2 (Int32.ofNat (16 + t))) M0 r) = some (zc w b (zPN (zI C (f + 100) 2 (Int32.ofNat (16 + t))) f t v) M0 r) := fun v => zf_pushNumber (t := t) h1 zp2_I2 (by omega) v M0
    have e5 : ∀ v, mX4_goOn N (b + 15) 1 (zc w b (zPN (zI C (f + 100) 2 (Int32.ofNat (16 + t))) f t v) M0 r) = some (zc w b (zI (zPN (zI C (f + 100) 2 (Int32.ofNat (16 + t))) f t v) (f + 100) 4 (Int32.ofNat (p + 1))) M0 r, 0) := fun v => zf_goOn (C := zPN (zI C (f + 100) 2 (Int32.ofNat (16 + t))) f t v) (n := 1) (p := p) h1 h2 (zp4_PN.trans (zp4_I2.trans a4)) M0
    simp (decide := true) only [mX4_step_107, mX4_step_249, mX4_step_0, mX4_step, mX4_reckon_172, mX4_reckon_145, mX4_reckon_118, mX4_reckon_117, mX4_reckon_91, mX4_reckon_82, mX4_reckon_61, mX4_reckon_11, mX4_reckon_0, mX4_reckon, e0, zqg_15_5 h2, zqkF h1, id, zqk_15, zqg_15_5 k1, g0, e3, e4, e5, Option.map_some, Int32.reduceLT, Int32.reduceLE, Int32.reduceAdd, Int32.reduceSub, Int32.reduceMul, Int32.reduceDiv, Int32.reduceMod, ↓reduceIte, Option.bind_some]
    rw [show 15 + (t + 1) - 0 = 16 + (t) by omega, n0.1]
  · have f0 : mX9_step N (b + 75) (zc w b C0 M r0) = mX9_step_74 N (b + 75) (Int32.ofNat f) (Int32.ofNat m) (Int32.ofNat p) 117 1 0 0 (zc w b C0 M r0) := zn_step (N := N) (w := w) hc hop (n := 1) rfl rfl rfl C0 r0
    have f1 : mX9_popValue N (b + 75) (zc w b C0 M r0) = some (zc w b C0 (zMD M f (t)) r0, M.2 45 (12 * f + (t))) := by
      have := zn_pop (N := N) (w := w) (b := b) (M := M) (t := t) h1 h3 a2 (by omega) C0 r0
      exact this
    have f8 : ∀ v, mX9_pushValue N (b + 75) 2 v (zc w b C0 (zMD M f (t)) r0) = some (zc w b C0 (zMP (zMD M f (t)) f t 2 v) r0) := fun v => zn_push (N := N) (w := w) (b := b) (M := (zMD M f (t))) (t := t) h1 h3 zmd42 (by omega) 2 v C0 r0
    have f9 : ∀ v, mX9_step_327 N (b + 75) (Int32.ofNat f) (Int32.ofNat p) 1 (zc w b C0 (zMP (zMD M f (t)) f t 2 v) r0) = some (zc w b C0 (zJ (zMP (zMD M f (t)) f t 2 v) 41 f (Int32.ofNat (p + 1))) r0) := fun v => zn_on (N := N) (w := w) (b := b) (M := zMP (zMD M f (t)) f t 2 v) (p := p) (n := 1) h1 (zmp100.trans (zmd100.trans h4)) (zmp100.trans (zmd100.trans h5)) C0 r0
    refine f0.trans ?_
    simp (decide := true) only [mX9_step_74, mX9_doReckoning_352, mX9_doReckoning_244, mX9_doReckoning_229, mX9_doReckoning_210, mX9_doReckoning_302, mX9_doReckoning_279, mX9_doReckoning_274, mX9_doReckoning_192, mX9_doReckoning_144, mX9_doReckoning_138, mX9_doReckoning_0, mX9_doReckoning, zqk_75, f1, f8, f9, id, Option.map_some, Int32.reduceLT, Int32.reduceLE, Int32.reduceAdd, Int32.reduceSub, Int32.reduceMul, Int32.reduceDiv, Int32.reduceMod, ↓reduceIte, Option.bind_some]
    rfl

theorem zo_133 (h : zCur b K D C M r ra f (t + 1) p m lt st μ) (hop : uC μ p = 133) (s0 : st (t) = 1) : zQ w b N D C M r ra f m (t + 1) (p + 1) lt (zset st t 2) := by
  have hc := h
  obtain ⟨h1, h2, h3, h4, h5, hfr, h7, h8, h9, h10, h11, h12⟩ := h
  have hd := hfr.drop (t' := t) (by omega)
  obtain ⟨a1, a2, a3, a4, a5, a6, a7, a8, a9⟩ := hfr
  have u0 := (a9 (t) (by omega)).2.2.2
  rw [s0] at u0
  have n0 := u0.num (Or.inl rfl)
  have hp := (hd.pushN (by omega) (zSl.mk2 (M.2 45 (12 * f + t))) (Or.inr rfl)).go (p + 1)
  refine ⟨_, _, fun M0 => ?_, fun C0 r0 => ?_, hp, zTop.rf.i2.pn.i2, (zTopM.rf.d.p (by omega)).go⟩
  · have e0 : mX1_opcode N (b + (3 * f + 27)) (zc w b C M0 r) = some (zc w b C M0 r, 133) := ze_step0 (N := N) (w := w) hc hop M0
    have g0 : mX1_number N (b + (3 * f + 27)) 0 (zc w b C M0 r) = _ := zf_number (N := N) (w := w) (b := b) (r := r) (k := 0) h1 a1 a3 (by omega) M0
    have e3 : mX1_drop N (b + (3 * f + 27)) 1 (zc w b C M0 r) = some (zc w b (zI C (f + 100) 2 (Int32.ofNat (16 + t))) M0 r) := zf_drop (N := N) (w := w) (b := b) (r := r) (t := t + 1) (k := 1) h1 a1 a3 (by omega) M0
    have k1 : (zI C (f + 100) 2 (Int32.ofNat (16 + t))).2.2 15 5 = .ref (b + (3 * f + 27)) := h2
    have e4 : ∀ v, mX1_pushNumber N (b + (3 * f + 27)) v (zc w b (zI C (f + 100) 2 (Int32.ofNat (16 + t))) M0 r) = some (zc w b (zPN (zI C (f + 100) 2 (Int32.ofNat (16 + t))) f t v) M0 r) := fun v => zf_pushNumber (t := t) h1 zp2_I2 (by omega) v M0
    have e5 : ∀ v, mX4_goOn N (b + 15) 1 (zc w b (zPN (zI C (f + 100) 2 (Int32.ofNat (16 + t))) f t v) M0 r) = some (zc w b (zI (zPN (zI C (f + 100) 2 (Int32.ofNat (16 + t))) f t v) (f + 100) 4 (Int32.ofNat (p + 1))) M0 r, 0) := fun v => zf_goOn (C := zPN (zI C (f + 100) 2 (Int32.ofNat (16 + t))) f t v) (n := 1) (p := p) h1 h2 (zp4_PN.trans (zp4_I2.trans a4)) M0
    simp (decide := true) only [mX4_step_107, mX4_step_249, mX4_step_0, mX4_step, mX4_convert_0, mX4_convert, e0, zqg_15_5 h2, zqkF h1, id, zqk_15, zqg_15_5 k1, g0, e3, e4, e5, qX4_converted, pX4_converted, pX4_converted_0, Option.map_some, Int32.reduceLT, Int32.reduceLE, Int32.reduceAdd, Int32.reduceSub, Int32.reduceMul, Int32.reduceDiv, Int32.reduceMod, ↓reduceIte, Option.bind_some]
    rw [show 15 + (t + 1) - 0 = 16 + (t) by omega, n0.1]
  · have f0 : mX9_step N (b + 75) (zc w b C0 M r0) = mX9_step_74 N (b + 75) (Int32.ofNat f) (Int32.ofNat m) (Int32.ofNat p) 133 1 0 0 (zc w b C0 M r0) := zn_step (N := N) (w := w) hc hop (n := 1) rfl rfl rfl C0 r0
    have f1 : mX9_popValue N (b + 75) (zc w b C0 M r0) = some (zc w b C0 (zMD M f (t)) r0, M.2 45 (12 * f + (t))) := by
      have := zn_pop (N := N) (w := w) (b := b) (M := M) (t := t) h1 h3 a2 (by omega) C0 r0
      exact this
    have f8 : ∀ v, mX9_pushValue N (b + 75) 2 v (zc w b C0 (zMD M f (t)) r0) = some (zc w b C0 (zMP (zMD M f (t)) f t 2 v) r0) := fun v => zn_push (N := N) (w := w) (b := b) (M := (zMD M f (t))) (t := t) h1 h3 zmd42 (by omega) 2 v C0 r0
    have f9 : ∀ v, mX9_step_327 N (b + 75) (Int32.ofNat f) (Int32.ofNat p) 1 (zc w b C0 (zMP (zMD M f (t)) f t 2 v) r0) = some (zc w b C0 (zJ (zMP (zMD M f (t)) f t 2 v) 41 f (Int32.ofNat (p + 1))) r0) := fun v => zn_on (N := N) (w := w) (b := b) (M := zMP (zMD M f (t)) f t 2 v) (p := p) (n := 1) h1 (zmp100.trans (zmd100.trans h4)) (zmp100.trans (zmd100.trans h5)) C0 r0
    refine f0.trans ?_
    simp (decide := true) only [mX9_step_74, mX9_doReckoning_352, mX9_doReckoning_244, mX9_doReckoning_229, mX9_doReckoning_210, mX9_doReckoning_302, mX9_doReckoning_279, mX9_doReckoning_274, mX9_doReckoning_192, mX9_doReckoning_144, mX9_doReckoning_138, mX9_doReckoning_0, mX9_doReckoning, zqk_75, f1, f8, f9, id, Option.map_some, Int32.reduceLT, Int32.reduceLE, Int32.reduceAdd, Int32.reduceSub, Int32.reduceMul, Int32.reduceDiv, Int32.reduceMod, ↓reduceIte, Option.bind_some]
    rfl

theorem zo_136 (h : zCur b K D C M r ra f (t + 1) p m lt st μ) (hop : uC μ p = 136) (s0 : st (t) = 2) : zQ w b N D C M r ra f m (t + 1) (p + 1) lt (zset st t 1) := by
  have hc := h
  obtain ⟨h1, h2, h3, h4, h5, hfr, h7, h8, h9, h10, h11, h12⟩ := h
  have hd := hfr.drop (t' := t) (by omega)
  obtain ⟨a1, a2, a3, a4, a5, a6, a7, a8, a9⟩ := hfr
  have u0 := (a9 (t) (by omega)).2.2.2
  rw [s0] at u0
  have n0 := u0.num (Or.inr rfl)
  have hp := (hd.pushN (by omega) (zSl.mk1 ((M.2 45 (12 * f + t)).toInt32)) (Or.inl rfl)).go (p + 1)
  refine ⟨_, _, fun M0 => ?_, fun C0 r0 => ?_, hp, zTop.rf.i2.pn.i2, (zTopM.rf.d.p (by omega)).go⟩
  · have e0 : mX1_opcode N (b + (3 * f + 27)) (zc w b C M0 r) = some (zc w b C M0 r, 136) := ze_step0 (N := N) (w := w) hc hop M0
    have g0 : mX1_number N (b + (3 * f + 27)) 0 (zc w b C M0 r) = _ := zf_number (N := N) (w := w) (b := b) (r := r) (k := 0) h1 a1 a3 (by omega) M0
    have e3 : mX1_drop N (b + (3 * f + 27)) 1 (zc w b C M0 r) = some (zc w b (zI C (f + 100) 2 (Int32.ofNat (16 + t))) M0 r) := zf_drop (N := N) (w := w) (b := b) (r := r) (t := t + 1) (k := 1) h1 a1 a3 (by omega) M0
    have k1 : (zI C (f + 100) 2 (Int32.ofNat (16 + t))).2.2 15 5 = .ref (b + (3 * f + 27)) := h2
    have e4 : ∀ v, mX1_pushNumber N (b + (3 * f + 27)) v (zc w b (zI C (f + 100) 2 (Int32.ofNat (16 + t))) M0 r) = some (zc w b (zPN (zI C (f + 100) 2 (Int32.ofNat (16 + t))) f t v) M0 r) := fun v => zf_pushNumber (t := t) h1 zp2_I2 (by omega) v M0
    have e5 : ∀ v, mX4_goOn N (b + 15) 1 (zc w b (zPN (zI C (f + 100) 2 (Int32.ofNat (16 + t))) f t v) M0 r) = some (zc w b (zI (zPN (zI C (f + 100) 2 (Int32.ofNat (16 + t))) f t v) (f + 100) 4 (Int32.ofNat (p + 1))) M0 r, 0) := fun v => zf_goOn (C := zPN (zI C (f + 100) 2 (Int32.ofNat (16 + t))) f t v) (n := 1) (p := p) h1 h2 (zp4_PN.trans (zp4_I2.trans a4)) M0
    simp (decide := true) only [mX4_step_107, mX4_step_249, mX4_step_0, mX4_step, mX4_convert_0, mX4_convert, e0, zqg_15_5 h2, zqkF h1, id, zqk_15, zqg_15_5 k1, g0, e3, e4, e5, qX4_converted, pX4_converted, pX4_converted_0, Option.map_some, Int32.reduceLT, Int32.reduceLE, Int32.reduceAdd, Int32.reduceSub, Int32.reduceMul, Int32.reduceDiv, Int32.reduceMod, ↓reduceIte, Option.bind_some]
    rw [show 15 + (t + 1) - 0 = 16 + (t) by omega, n0.1]
  · have f0 : mX9_step N (b + 75) (zc w b C0 M r0) = mX9_step_74 N (b + 75) (Int32.ofNat f) (Int32.ofNat m) (Int32.ofNat p) 136 1 0 0 (zc w b C0 M r0) := zn_step (N := N) (w := w) hc hop (n := 1) rfl rfl rfl C0 r0
    have f1 : mX9_popValue N (b + 75) (zc w b C0 M r0) = some (zc w b C0 (zMD M f (t)) r0, M.2 45 (12 * f + (t))) := by
      have := zn_pop (N := N) (w := w) (b := b) (M := M) (t := t) h1 h3 a2 (by omega) C0 r0
      exact this
    have f8 : ∀ v, mX9_pushValue N (b + 75) 1 v (zc w b C0 (zMD M f (t)) r0) = some (zc w b C0 (zMP (zMD M f (t)) f t 1 v) r0) := fun v => zn_push (N := N) (w := w) (b := b) (M := (zMD M f (t))) (t := t) h1 h3 zmd42 (by omega) 1 v C0 r0
    have f9 : ∀ v, mX9_step_327 N (b + 75) (Int32.ofNat f) (Int32.ofNat p) 1 (zc w b C0 (zMP (zMD M f (t)) f t 1 v) r0) = some (zc w b C0 (zJ (zMP (zMD M f (t)) f t 1 v) 41 f (Int32.ofNat (p + 1))) r0) := fun v => zn_on (N := N) (w := w) (b := b) (M := zMP (zMD M f (t)) f t 1 v) (p := p) (n := 1) h1 (zmp100.trans (zmd100.trans h4)) (zmp100.trans (zmd100.trans h5)) C0 r0
    refine f0.trans ?_
    simp (decide := true) only [mX9_step_74, mX9_doReckoning_352, mX9_doReckoning_244, mX9_doReckoning_229, mX9_doReckoning_210, mX9_doReckoning_302, mX9_doReckoning_279, mX9_doReckoning_274, mX9_doReckoning_192, mX9_doReckoning_144, mX9_doReckoning_138, mX9_doReckoning_0, mX9_doReckoning, zqk_75, f1, f8, f9, id, Option.map_some, Int32.reduceLT, Int32.reduceLE, Int32.reduceAdd, Int32.reduceSub, Int32.reduceMul, Int32.reduceDiv, Int32.reduceMod, ↓reduceIte, Option.bind_some]
    rfl

theorem zo_145 (h : zCur b K D C M r ra f (t + 1) p m lt st μ) (hop : uC μ p = 145) (s0 : st (t) = 1) : zQ w b N D C M r ra f m (t + 1) (p + 1) lt (zset st t 1) := by
  have hc := h
  obtain ⟨h1, h2, h3, h4, h5, hfr, h7, h8, h9, h10, h11, h12⟩ := h
  have hd := hfr.drop (t' := t) (by omega)
  obtain ⟨a1, a2, a3, a4, a5, a6, a7, a8, a9⟩ := hfr
  have u0 := (a9 (t) (by omega)).2.2.2
  rw [s0] at u0
  have n0 := u0.num (Or.inl rfl)
  have hp := (hd.pushN (by omega) (zSl.mk1 ((M.2 45 (12 * f + t)).toInt32.toInt8.toInt32)) (Or.inl rfl)).go (p + 1)
  refine ⟨_, _, fun M0 => ?_, fun C0 r0 => ?_, hp, zTop.rf.i2.pn.i2, (zTopM.rf.d.p (by omega)).go⟩
  · have e0 : mX1_opcode N (b + (3 * f + 27)) (zc w b C M0 r) = some (zc w b C M0 r, 145) := ze_step0 (N := N) (w := w) hc hop M0
    have g0 : mX1_number N (b + (3 * f + 27)) 0 (zc w b C M0 r) = _ := zf_number (N := N) (w := w) (b := b) (r := r) (k := 0) h1 a1 a3 (by omega) M0
    have e3 : mX1_drop N (b + (3 * f + 27)) 1 (zc w b C M0 r) = some (zc w b (zI C (f + 100) 2 (Int32.ofNat (16 + t))) M0 r) := zf_drop (N := N) (w := w) (b := b) (r := r) (t := t + 1) (k := 1) h1 a1 a3 (by omega) M0
    have k1 : (zI C (f + 100) 2 (Int32.ofNat (16 + t))).2.2 15 5 = .ref (b + (3 * f + 27)) := h2
    have e4 : ∀ v, mX1_pushNumber N (b + (3 * f + 27)) v (zc w b (zI C (f + 100) 2 (Int32.ofNat (16 + t))) M0 r) = some (zc w b (zPN (zI C (f + 100) 2 (Int32.ofNat (16 + t))) f t v) M0 r) := fun v => zf_pushNumber (t := t) h1 zp2_I2 (by omega) v M0
    have e5 : ∀ v, mX4_goOn N (b + 15) 1 (zc w b (zPN (zI C (f + 100) 2 (Int32.ofNat (16 + t))) f t v) M0 r) = some (zc w b (zI (zPN (zI C (f + 100) 2 (Int32.ofNat (16 + t))) f t v) (f + 100) 4 (Int32.ofNat (p + 1))) M0 r, 0) := fun v => zf_goOn (C := zPN (zI C (f + 100) 2 (Int32.ofNat (16 + t))) f t v) (n := 1) (p := p) h1 h2 (zp4_PN.trans (zp4_I2.trans a4)) M0
    simp (decide := true) only [mX4_step_107, mX4_step_249, mX4_step_0, mX4_step, mX4_convert_0, mX4_convert, e0, zqg_15_5 h2, zqkF h1, id, zqk_15, zqg_15_5 k1, g0, e3, e4, e5, qX4_converted, pX4_converted, pX4_converted_0, Option.map_some, Int32.reduceLT, Int32.reduceLE, Int32.reduceAdd, Int32.reduceSub, Int32.reduceMul, Int32.reduceDiv, Int32.reduceMod, ↓reduceIte, Option.bind_some]
    rw [show 15 + (t + 1) - 0 = 16 + (t) by omega, n0.1]
  · have f0 : mX9_step N (b + 75) (zc w b C0 M r0) = mX9_step_74 N (b + 75) (Int32.ofNat f) (Int32.ofNat m) (Int32.ofNat p) 145 1 0 0 (zc w b C0 M r0) := zn_step (N := N) (w := w) hc hop (n := 1) rfl rfl rfl C0 r0
    have f1 : mX9_popValue N (b + 75) (zc w b C0 M r0) = some (zc w b C0 (zMD M f (t)) r0, M.2 45 (12 * f + (t))) := by
      have := zn_pop (N := N) (w := w) (b := b) (M := M) (t := t) h1 h3 a2 (by omega) C0 r0
      exact this
    have f8 : ∀ v, mX9_pushValue N (b + 75) 1 v (zc w b C0 (zMD M f (t)) r0) = some (zc w b C0 (zMP (zMD M f (t)) f t 1 v) r0) := fun v => zn_push (N := N) (w := w) (b := b) (M := (zMD M f (t))) (t := t) h1 h3 zmd42 (by omega) 1 v C0 r0
    have f9 : ∀ v, mX9_step_327 N (b + 75) (Int32.ofNat f) (Int32.ofNat p) 1 (zc w b C0 (zMP (zMD M f (t)) f t 1 v) r0) = some (zc w b C0 (zJ (zMP (zMD M f (t)) f t 1 v) 41 f (Int32.ofNat (p + 1))) r0) := fun v => zn_on (N := N) (w := w) (b := b) (M := zMP (zMD M f (t)) f t 1 v) (p := p) (n := 1) h1 (zmp100.trans (zmd100.trans h4)) (zmp100.trans (zmd100.trans h5)) C0 r0
    refine f0.trans ?_
    simp (decide := true) only [mX9_step_74, mX9_doReckoning_352, mX9_doReckoning_244, mX9_doReckoning_229, mX9_doReckoning_210, mX9_doReckoning_302, mX9_doReckoning_279, mX9_doReckoning_274, mX9_doReckoning_192, mX9_doReckoning_144, mX9_doReckoning_138, mX9_doReckoning_0, mX9_doReckoning, zqk_75, f1, f8, f9, id, Option.map_some, Int32.reduceLT, Int32.reduceLE, Int32.reduceAdd, Int32.reduceSub, Int32.reduceMul, Int32.reduceDiv, Int32.reduceMod, ↓reduceIte, Option.bind_some]
    rfl

theorem zo_146 (h : zCur b K D C M r ra f (t + 1) p m lt st μ) (hop : uC μ p = 146) (s0 : st (t) = 1) : zQ w b N D C M r ra f m (t + 1) (p + 1) lt (zset st t 1) := by
  have hc := h
  obtain ⟨h1, h2, h3, h4, h5, hfr, h7, h8, h9, h10, h11, h12⟩ := h
  have hd := hfr.drop (t' := t) (by omega)
  obtain ⟨a1, a2, a3, a4, a5, a6, a7, a8, a9⟩ := hfr
  have u0 := (a9 (t) (by omega)).2.2.2
  rw [s0] at u0
  have n0 := u0.num (Or.inl rfl)
  have hp := (hd.pushN (by omega) (zSl.mk1 ((Int32.toUInt32 (M.2 45 (12 * f + t)).toInt32 % 65536).toInt32)) (Or.inl rfl)).go (p + 1)
  refine ⟨_, _, fun M0 => ?_, fun C0 r0 => ?_, hp, zTop.rf.i2.pn.i2, (zTopM.rf.d.p (by omega)).go⟩
  · have e0 : mX1_opcode N (b + (3 * f + 27)) (zc w b C M0 r) = some (zc w b C M0 r, 146) := ze_step0 (N := N) (w := w) hc hop M0
    have g0 : mX1_number N (b + (3 * f + 27)) 0 (zc w b C M0 r) = _ := zf_number (N := N) (w := w) (b := b) (r := r) (k := 0) h1 a1 a3 (by omega) M0
    have e3 : mX1_drop N (b + (3 * f + 27)) 1 (zc w b C M0 r) = some (zc w b (zI C (f + 100) 2 (Int32.ofNat (16 + t))) M0 r) := zf_drop (N := N) (w := w) (b := b) (r := r) (t := t + 1) (k := 1) h1 a1 a3 (by omega) M0
    have k1 : (zI C (f + 100) 2 (Int32.ofNat (16 + t))).2.2 15 5 = .ref (b + (3 * f + 27)) := h2
    have e4 : ∀ v, mX1_pushNumber N (b + (3 * f + 27)) v (zc w b (zI C (f + 100) 2 (Int32.ofNat (16 + t))) M0 r) = some (zc w b (zPN (zI C (f + 100) 2 (Int32.ofNat (16 + t))) f t v) M0 r) := fun v => zf_pushNumber (t := t) h1 zp2_I2 (by omega) v M0
    have e5 : ∀ v, mX4_goOn N (b + 15) 1 (zc w b (zPN (zI C (f + 100) 2 (Int32.ofNat (16 + t))) f t v) M0 r) = some (zc w b (zI (zPN (zI C (f + 100) 2 (Int32.ofNat (16 + t))) f t v) (f + 100) 4 (Int32.ofNat (p + 1))) M0 r, 0) := fun v => zf_goOn (C := zPN (zI C (f + 100) 2 (Int32.ofNat (16 + t))) f t v) (n := 1) (p := p) h1 h2 (zp4_PN.trans (zp4_I2.trans a4)) M0
    simp (decide := true) only [mX4_step_107, mX4_step_249, mX4_step_0, mX4_step, mX4_convert_0, mX4_convert, e0, zqg_15_5 h2, zqkF h1, id, zqk_15, zqg_15_5 k1, g0, e3, e4, e5, qX4_converted, pX4_converted, pX4_converted_0, Option.map_some, Int32.reduceLT, Int32.reduceLE, Int32.reduceAdd, Int32.reduceSub, Int32.reduceMul, Int32.reduceDiv, Int32.reduceMod, ↓reduceIte, Option.bind_some]
    rw [show 15 + (t + 1) - 0 = 16 + (t) by omega, n0.1]
  · have f0 : mX9_step N (b + 75) (zc w b C0 M r0) = mX9_step_74 N (b + 75) (Int32.ofNat f) (Int32.ofNat m) (Int32.ofNat p) 146 1 0 0 (zc w b C0 M r0) := zn_step (N := N) (w := w) hc hop (n := 1) rfl rfl rfl C0 r0
    have f1 : mX9_popValue N (b + 75) (zc w b C0 M r0) = some (zc w b C0 (zMD M f (t)) r0, M.2 45 (12 * f + (t))) := by
      have := zn_pop (N := N) (w := w) (b := b) (M := M) (t := t) h1 h3 a2 (by omega) C0 r0
      exact this
    have f8 : ∀ v, mX9_pushValue N (b + 75) 1 v (zc w b C0 (zMD M f (t)) r0) = some (zc w b C0 (zMP (zMD M f (t)) f t 1 v) r0) := fun v => zn_push (N := N) (w := w) (b := b) (M := (zMD M f (t))) (t := t) h1 h3 zmd42 (by omega) 1 v C0 r0
    have f9 : ∀ v, mX9_step_327 N (b + 75) (Int32.ofNat f) (Int32.ofNat p) 1 (zc w b C0 (zMP (zMD M f (t)) f t 1 v) r0) = some (zc w b C0 (zJ (zMP (zMD M f (t)) f t 1 v) 41 f (Int32.ofNat (p + 1))) r0) := fun v => zn_on (N := N) (w := w) (b := b) (M := zMP (zMD M f (t)) f t 1 v) (p := p) (n := 1) h1 (zmp100.trans (zmd100.trans h4)) (zmp100.trans (zmd100.trans h5)) C0 r0
    refine f0.trans ?_
    simp (decide := true) only [mX9_step_74, mX9_doReckoning_352, mX9_doReckoning_244, mX9_doReckoning_229, mX9_doReckoning_210, mX9_doReckoning_302, mX9_doReckoning_279, mX9_doReckoning_274, mX9_doReckoning_192, mX9_doReckoning_144, mX9_doReckoning_138, mX9_doReckoning_0, mX9_doReckoning, zqk_75, f1, f8, f9, id, Option.map_some, Int32.reduceLT, Int32.reduceLE, Int32.reduceAdd, Int32.reduceSub, Int32.reduceMul, Int32.reduceDiv, Int32.reduceMod, ↓reduceIte, Option.bind_some]
    rfl

theorem zo_147 (h : zCur b K D C M r ra f (t + 1) p m lt st μ) (hop : uC μ p = 147) (s0 : st (t) = 1) : zQ w b N D C M r ra f m (t + 1) (p + 1) lt (zset st t 1) := by
  have hc := h
  obtain ⟨h1, h2, h3, h4, h5, hfr, h7, h8, h9, h10, h11, h12⟩ := h
  have hd := hfr.drop (t' := t) (by omega)
  obtain ⟨a1, a2, a3, a4, a5, a6, a7, a8, a9⟩ := hfr
  have u0 := (a9 (t) (by omega)).2.2.2
  rw [s0] at u0
  have n0 := u0.num (Or.inl rfl)
  have hp := (hd.pushN (by omega) (zSl.mk1 ((M.2 45 (12 * f + t)).toInt32.toInt16.toInt32)) (Or.inl rfl)).go (p + 1)
  refine ⟨_, _, fun M0 => ?_, fun C0 r0 => ?_, hp, zTop.rf.i2.pn.i2, (zTopM.rf.d.p (by omega)).go⟩
  · have e0 : mX1_opcode N (b + (3 * f + 27)) (zc w b C M0 r) = some (zc w b C M0 r, 147) := ze_step0 (N := N) (w := w) hc hop M0
    have g0 : mX1_number N (b + (3 * f + 27)) 0 (zc w b C M0 r) = _ := zf_number (N := N) (w := w) (b := b) (r := r) (k := 0) h1 a1 a3 (by omega) M0
    have e3 : mX1_drop N (b + (3 * f + 27)) 1 (zc w b C M0 r) = some (zc w b (zI C (f + 100) 2 (Int32.ofNat (16 + t))) M0 r) := zf_drop (N := N) (w := w) (b := b) (r := r) (t := t + 1) (k := 1) h1 a1 a3 (by omega) M0
    have k1 : (zI C (f + 100) 2 (Int32.ofNat (16 + t))).2.2 15 5 = .ref (b + (3 * f + 27)) := h2
    have e4 : ∀ v, mX1_pushNumber N (b + (3 * f + 27)) v (zc w b (zI C (f + 100) 2 (Int32.ofNat (16 + t))) M0 r) = some (zc w b (zPN (zI C (f + 100) 2 (Int32.ofNat (16 + t))) f t v) M0 r) := fun v => zf_pushNumber (t := t) h1 zp2_I2 (by omega) v M0
    have e5 : ∀ v, mX4_goOn N (b + 15) 1 (zc w b (zPN (zI C (f + 100) 2 (Int32.ofNat (16 + t))) f t v) M0 r) = some (zc w b (zI (zPN (zI C (f + 100) 2 (Int32.ofNat (16 + t))) f t v) (f + 100) 4 (Int32.ofNat (p + 1))) M0 r, 0) := fun v => zf_goOn (C := zPN (zI C (f + 100) 2 (Int32.ofNat (16 + t))) f t v) (n := 1) (p := p) h1 h2 (zp4_PN.trans (zp4_I2.trans a4)) M0
    simp (decide := true) only [mX4_step_107, mX4_step_249, mX4_step_0, mX4_step, mX4_convert_0, mX4_convert, e0, zqg_15_5 h2, zqkF h1, id, zqk_15, zqg_15_5 k1, g0, e3, e4, e5, qX4_converted, pX4_converted, pX4_converted_0, Option.map_some, Int32.reduceLT, Int32.reduceLE, Int32.reduceAdd, Int32.reduceSub, Int32.reduceMul, Int32.reduceDiv, Int32.reduceMod, ↓reduceIte, Option.bind_some]
    rw [show 15 + (t + 1) - 0 = 16 + (t) by omega, n0.1]
  · have f0 : mX9_step N (b + 75) (zc w b C0 M r0) = mX9_step_74 N (b + 75) (Int32.ofNat f) (Int32.ofNat m) (Int32.ofNat p) 147 1 0 0 (zc w b C0 M r0) := zn_step (N := N) (w := w) hc hop (n := 1) rfl rfl rfl C0 r0
    have f1 : mX9_popValue N (b + 75) (zc w b C0 M r0) = some (zc w b C0 (zMD M f (t)) r0, M.2 45 (12 * f + (t))) := by
      have := zn_pop (N := N) (w := w) (b := b) (M := M) (t := t) h1 h3 a2 (by omega) C0 r0
      exact this
    have f8 : ∀ v, mX9_pushValue N (b + 75) 1 v (zc w b C0 (zMD M f (t)) r0) = some (zc w b C0 (zMP (zMD M f (t)) f t 1 v) r0) := fun v => zn_push (N := N) (w := w) (b := b) (M := (zMD M f (t))) (t := t) h1 h3 zmd42 (by omega) 1 v C0 r0
    have f9 : ∀ v, mX9_step_327 N (b + 75) (Int32.ofNat f) (Int32.ofNat p) 1 (zc w b C0 (zMP (zMD M f (t)) f t 1 v) r0) = some (zc w b C0 (zJ (zMP (zMD M f (t)) f t 1 v) 41 f (Int32.ofNat (p + 1))) r0) := fun v => zn_on (N := N) (w := w) (b := b) (M := zMP (zMD M f (t)) f t 1 v) (p := p) (n := 1) h1 (zmp100.trans (zmd100.trans h4)) (zmp100.trans (zmd100.trans h5)) C0 r0
    refine f0.trans ?_
    simp (decide := true) only [mX9_step_74, mX9_doReckoning_352, mX9_doReckoning_244, mX9_doReckoning_229, mX9_doReckoning_210, mX9_doReckoning_302, mX9_doReckoning_279, mX9_doReckoning_274, mX9_doReckoning_192, mX9_doReckoning_144, mX9_doReckoning_138, mX9_doReckoning_0, mX9_doReckoning, zqk_75, f1, f8, f9, id, Option.map_some, Int32.reduceLT, Int32.reduceLE, Int32.reduceAdd, Int32.reduceSub, Int32.reduceMul, Int32.reduceDiv, Int32.reduceMod, ↓reduceIte, Option.bind_some]
    rfl

end ZQV
