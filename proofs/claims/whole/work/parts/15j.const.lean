section ZQV
variable {N w b K f t p m : Nat} {D : Nat → Nat → Prop} {C : zC} {M : zM} {r : zv_X} {ra lt st : Nat → Nat} {μ : zMu}
theorem zo_2 (h : zCur b K D C M r ra f (t) p m lt st μ) (hop : uC μ p = 2)  (h13 : t < 12) : zQ w b N D C M r ra f m (t + 1) (p + 1) lt (zset st t 1) := by
  have hc := h
  obtain ⟨h1, h2, h3, h4, h5, hfr, h7, h8, h9, h10, h11, h12⟩ := h
  have hd := hfr
  obtain ⟨a1, a2, a3, a4, a5, a6, a7, a8, a9⟩ := hfr
  have hp := (hd.pushN (by omega) (zSl.mk1 ((-1 : Int32))) (Or.inl rfl)).go (p + 1)
  refine ⟨_, _, fun M0 => ?_, fun C0 r0 => ?_, hp, zTop.rf.pn.i2, (zTopM.rf.p (by omega)).go⟩
  · have e0 : mX1_opcode N (b + (3 * f + 27)) (zc w b C M0 r) = some (zc w b C M0 r, 2) := ze_step0 (N := N) (w := w) hc hop M0
    have e4 : ∀ v, mX1_pushNumber N (b + (3 * f + 27)) v (zc w b C M0 r) = some (zc w b (zPN C f t v) M0 r) := fun v => zf_pushNumber (t := t) h1 a1 (by omega) v M0
    have e5 : ∀ v, mX4_goOn N (b + 15) 1 (zc w b (zPN C f t v) M0 r) = some (zc w b (zI (zPN C f t v) (f + 100) 4 (Int32.ofNat (p + 1))) M0 r, 0) := fun v => zf_goOn (C := zPN C f t v) (n := 1) (p := p) h1 h2 (zp4_PN.trans a4) M0
    simp (decide := true) only [mX4_step_107, mX4_step_249, mX4_step_0, mX4_step, mX4_push_223, mX4_push_140, mX4_push_202, mX4_push_0, mX4_push, e0, zqg_15_5 h2, zqkF h1, id, zqk_15, e4, e5, Option.map_some, Int32.reduceLT, Int32.reduceLE, Int32.reduceAdd, Int32.reduceSub, Int32.reduceMul, Int32.reduceDiv, Int32.reduceMod, ↓reduceIte, Option.bind_some]
    first | rfl | done
  · have f0 : mX9_step N (b + 75) (zc w b C0 M r0) = mX9_step_74 N (b + 75) (Int32.ofNat f) (Int32.ofNat m) (Int32.ofNat p) 2 1 0 0 (zc w b C0 M r0) := zn_step (N := N) (w := w) hc hop (n := 1) rfl rfl rfl C0 r0
    have f8 : ∀ v, mX9_pushValue N (b + 75) 1 v (zc w b C0 M r0) = some (zc w b C0 (zMP M f t 1 v) r0) := fun v => zn_push (N := N) (w := w) (b := b) (M := M) (t := t) h1 h3 a2 (by omega) 1 v C0 r0
    have f9 : ∀ v, mX9_step_327 N (b + 75) (Int32.ofNat f) (Int32.ofNat p) 1 (zc w b C0 (zMP M f t 1 v) r0) = some (zc w b C0 (zJ (zMP M f t 1 v) 41 f (Int32.ofNat (p + 1))) r0) := fun v => zn_on (N := N) (w := w) (b := b) (M := zMP M f t 1 v) (p := p) (n := 1) h1 (zmp100.trans h4) (zmp100.trans h5) C0 r0
    refine f0.trans ?_
    simp (decide := true) only [mX9_step_74, mX9_doLoad_139, mX9_doLoad_49, mX9_doLoad_37, mX9_doLoad_0, mX9_doLoad, zqk_75, f8, f9, id, Option.map_some, Int32.reduceLT, Int32.reduceLE, Int32.reduceAdd, Int32.reduceSub, Int32.reduceMul, Int32.reduceDiv, Int32.reduceMod, ↓reduceIte, Option.bind_some]
    rfl

theorem zo_3 (h : zCur b K D C M r ra f (t) p m lt st μ) (hop : uC μ p = 3)  (h13 : t < 12) : zQ w b N D C M r ra f m (t + 1) (p + 1) lt (zset st t 1) := by
  have hc := h
  obtain ⟨h1, h2, h3, h4, h5, hfr, h7, h8, h9, h10, h11, h12⟩ := h
  have hd := hfr
  obtain ⟨a1, a2, a3, a4, a5, a6, a7, a8, a9⟩ := hfr
  have hp := (hd.pushN (by omega) (zSl.mk1 ((0 : Int32))) (Or.inl rfl)).go (p + 1)
  refine ⟨_, _, fun M0 => ?_, fun C0 r0 => ?_, hp, zTop.rf.pn.i2, (zTopM.rf.p (by omega)).go⟩
  · have e0 : mX1_opcode N (b + (3 * f + 27)) (zc w b C M0 r) = some (zc w b C M0 r, 3) := ze_step0 (N := N) (w := w) hc hop M0
    have e4 : ∀ v, mX1_pushNumber N (b + (3 * f + 27)) v (zc w b C M0 r) = some (zc w b (zPN C f t v) M0 r) := fun v => zf_pushNumber (t := t) h1 a1 (by omega) v M0
    have e5 : ∀ v, mX4_goOn N (b + 15) 1 (zc w b (zPN C f t v) M0 r) = some (zc w b (zI (zPN C f t v) (f + 100) 4 (Int32.ofNat (p + 1))) M0 r, 0) := fun v => zf_goOn (C := zPN C f t v) (n := 1) (p := p) h1 h2 (zp4_PN.trans a4) M0
    simp (decide := true) only [mX4_step_107, mX4_step_249, mX4_step_0, mX4_step, mX4_push_223, mX4_push_140, mX4_push_202, mX4_push_0, mX4_push, e0, zqg_15_5 h2, zqkF h1, id, zqk_15, e4, e5, Option.map_some, Int32.reduceLT, Int32.reduceLE, Int32.reduceAdd, Int32.reduceSub, Int32.reduceMul, Int32.reduceDiv, Int32.reduceMod, ↓reduceIte, Option.bind_some]
    first | rfl | done
  · have f0 : mX9_step N (b + 75) (zc w b C0 M r0) = mX9_step_74 N (b + 75) (Int32.ofNat f) (Int32.ofNat m) (Int32.ofNat p) 3 1 0 0 (zc w b C0 M r0) := zn_step (N := N) (w := w) hc hop (n := 1) rfl rfl rfl C0 r0
    have f8 : ∀ v, mX9_pushValue N (b + 75) 1 v (zc w b C0 M r0) = some (zc w b C0 (zMP M f t 1 v) r0) := fun v => zn_push (N := N) (w := w) (b := b) (M := M) (t := t) h1 h3 a2 (by omega) 1 v C0 r0
    have f9 : ∀ v, mX9_step_327 N (b + 75) (Int32.ofNat f) (Int32.ofNat p) 1 (zc w b C0 (zMP M f t 1 v) r0) = some (zc w b C0 (zJ (zMP M f t 1 v) 41 f (Int32.ofNat (p + 1))) r0) := fun v => zn_on (N := N) (w := w) (b := b) (M := zMP M f t 1 v) (p := p) (n := 1) h1 (zmp100.trans h4) (zmp100.trans h5) C0 r0
    refine f0.trans ?_
    simp (decide := true) only [mX9_step_74, mX9_doLoad_139, mX9_doLoad_49, mX9_doLoad_37, mX9_doLoad_0, mX9_doLoad, zqk_75, f8, f9, id, Option.map_some, Int32.reduceLT, Int32.reduceLE, Int32.reduceAdd, Int32.reduceSub, Int32.reduceMul, Int32.reduceDiv, Int32.reduceMod, ↓reduceIte, Option.bind_some]
    rfl

theorem zo_4 (h : zCur b K D C M r ra f (t) p m lt st μ) (hop : uC μ p = 4)  (h13 : t < 12) : zQ w b N D C M r ra f m (t + 1) (p + 1) lt (zset st t 1) := by
  have hc := h
  obtain ⟨h1, h2, h3, h4, h5, hfr, h7, h8, h9, h10, h11, h12⟩ := h
  have hd := hfr
  obtain ⟨a1, a2, a3, a4, a5, a6, a7, a8, a9⟩ := hfr
  have hp := (hd.pushN (by omega) (zSl.mk1 ((1 : Int32))) (Or.inl rfl)).go (p + 1)
  refine ⟨_, _, fun M0 => ?_, fun C0 r0 => ?_, hp, zTop.rf.pn.i2, (zTopM.rf.p (by omega)).go⟩
  · have e0 : mX1_opcode N (b + (3 * f + 27)) (zc w b C M0 r) = some (zc w b C M0 r, 4) := ze_step0 (N := N) (w := w) hc hop M0
    have e4 : ∀ v, mX1_pushNumber N (b + (3 * f + 27)) v (zc w b C M0 r) = some (zc w b (zPN C f t v) M0 r) := fun v => zf_pushNumber (t := t) h1 a1 (by omega) v M0
    have e5 : ∀ v, mX4_goOn N (b + 15) 1 (zc w b (zPN C f t v) M0 r) = some (zc w b (zI (zPN C f t v) (f + 100) 4 (Int32.ofNat (p + 1))) M0 r, 0) := fun v => zf_goOn (C := zPN C f t v) (n := 1) (p := p) h1 h2 (zp4_PN.trans a4) M0
    simp (decide := true) only [mX4_step_107, mX4_step_249, mX4_step_0, mX4_step, mX4_push_223, mX4_push_140, mX4_push_202, mX4_push_0, mX4_push, e0, zqg_15_5 h2, zqkF h1, id, zqk_15, e4, e5, Option.map_some, Int32.reduceLT, Int32.reduceLE, Int32.reduceAdd, Int32.reduceSub, Int32.reduceMul, Int32.reduceDiv, Int32.reduceMod, ↓reduceIte, Option.bind_some]
    first | rfl | done
  · have f0 : mX9_step N (b + 75) (zc w b C0 M r0) = mX9_step_74 N (b + 75) (Int32.ofNat f) (Int32.ofNat m) (Int32.ofNat p) 4 1 0 0 (zc w b C0 M r0) := zn_step (N := N) (w := w) hc hop (n := 1) rfl rfl rfl C0 r0
    have f8 : ∀ v, mX9_pushValue N (b + 75) 1 v (zc w b C0 M r0) = some (zc w b C0 (zMP M f t 1 v) r0) := fun v => zn_push (N := N) (w := w) (b := b) (M := M) (t := t) h1 h3 a2 (by omega) 1 v C0 r0
    have f9 : ∀ v, mX9_step_327 N (b + 75) (Int32.ofNat f) (Int32.ofNat p) 1 (zc w b C0 (zMP M f t 1 v) r0) = some (zc w b C0 (zJ (zMP M f t 1 v) 41 f (Int32.ofNat (p + 1))) r0) := fun v => zn_on (N := N) (w := w) (b := b) (M := zMP M f t 1 v) (p := p) (n := 1) h1 (zmp100.trans h4) (zmp100.trans h5) C0 r0
    refine f0.trans ?_
    simp (decide := true) only [mX9_step_74, mX9_doLoad_139, mX9_doLoad_49, mX9_doLoad_37, mX9_doLoad_0, mX9_doLoad, zqk_75, f8, f9, id, Option.map_some, Int32.reduceLT, Int32.reduceLE, Int32.reduceAdd, Int32.reduceSub, Int32.reduceMul, Int32.reduceDiv, Int32.reduceMod, ↓reduceIte, Option.bind_some]
    rfl

theorem zo_5 (h : zCur b K D C M r ra f (t) p m lt st μ) (hop : uC μ p = 5)  (h13 : t < 12) : zQ w b N D C M r ra f m (t + 1) (p + 1) lt (zset st t 1) := by
  have hc := h
  obtain ⟨h1, h2, h3, h4, h5, hfr, h7, h8, h9, h10, h11, h12⟩ := h
  have hd := hfr
  obtain ⟨a1, a2, a3, a4, a5, a6, a7, a8, a9⟩ := hfr
  have hp := (hd.pushN (by omega) (zSl.mk1 ((2 : Int32))) (Or.inl rfl)).go (p + 1)
  refine ⟨_, _, fun M0 => ?_, fun C0 r0 => ?_, hp, zTop.rf.pn.i2, (zTopM.rf.p (by omega)).go⟩
  · have e0 : mX1_opcode N (b + (3 * f + 27)) (zc w b C M0 r) = some (zc w b C M0 r, 5) := ze_step0 (N := N) (w := w) hc hop M0
    have e4 : ∀ v, mX1_pushNumber N (b + (3 * f + 27)) v (zc w b C M0 r) = some (zc w b (zPN C f t v) M0 r) := fun v => zf_pushNumber (t := t) h1 a1 (by omega) v M0
    have e5 : ∀ v, mX4_goOn N (b + 15) 1 (zc w b (zPN C f t v) M0 r) = some (zc w b (zI (zPN C f t v) (f + 100) 4 (Int32.ofNat (p + 1))) M0 r, 0) := fun v => zf_goOn (C := zPN C f t v) (n := 1) (p := p) h1 h2 (zp4_PN.trans a4) M0
    simp (decide := true) only [mX4_step_107, mX4_step_249, mX4_step_0, mX4_step, mX4_push_223, mX4_push_140, mX4_push_202, mX4_push_0, mX4_push, e0, zqg_15_5 h2, zqkF h1, id, zqk_15, e4, e5, Option.map_some, Int32.reduceLT, Int32.reduceLE, Int32.reduceAdd, Int32.reduceSub, Int32.reduceMul, Int32.reduceDiv, Int32.reduceMod, ↓reduceIte, Option.bind_some]
    first | rfl | done
  · have f0 : mX9_step N (b + 75) (zc w b C0 M r0) = mX9_step_74 N (b + 75) (Int32.ofNat f) (Int32.ofNat m) (Int32.ofNat p) 5 1 0 0 (zc w b C0 M r0) := zn_step (N := N) (w := w) hc hop (n := 1) rfl rfl rfl C0 r0
    have f8 : ∀ v, mX9_pushValue N (b + 75) 1 v (zc w b C0 M r0) = some (zc w b C0 (zMP M f t 1 v) r0) := fun v => zn_push (N := N) (w := w) (b := b) (M := M) (t := t) h1 h3 a2 (by omega) 1 v C0 r0
    have f9 : ∀ v, mX9_step_327 N (b + 75) (Int32.ofNat f) (Int32.ofNat p) 1 (zc w b C0 (zMP M f t 1 v) r0) = some (zc w b C0 (zJ (zMP M f t 1 v) 41 f (Int32.ofNat (p + 1))) r0) := fun v => zn_on (N := N) (w := w) (b := b) (M := zMP M f t 1 v) (p := p) (n := 1) h1 (zmp100.trans h4) (zmp100.trans h5) C0 r0
    refine f0.trans ?_
    simp (decide := true) only [mX9_step_74, mX9_doLoad_139, mX9_doLoad_49, mX9_doLoad_37, mX9_doLoad_0, mX9_doLoad, zqk_75, f8, f9, id, Option.map_some, Int32.reduceLT, Int32.reduceLE, Int32.reduceAdd, Int32.reduceSub, Int32.reduceMul, Int32.reduceDiv, Int32.reduceMod, ↓reduceIte, Option.bind_some]
    rfl

theorem zo_6 (h : zCur b K D C M r ra f (t) p m lt st μ) (hop : uC μ p = 6)  (h13 : t < 12) : zQ w b N D C M r ra f m (t + 1) (p + 1) lt (zset st t 1) := by
  have hc := h
  obtain ⟨h1, h2, h3, h4, h5, hfr, h7, h8, h9, h10, h11, h12⟩ := h
  have hd := hfr
  obtain ⟨a1, a2, a3, a4, a5, a6, a7, a8, a9⟩ := hfr
  have hp := (hd.pushN (by omega) (zSl.mk1 ((3 : Int32))) (Or.inl rfl)).go (p + 1)
  refine ⟨_, _, fun M0 => ?_, fun C0 r0 => ?_, hp, zTop.rf.pn.i2, (zTopM.rf.p (by omega)).go⟩
  · have e0 : mX1_opcode N (b + (3 * f + 27)) (zc w b C M0 r) = some (zc w b C M0 r, 6) := ze_step0 (N := N) (w := w) hc hop M0
    have e4 : ∀ v, mX1_pushNumber N (b + (3 * f + 27)) v (zc w b C M0 r) = some (zc w b (zPN C f t v) M0 r) := fun v => zf_pushNumber (t := t) h1 a1 (by omega) v M0
    have e5 : ∀ v, mX4_goOn N (b + 15) 1 (zc w b (zPN C f t v) M0 r) = some (zc w b (zI (zPN C f t v) (f + 100) 4 (Int32.ofNat (p + 1))) M0 r, 0) := fun v => zf_goOn (C := zPN C f t v) (n := 1) (p := p) h1 h2 (zp4_PN.trans a4) M0
    simp (decide := true) only [mX4_step_107, mX4_step_249, mX4_step_0, mX4_step, mX4_push_223, mX4_push_140, mX4_push_202, mX4_push_0, mX4_push, e0, zqg_15_5 h2, zqkF h1, id, zqk_15, e4, e5, Option.map_some, Int32.reduceLT, Int32.reduceLE, Int32.reduceAdd, Int32.reduceSub, Int32.reduceMul, Int32.reduceDiv, Int32.reduceMod, ↓reduceIte, Option.bind_some]
    first | rfl | done
  · have f0 : mX9_step N (b + 75) (zc w b C0 M r0) = mX9_step_74 N (b + 75) (Int32.ofNat f) (Int32.ofNat m) (Int32.ofNat p) 6 1 0 0 (zc w b C0 M r0) := zn_step (N := N) (w := w) hc hop (n := 1) rfl rfl rfl C0 r0
    have f8 : ∀ v, mX9_pushValue N (b + 75) 1 v (zc w b C0 M r0) = some (zc w b C0 (zMP M f t 1 v) r0) := fun v => zn_push (N := N) (w := w) (b := b) (M := M) (t := t) h1 h3 a2 (by omega) 1 v C0 r0
    have f9 : ∀ v, mX9_step_327 N (b + 75) (Int32.ofNat f) (Int32.ofNat p) 1 (zc w b C0 (zMP M f t 1 v) r0) = some (zc w b C0 (zJ (zMP M f t 1 v) 41 f (Int32.ofNat (p + 1))) r0) := fun v => zn_on (N := N) (w := w) (b := b) (M := zMP M f t 1 v) (p := p) (n := 1) h1 (zmp100.trans h4) (zmp100.trans h5) C0 r0
    refine f0.trans ?_
    simp (decide := true) only [mX9_step_74, mX9_doLoad_139, mX9_doLoad_49, mX9_doLoad_37, mX9_doLoad_0, mX9_doLoad, zqk_75, f8, f9, id, Option.map_some, Int32.reduceLT, Int32.reduceLE, Int32.reduceAdd, Int32.reduceSub, Int32.reduceMul, Int32.reduceDiv, Int32.reduceMod, ↓reduceIte, Option.bind_some]
    rfl

theorem zo_7 (h : zCur b K D C M r ra f (t) p m lt st μ) (hop : uC μ p = 7)  (h13 : t < 12) : zQ w b N D C M r ra f m (t + 1) (p + 1) lt (zset st t 1) := by
  have hc := h
  obtain ⟨h1, h2, h3, h4, h5, hfr, h7, h8, h9, h10, h11, h12⟩ := h
  have hd := hfr
  obtain ⟨a1, a2, a3, a4, a5, a6, a7, a8, a9⟩ := hfr
  have hp := (hd.pushN (by omega) (zSl.mk1 ((4 : Int32))) (Or.inl rfl)).go (p + 1)
  refine ⟨_, _, fun M0 => ?_, fun C0 r0 => ?_, hp, zTop.rf.pn.i2, (zTopM.rf.p (by omega)).go⟩
  · have e0 : mX1_opcode N (b + (3 * f + 27)) (zc w b C M0 r) = some (zc w b C M0 r, 7) := ze_step0 (N := N) (w := w) hc hop M0
    have e4 : ∀ v, mX1_pushNumber N (b + (3 * f + 27)) v (zc w b C M0 r) = some (zc w b (zPN C f t v) M0 r) := fun v => zf_pushNumber (t := t) h1 a1 (by omega) v M0
    have e5 : ∀ v, mX4_goOn N (b + 15) 1 (zc w b (zPN C f t v) M0 r) = some (zc w b (zI (zPN C f t v) (f + 100) 4 (Int32.ofNat (p + 1))) M0 r, 0) := fun v => zf_goOn (C := zPN C f t v) (n := 1) (p := p) h1 h2 (zp4_PN.trans a4) M0
    simp (decide := true) only [mX4_step_107, mX4_step_249, mX4_step_0, mX4_step, mX4_push_223, mX4_push_140, mX4_push_202, mX4_push_0, mX4_push, e0, zqg_15_5 h2, zqkF h1, id, zqk_15, e4, e5, Option.map_some, Int32.reduceLT, Int32.reduceLE, Int32.reduceAdd, Int32.reduceSub, Int32.reduceMul, Int32.reduceDiv, Int32.reduceMod, ↓reduceIte, Option.bind_some]
    first | rfl | done
  · have f0 : mX9_step N (b + 75) (zc w b C0 M r0) = mX9_step_74 N (b + 75) (Int32.ofNat f) (Int32.ofNat m) (Int32.ofNat p) 7 1 0 0 (zc w b C0 M r0) := zn_step (N := N) (w := w) hc hop (n := 1) rfl rfl rfl C0 r0
    have f8 : ∀ v, mX9_pushValue N (b + 75) 1 v (zc w b C0 M r0) = some (zc w b C0 (zMP M f t 1 v) r0) := fun v => zn_push (N := N) (w := w) (b := b) (M := M) (t := t) h1 h3 a2 (by omega) 1 v C0 r0
    have f9 : ∀ v, mX9_step_327 N (b + 75) (Int32.ofNat f) (Int32.ofNat p) 1 (zc w b C0 (zMP M f t 1 v) r0) = some (zc w b C0 (zJ (zMP M f t 1 v) 41 f (Int32.ofNat (p + 1))) r0) := fun v => zn_on (N := N) (w := w) (b := b) (M := zMP M f t 1 v) (p := p) (n := 1) h1 (zmp100.trans h4) (zmp100.trans h5) C0 r0
    refine f0.trans ?_
    simp (decide := true) only [mX9_step_74, mX9_doLoad_139, mX9_doLoad_49, mX9_doLoad_37, mX9_doLoad_0, mX9_doLoad, zqk_75, f8, f9, id, Option.map_some, Int32.reduceLT, Int32.reduceLE, Int32.reduceAdd, Int32.reduceSub, Int32.reduceMul, Int32.reduceDiv, Int32.reduceMod, ↓reduceIte, Option.bind_some]
    rfl

theorem zo_8 (h : zCur b K D C M r ra f (t) p m lt st μ) (hop : uC μ p = 8)  (h13 : t < 12) : zQ w b N D C M r ra f m (t + 1) (p + 1) lt (zset st t 1) := by
  have hc := h
  obtain ⟨h1, h2, h3, h4, h5, hfr, h7, h8, h9, h10, h11, h12⟩ := h
  have hd := hfr
  obtain ⟨a1, a2, a3, a4, a5, a6, a7, a8, a9⟩ := hfr
  have hp := (hd.pushN (by omega) (zSl.mk1 ((5 : Int32))) (Or.inl rfl)).go (p + 1)
  refine ⟨_, _, fun M0 => ?_, fun C0 r0 => ?_, hp, zTop.rf.pn.i2, (zTopM.rf.p (by omega)).go⟩
  · have e0 : mX1_opcode N (b + (3 * f + 27)) (zc w b C M0 r) = some (zc w b C M0 r, 8) := ze_step0 (N := N) (w := w) hc hop M0
    have e4 : ∀ v, mX1_pushNumber N (b + (3 * f + 27)) v (zc w b C M0 r) = some (zc w b (zPN C f t v) M0 r) := fun v => zf_pushNumber (t := t) h1 a1 (by omega) v M0
    have e5 : ∀ v, mX4_goOn N (b + 15) 1 (zc w b (zPN C f t v) M0 r) = some (zc w b (zI (zPN C f t v) (f + 100) 4 (Int32.ofNat (p + 1))) M0 r, 0) := fun v => zf_goOn (C := zPN C f t v) (n := 1) (p := p) h1 h2 (zp4_PN.trans a4) M0
    simp (decide := true) only [mX4_step_107, mX4_step_249, mX4_step_0, mX4_step, mX4_push_223, mX4_push_140, mX4_push_202, mX4_push_0, mX4_push, e0, zqg_15_5 h2, zqkF h1, id, zqk_15, e4, e5, Option.map_some, Int32.reduceLT, Int32.reduceLE, Int32.reduceAdd, Int32.reduceSub, Int32.reduceMul, Int32.reduceDiv, Int32.reduceMod, ↓reduceIte, Option.bind_some]
    first | rfl | done
  · have f0 : mX9_step N (b + 75) (zc w b C0 M r0) = mX9_step_74 N (b + 75) (Int32.ofNat f) (Int32.ofNat m) (Int32.ofNat p) 8 1 0 0 (zc w b C0 M r0) := zn_step (N := N) (w := w) hc hop (n := 1) rfl rfl rfl C0 r0
    have f8 : ∀ v, mX9_pushValue N (b + 75) 1 v (zc w b C0 M r0) = some (zc w b C0 (zMP M f t 1 v) r0) := fun v => zn_push (N := N) (w := w) (b := b) (M := M) (t := t) h1 h3 a2 (by omega) 1 v C0 r0
    have f9 : ∀ v, mX9_step_327 N (b + 75) (Int32.ofNat f) (Int32.ofNat p) 1 (zc w b C0 (zMP M f t 1 v) r0) = some (zc w b C0 (zJ (zMP M f t 1 v) 41 f (Int32.ofNat (p + 1))) r0) := fun v => zn_on (N := N) (w := w) (b := b) (M := zMP M f t 1 v) (p := p) (n := 1) h1 (zmp100.trans h4) (zmp100.trans h5) C0 r0
    refine f0.trans ?_
    simp (decide := true) only [mX9_step_74, mX9_doLoad_139, mX9_doLoad_49, mX9_doLoad_37, mX9_doLoad_0, mX9_doLoad, zqk_75, f8, f9, id, Option.map_some, Int32.reduceLT, Int32.reduceLE, Int32.reduceAdd, Int32.reduceSub, Int32.reduceMul, Int32.reduceDiv, Int32.reduceMod, ↓reduceIte, Option.bind_some]
    rfl

theorem zo_9 (h : zCur b K D C M r ra f (t) p m lt st μ) (hop : uC μ p = 9)  (h13 : t < 12) : zQ w b N D C M r ra f m (t + 1) (p + 1) lt (zset st t 2) := by
  have hc := h
  obtain ⟨h1, h2, h3, h4, h5, hfr, h7, h8, h9, h10, h11, h12⟩ := h
  have hd := hfr
  obtain ⟨a1, a2, a3, a4, a5, a6, a7, a8, a9⟩ := hfr
  have hp := (hd.pushN (by omega) (zSl.mk2 ((0 : Int64))) (Or.inr rfl)).go (p + 1)
  refine ⟨_, _, fun M0 => ?_, fun C0 r0 => ?_, hp, zTop.rf.pn.i2, (zTopM.rf.p (by omega)).go⟩
  · have e0 : mX1_opcode N (b + (3 * f + 27)) (zc w b C M0 r) = some (zc w b C M0 r, 9) := ze_step0 (N := N) (w := w) hc hop M0
    have e4 : ∀ v, mX1_pushNumber N (b + (3 * f + 27)) v (zc w b C M0 r) = some (zc w b (zPN C f t v) M0 r) := fun v => zf_pushNumber (t := t) h1 a1 (by omega) v M0
    have e5 : ∀ v, mX4_goOn N (b + 15) 1 (zc w b (zPN C f t v) M0 r) = some (zc w b (zI (zPN C f t v) (f + 100) 4 (Int32.ofNat (p + 1))) M0 r, 0) := fun v => zf_goOn (C := zPN C f t v) (n := 1) (p := p) h1 h2 (zp4_PN.trans a4) M0
    simp (decide := true) only [mX4_step_107, mX4_step_249, mX4_step_0, mX4_step, mX4_push_223, mX4_push_140, mX4_push_202, mX4_push_0, mX4_push, e0, zqg_15_5 h2, zqkF h1, id, zqk_15, e4, e5, Option.map_some, Int32.reduceLT, Int32.reduceLE, Int32.reduceAdd, Int32.reduceSub, Int32.reduceMul, Int32.reduceDiv, Int32.reduceMod, ↓reduceIte, Option.bind_some]
    first | rfl | done
  · have f0 : mX9_step N (b + 75) (zc w b C0 M r0) = mX9_step_74 N (b + 75) (Int32.ofNat f) (Int32.ofNat m) (Int32.ofNat p) 9 1 0 0 (zc w b C0 M r0) := zn_step (N := N) (w := w) hc hop (n := 1) rfl rfl rfl C0 r0
    have f8 : ∀ v, mX9_pushValue N (b + 75) 2 v (zc w b C0 M r0) = some (zc w b C0 (zMP M f t 2 v) r0) := fun v => zn_push (N := N) (w := w) (b := b) (M := M) (t := t) h1 h3 a2 (by omega) 2 v C0 r0
    have f9 : ∀ v, mX9_step_327 N (b + 75) (Int32.ofNat f) (Int32.ofNat p) 1 (zc w b C0 (zMP M f t 2 v) r0) = some (zc w b C0 (zJ (zMP M f t 2 v) 41 f (Int32.ofNat (p + 1))) r0) := fun v => zn_on (N := N) (w := w) (b := b) (M := zMP M f t 2 v) (p := p) (n := 1) h1 (zmp100.trans h4) (zmp100.trans h5) C0 r0
    refine f0.trans ?_
    simp (decide := true) only [mX9_step_74, mX9_doLoad_139, mX9_doLoad_49, mX9_doLoad_37, mX9_doLoad_0, mX9_doLoad, zqk_75, f8, f9, id, Option.map_some, Int32.reduceLT, Int32.reduceLE, Int32.reduceAdd, Int32.reduceSub, Int32.reduceMul, Int32.reduceDiv, Int32.reduceMod, ↓reduceIte, Option.bind_some]
    rfl

theorem zo_10 (h : zCur b K D C M r ra f (t) p m lt st μ) (hop : uC μ p = 10)  (h13 : t < 12) : zQ w b N D C M r ra f m (t + 1) (p + 1) lt (zset st t 2) := by
  have hc := h
  obtain ⟨h1, h2, h3, h4, h5, hfr, h7, h8, h9, h10, h11, h12⟩ := h
  have hd := hfr
  obtain ⟨a1, a2, a3, a4, a5, a6, a7, a8, a9⟩ := hfr
  have hp := (hd.pushN (by omega) (zSl.mk2 ((1 : Int64))) (Or.inr rfl)).go (p + 1)
  refine ⟨_, _, fun M0 => ?_, fun C0 r0 => ?_, hp, zTop.rf.pn.i2, (zTopM.rf.p (by omega)).go⟩
  · have e0 : mX1_opcode N (b + (3 * f + 27)) (zc w b C M0 r) = some (zc w b C M0 r, 10) := ze_step0 (N := N) (w := w) hc hop M0
    have e4 : ∀ v, mX1_pushNumber N (b + (3 * f + 27)) v (zc w b C M0 r) = some (zc w b (zPN C f t v) M0 r) := fun v => zf_pushNumber (t := t) h1 a1 (by omega) v M0
    have e5 : ∀ v, mX4_goOn N (b + 15) 1 (zc w b (zPN C f t v) M0 r) = some (zc w b (zI (zPN C f t v) (f + 100) 4 (Int32.ofNat (p + 1))) M0 r, 0) := fun v => zf_goOn (C := zPN C f t v) (n := 1) (p := p) h1 h2 (zp4_PN.trans a4) M0
    simp (decide := true) only [mX4_step_107, mX4_step_249, mX4_step_0, mX4_step, mX4_push_223, mX4_push_140, mX4_push_202, mX4_push_0, mX4_push, e0, zqg_15_5 h2, zqkF h1, id, zqk_15, e4, e5, Option.map_some, Int32.reduceLT, Int32.reduceLE, Int32.reduceAdd, Int32.reduceSub, Int32.reduceMul, Int32.reduceDiv, Int32.reduceMod, ↓reduceIte, Option.bind_some]
    first | rfl | done
  · have f0 : mX9_step N (b + 75) (zc w b C0 M r0) = mX9_step_74 N (b + 75) (Int32.ofNat f) (Int32.ofNat m) (Int32.ofNat p) 10 1 0 0 (zc w b C0 M r0) := zn_step (N := N) (w := w) hc hop (n := 1) rfl rfl rfl C0 r0
    have f8 : ∀ v, mX9_pushValue N (b + 75) 2 v (zc w b C0 M r0) = some (zc w b C0 (zMP M f t 2 v) r0) := fun v => zn_push (N := N) (w := w) (b := b) (M := M) (t := t) h1 h3 a2 (by omega) 2 v C0 r0
    have f9 : ∀ v, mX9_step_327 N (b + 75) (Int32.ofNat f) (Int32.ofNat p) 1 (zc w b C0 (zMP M f t 2 v) r0) = some (zc w b C0 (zJ (zMP M f t 2 v) 41 f (Int32.ofNat (p + 1))) r0) := fun v => zn_on (N := N) (w := w) (b := b) (M := zMP M f t 2 v) (p := p) (n := 1) h1 (zmp100.trans h4) (zmp100.trans h5) C0 r0
    refine f0.trans ?_
    simp (decide := true) only [mX9_step_74, mX9_doLoad_139, mX9_doLoad_49, mX9_doLoad_37, mX9_doLoad_0, mX9_doLoad, zqk_75, f8, f9, id, Option.map_some, Int32.reduceLT, Int32.reduceLE, Int32.reduceAdd, Int32.reduceSub, Int32.reduceMul, Int32.reduceDiv, Int32.reduceMod, ↓reduceIte, Option.bind_some]
    rfl

end ZQV
