section ZQW
variable {N w b K f t p m : Nat} {D : Nat → Nat → Prop} {C : zC} {M : zM} {r : zv_X} {ra lt st : Nat → Nat} {μ : zMu}
theorem zo_0 (h : zCur b K D C M r ra f t p m lt st μ) (hop : uC μ p = 0) : zQ w b N D C M r ra f m t (p + 1) lt st := by
  have hc := h
  obtain ⟨h1, h2, h3, h4, h5, hfr, h7, h8, h9, h10, h11, h12⟩ := h
  have hp := hfr.go (p + 1)
  obtain ⟨a1, a2, a3, a4, a5, a6, a7, a8, a9⟩ := hfr
  refine ⟨_, _, fun M0 => ?_, fun C0 r0 => ?_, hp, zTop.rf.i2, zTopM.rf.go⟩
  · have e0 : mX1_opcode N (b + (3 * f + 27)) (zc w b C M0 r) = some (zc w b C M0 r, 0) := ze_step0 (N := N) (w := w) hc hop M0
    have e5 : mX4_goOn N (b + 15) 1 (zc w b C M0 r) = some (zc w b (zI C (f + 100) 4 (Int32.ofNat (p + 1))) M0 r, 0) := zf_goOn (C := C) (n := 1) (p := p) h1 h2 a4 M0
    simp (decide := true) only [mX4_step_107, mX4_step_249, mX4_step_0, mX4_step, mX4_push_223, mX4_push_140, mX4_push_202, mX4_push_0, mX4_push, e0, zqg_15_5 h2, zqkF h1, id, zqk_15, e5, Option.map_some, Int32.reduceLT, Int32.reduceLE, Int32.reduceAdd, Int32.reduceSub, Int32.reduceMul, Int32.reduceDiv, Int32.reduceMod, ↓reduceIte, Option.bind_some]
  · have f0 : mX9_step N (b + 75) (zc w b C0 M r0) = mX9_step_74 N (b + 75) (Int32.ofNat f) (Int32.ofNat m) (Int32.ofNat p) 0 1 0 0 (zc w b C0 M r0) := zn_step (N := N) (w := w) hc hop (n := 1) rfl rfl rfl C0 r0
    refine f0.trans ?_
    have f9 : mX9_step_327 N (b + 75) (Int32.ofNat f) (Int32.ofNat p) 1 (zc w b C0 M r0) = some (zc w b C0 (zJ M 41 f (Int32.ofNat (p + 1))) r0) := zn_on (N := N) (w := w) (b := b) (M := M) (p := p) (n := 1) h1 (h4) (h5) C0 r0
    simp (decide := true) only [mX9_step_74, mX9_doLoad_139, mX9_doLoad_49, mX9_doLoad_37, mX9_doLoad_0, mX9_doLoad, zqk_75, id, f9, Option.map_some, Int32.reduceLT, Int32.reduceLE, Int32.reduceAdd, Int32.reduceSub, Int32.reduceMul, Int32.reduceDiv, Int32.reduceMod, ↓reduceIte, Option.bind_some]

theorem zo_1 (h : zCur b K D C M r ra f t p m lt st μ) (hop : uC μ p = 1) (h13 : t < 12) : zQ w b N D C M r ra f m (t + 1) (p + 1) lt (zset st t 3) := by
  have hc := h
  obtain ⟨h1, h2, h3, h4, h5, hfr, h7, h8, h9, h10, h11, h12⟩ := h
  have hp := (hfr.pushR (by omega) (re := 0) (v := 0) (Or.inl ⟨rfl, rfl⟩)).go (p + 1)
  obtain ⟨a1, a2, a3, a4, a5, a6, a7, a8, a9⟩ := hfr
  refine ⟨_, _, fun M0 => ?_, fun C0 r0 => ?_, hp, zTop.rf.pr.i2, (zTopM.rf.p (by omega)).go⟩
  · have e0 : mX1_opcode N (b + (3 * f + 27)) (zc w b C M0 r) = some (zc w b C M0 r, 1) := ze_step0 (N := N) (w := w) hc hop M0
    have e4 : mX1_pushReference N (b + (3 * f + 27)) 0 (zc w b C M0 r) = some (zc w b (zPR C f t 0) M0 r) := zf_pushReference (t := t) h1 a1 (by omega) 0 M0
    have e5 : mX4_goOn N (b + 15) 1 (zc w b (zPR C f t 0) M0 r) = some (zc w b (zI (zPR C f t 0) (f + 100) 4 (Int32.ofNat (p + 1))) M0 r, 0) := zf_goOn (C := (zPR C f t 0)) (n := 1) (p := p) h1 h2 (zp4_PR.trans a4) M0
    simp (decide := true) only [mX4_step_107, mX4_step_249, mX4_step_0, mX4_step, mX4_push_223, mX4_push_140, mX4_push_202, mX4_push_0, mX4_push, e0, zqg_15_5 h2, zqkF h1, id, zqk_15, e4, e5, Option.map_some, Int32.reduceLT, Int32.reduceLE, Int32.reduceAdd, Int32.reduceSub, Int32.reduceMul, Int32.reduceDiv, Int32.reduceMod, ↓reduceIte, Option.bind_some]
  · have f0 : mX9_step N (b + 75) (zc w b C0 M r0) = mX9_step_74 N (b + 75) (Int32.ofNat f) (Int32.ofNat m) (Int32.ofNat p) 1 1 0 0 (zc w b C0 M r0) := zn_step (N := N) (w := w) hc hop (n := 1) rfl rfl rfl C0 r0
    refine f0.trans ?_
    have f8 : mX9_pushValue N (b + 75) 3 0 (zc w b C0 M r0) = some (zc w b C0 (zMP M f t 3 0) r0) := zn_push (N := N) (w := w) (b := b) (M := M) (t := t) h1 h3 a2 (by omega) 3 0 C0 r0
    have f9 : mX9_step_327 N (b + 75) (Int32.ofNat f) (Int32.ofNat p) 1 (zc w b C0 (zMP M f t 3 0) r0) = some (zc w b C0 (zJ (zMP M f t 3 0) 41 f (Int32.ofNat (p + 1))) r0) := zn_on (N := N) (w := w) (b := b) (M := (zMP M f t 3 0)) (p := p) (n := 1) h1 (zmp100.trans h4) (zmp100.trans h5) C0 r0
    simp (decide := true) only [mX9_step_74, mX9_doLoad_139, mX9_doLoad_49, mX9_doLoad_37, mX9_doLoad_0, mX9_doLoad, zqk_75, id, f8, f9, Option.map_some, Int32.reduceLT, Int32.reduceLE, Int32.reduceAdd, Int32.reduceSub, Int32.reduceMul, Int32.reduceDiv, Int32.reduceMod, ↓reduceIte, Option.bind_some]
    rfl

theorem zk_sg : ∀ a, a < 256 → (Int32.ofNat a).toInt8.toInt32 = Int32.ofInt (zsg a) ∧ pX9_signed (Int32.ofNat a) = some (Int32.ofInt (zsg a)) := by decide +kernel
theorem zo_16 (h : zCur b K D C M r ra f t p m lt st μ) (hop : uC μ p = 16) (h13 : t < 12) : zQ w b N D C M r ra f m (t + 1) (p + 2) lt (zset st t 1) := by
  have hc := h
  obtain ⟨h1, h2, h3, h4, h5, hfr, h7, h8, h9, h10, h11, h12⟩ := h
  have hl : p + 2 ≤ uLen μ := by rw [hop] at h12; exact h12
  have hl2 := h10.1
  have hb1 := h10.2.1 (p + 1) (by omega)
  have hp := (hfr.pushN (by omega) (zSl.mk1 (Int32.ofInt (zsg (uC μ (p + 1))))) (Or.inl rfl)).go (p + 2)
  obtain ⟨a1, a2, a3, a4, a5, a6, a7, a8, a9⟩ := hfr
  refine ⟨_, _, fun M0 => ?_, fun C0 r0 => ?_, hp, zTop.rf.pn.i2, (zTopM.rf.p (by omega)).go⟩
  · have e0 : mX1_opcode N (b + (3 * f + 27)) (zc w b C M0 r) = some (zc w b C M0 r, 16) := ze_step0 (N := N) (w := w) hc hop M0
    have eo : mX1_operand N (b + (3 * f + 27)) 1 (zc w b C M0 r) = some (zc w b C M0 r, Int32.ofNat (uC μ (p + 1))) := ze_operand (N := N) (w := w) (b := b) (k := 1) h1 h8 h10 a6 a4 (by omega) M0
    have e4 : ∀ v, mX1_pushNumber N (b + (3 * f + 27)) v (zc w b C M0 r) = some (zc w b (zPN C f t v) M0 r) := fun v => zf_pushNumber (t := t) h1 a1 (by omega) v M0
    have e5 : ∀ v, mX4_goOn N (b + 15) 2 (zc w b (zPN C f t v) M0 r) = some (zc w b (zI (zPN C f t v) (f + 100) 4 (Int32.ofNat (p + 2))) M0 r, 0) := fun v => zf_goOn (C := zPN C f t v) (n := 2) (p := p) h1 h2 (zp4_PN.trans a4) M0
    simp (decide := true) only [mX4_step_107, mX4_step_249, mX4_step_0, mX4_step, mX4_push_223, mX4_push_140, mX4_push_202, mX4_push_0, mX4_push, e0, zqg_15_5 h2, zqkF h1, id, zqk_15, eo, e4, e5, Option.map_some, Int32.reduceLT, Int32.reduceLE, Int32.reduceAdd, Int32.reduceSub, Int32.reduceMul, Int32.reduceDiv, Int32.reduceMod, ↓reduceIte, Option.bind_some]
    rw [(zk_sg _ hb1).1]
  · have f0 : mX9_step N (b + 75) (zc w b C0 M r0) = mX9_step_74 N (b + 75) (Int32.ofNat f) (Int32.ofNat m) (Int32.ofNat p) 16 2 (Int32.ofNat (uC μ (p + 1))) 0 (zc w b C0 M r0) := zn_step (N := N) (w := w) hc hop (n := 2) rfl rfl rfl C0 r0
    refine f0.trans ?_
    have f8 : ∀ v, mX9_pushValue N (b + 75) 1 v (zc w b C0 M r0) = some (zc w b C0 (zMP M f t 1 v) r0) := fun v => zn_push (N := N) (w := w) (b := b) (M := M) (t := t) h1 h3 a2 (by omega) 1 v C0 r0
    have f9 : ∀ v, mX9_step_327 N (b + 75) (Int32.ofNat f) (Int32.ofNat p) 2 (zc w b C0 (zMP M f t 1 v) r0) = some (zc w b C0 (zJ (zMP M f t 1 v) 41 f (Int32.ofNat (p + 2))) r0) := fun v => zn_on (N := N) (w := w) (b := b) (M := zMP M f t 1 v) (p := p) (n := 2) h1 (zmp100.trans h4) (zmp100.trans h5) C0 r0
    simp (decide := true) only [mX9_step_74, mX9_doLoad_139, mX9_doLoad_49, mX9_doLoad_37, mX9_doLoad_0, mX9_doLoad, zqk_75, id, qX9_signed, (zk_sg _ hb1).2, f8, f9, Option.map_some, Int32.reduceLT, Int32.reduceLE, Int32.reduceAdd, Int32.reduceSub, Int32.reduceMul, Int32.reduceDiv, Int32.reduceMod, ↓reduceIte, Option.bind_some]
    rfl

theorem zo_17 (h : zCur b K D C M r ra f t p m lt st μ) (hop : uC μ p = 17) (h13 : t < 12) : zQ w b N D C M r ra f m (t + 1) (p + 3) lt (zset st t 1) := by
  have hc := h
  obtain ⟨h1, h2, h3, h4, h5, hfr, h7, h8, h9, h10, h11, h12⟩ := h
  have hl : p + 3 ≤ uLen μ := by rw [hop] at h12; exact h12
  have hl2 := h10.1
  have hb1 := h10.2.1 (p + 1) (by omega)
  have hp := (hfr.pushN (by omega) (zSl.mk1 (Int32.ofInt (zsg (uC μ (p + 1)) * 256 + uC μ (p + 2)))) (Or.inl rfl)).go (p + 3)
  obtain ⟨a1, a2, a3, a4, a5, a6, a7, a8, a9⟩ := hfr
  refine ⟨_, _, fun M0 => ?_, fun C0 r0 => ?_, hp, zTop.rf.pn.i2, (zTopM.rf.p (by omega)).go⟩
  · have e0 : mX1_opcode N (b + (3 * f + 27)) (zc w b C M0 r) = some (zc w b C M0 r, 17) := ze_step0 (N := N) (w := w) hc hop M0
    have eo : mX1_pair N (b + (3 * f + 27)) (zc w b C M0 r) = _ := ze_pair (N := N) (w := w) (b := b) h1 h8 h10 a6 a4 (by omega) M0
    have e4 : ∀ v, mX1_pushNumber N (b + (3 * f + 27)) v (zc w b C M0 r) = some (zc w b (zPN C f t v) M0 r) := fun v => zf_pushNumber (t := t) h1 a1 (by omega) v M0
    have e5 : ∀ v, mX4_goOn N (b + 15) 3 (zc w b (zPN C f t v) M0 r) = some (zc w b (zI (zPN C f t v) (f + 100) 4 (Int32.ofNat (p + 3))) M0 r, 0) := fun v => zf_goOn (C := zPN C f t v) (n := 3) (p := p) h1 h2 (zp4_PN.trans a4) M0
    simp (decide := true) only [mX4_step_107, mX4_step_249, mX4_step_0, mX4_step, mX4_push_223, mX4_push_140, mX4_push_202, mX4_push_0, mX4_push, e0, zqg_15_5 h2, zqkF h1, id, zqk_15, eo, e4, e5, Option.map_some, Int32.reduceLT, Int32.reduceLE, Int32.reduceAdd, Int32.reduceSub, Int32.reduceMul, Int32.reduceDiv, Int32.reduceMod, ↓reduceIte, Option.bind_some]
  · have f0 : mX9_step N (b + 75) (zc w b C0 M r0) = mX9_step_74 N (b + 75) (Int32.ofNat f) (Int32.ofNat m) (Int32.ofNat p) 17 3 (Int32.ofNat (uC μ (p + 1))) (Int32.ofNat (uC μ (p + 2))) (zc w b C0 M r0) := zn_step (N := N) (w := w) hc hop (n := 3) rfl rfl rfl C0 r0
    refine f0.trans ?_
    have f8 : ∀ v, mX9_pushValue N (b + 75) 1 v (zc w b C0 M r0) = some (zc w b C0 (zMP M f t 1 v) r0) := fun v => zn_push (N := N) (w := w) (b := b) (M := M) (t := t) h1 h3 a2 (by omega) 1 v C0 r0
    have f9 : ∀ v, mX9_step_327 N (b + 75) (Int32.ofNat f) (Int32.ofNat p) 3 (zc w b C0 (zMP M f t 1 v) r0) = some (zc w b C0 (zJ (zMP M f t 1 v) 41 f (Int32.ofNat (p + 3))) r0) := fun v => zn_on (N := N) (w := w) (b := b) (M := zMP M f t 1 v) (p := p) (n := 3) h1 (zmp100.trans h4) (zmp100.trans h5) C0 r0
    simp (decide := true) only [mX9_step_74, mX9_doLoad_139, mX9_doLoad_49, mX9_doLoad_37, mX9_doLoad_0, mX9_doLoad, zqk_75, id, qX9_signed, (zk_sg _ hb1).2, f8, f9, Option.map_some, Int32.reduceLT, Int32.reduceLE, Int32.reduceAdd, Int32.reduceSub, Int32.reduceMul, Int32.reduceDiv, Int32.reduceMod, ↓reduceIte, Option.bind_some]
    rw [Int32.ofInt_add, Int32.ofInt_mul]
    rfl

theorem zo_21 (h : zCur b K D C M r ra f t p m lt st μ) (hop : uC μ p = 21) (h13 : t < 12) (ha : uC μ (p + 1) < 16) (hk : lt (uC μ (p + 1)) = 1) : zQ w b N D C M r ra f m (t + 1) (p + 2) lt (zset st t 1) := by
  have hc := h
  obtain ⟨h1, h2, h3, h4, h5, hfr, h7, h8, h9, h10, h11, h12⟩ := h
  have hl : p + 2 ≤ uLen μ := by rw [hop] at h12; exact h12
  have hl2 := h10.1
  have b0 := hfr.2.2.2.2.2.2.2.1 _ ha
  rw [hk] at b0
  have hp := (hfr.pushS (by omega) b0.2.2 (by decide)).go (p + 2)
  obtain ⟨a1, a2, a3, a4, a5, a6, a7, a8, a9⟩ := hfr
  refine ⟨_, _, fun M0 => ?_, fun C0 r0 => ?_, hp, zTop.rf.l.i4.i2.i2, (zTopM.rf.p (by omega)).go⟩
  · have e0 : mX1_opcode N (b + (3 * f + 27)) (zc w b C M0 r) = some (zc w b C M0 r, 21) := ze_step0 (N := N) (w := w) hc hop M0
    have eo : mX1_operand N (b + (3 * f + 27)) 1 (zc w b C M0 r) = some (zc w b C M0 r, Int32.ofNat (uC μ (p + 1))) := ze_operand (N := N) (w := w) (b := b) (k := 1) h1 h8 h10 a6 a4 (by omega) M0
    have e4 : mX1_pushLocal N (b + (3 * f + 27)) (Int32.ofNat (uC μ (p + 1))) (zc w b C M0 r) = some (zc w b (zPL C f t (uC μ (p + 1))) M0 r) := zf_pushLocal (t := t) h1 a1 (by omega) (by omega) M0
    have e5 : mX4_goOn N (b + 15) 2 (zc w b (zPL C f t (uC μ (p + 1))) M0 r) = some (zc w b (zI (zPL C f t (uC μ (p + 1))) (f + 100) 4 (Int32.ofNat (p + 2))) M0 r, 0) := zf_goOn (C := (zPL C f t (uC μ (p + 1)))) (n := 2) (p := p) h1 h2 (by unfold zPL; exact zp4_I2.trans (zp4_CS.trans a4)) M0
    simp (decide := true) only [mX4_step_107, mX4_step_249, mX4_step_0, mX4_step, mX4_push_223, mX4_push_140, mX4_push_202, mX4_push_0, mX4_push, e0, zqg_15_5 h2, zqkF h1, id, zqk_15, eo, e4, e5, Option.map_some, Int32.reduceLT, Int32.reduceLE, Int32.reduceAdd, Int32.reduceSub, Int32.reduceMul, Int32.reduceDiv, Int32.reduceMod, ↓reduceIte, Option.bind_some]
    rfl
  · have f0 : mX9_step N (b + 75) (zc w b C0 M r0) = mX9_step_74 N (b + 75) (Int32.ofNat f) (Int32.ofNat m) (Int32.ofNat p) 21 2 (Int32.ofNat (uC μ (p + 1))) 0 (zc w b C0 M r0) := zn_step (N := N) (w := w) hc hop (n := 2) rfl rfl rfl C0 r0
    refine f0.trans ?_
    have f8 : mX9_pushValue N (b + 75) (Int32.ofNat 1) (M.2 43 (16 * f + uC μ (p + 1))) (zc w b C0 M r0) = some (zc w b C0 (zMP M f t (Int32.ofNat 1) (M.2 43 (16 * f + uC μ (p + 1)))) r0) := zn_push (N := N) (w := w) (b := b) (M := M) (t := t) h1 h3 a2 (by omega) _ _ C0 r0
    have f9 : mX9_step_327 N (b + 75) (Int32.ofNat f) (Int32.ofNat p) 2 (zc w b C0 (zMP M f t (Int32.ofNat 1) (M.2 43 (16 * f + uC μ (p + 1)))) r0) = some (zc w b C0 (zJ (zMP M f t (Int32.ofNat 1) (M.2 43 (16 * f + uC μ (p + 1)))) 41 f (Int32.ofNat (p + 2))) r0) := zn_on (N := N) (w := w) (b := b) (M := (zMP M f t (Int32.ofNat 1) (M.2 43 (16 * f + uC μ (p + 1))))) (p := p) (n := 2) h1 (zmp100.trans h4) (zmp100.trans h5) C0 r0
    have q1 : zm_aI (zc w b C0 M r0) (b + 109) (16 * Int32.ofNat f + Int32.ofNat (uC μ (p + 1))) = some (Int32.ofNat 1) := by rw [zi_lit, zi_mul, zi_add, zqa_109 (by omega), b0.1]
    have q2 : zm_aL (zc w b C0 M r0) (b + 108) (16 * Int32.ofNat f + Int32.ofNat (uC μ (p + 1))) = some (M.2 43 (16 * f + uC μ (p + 1))) := by rw [zi_lit, zi_mul, zi_add, zqa_108 (by omega)]
    simp (decide := true) only [mX9_step_74, mX9_doLoad_139, mX9_doLoad_49, mX9_doLoad_37, mX9_doLoad_0, mX9_doLoad, zqk_75, id, zqg_75_44, zqg_75_43, q1, q2, f8, f9, Option.map_some, Int32.reduceLT, Int32.reduceLE, Int32.reduceAdd, Int32.reduceSub, Int32.reduceMul, Int32.reduceDiv, Int32.reduceMod, ↓reduceIte, Option.bind_some]

theorem zo_22 (h : zCur b K D C M r ra f t p m lt st μ) (hop : uC μ p = 22) (h13 : t < 12) (ha : uC μ (p + 1) < 16) (hk : lt (uC μ (p + 1)) = 2) : zQ w b N D C M r ra f m (t + 1) (p + 2) lt (zset st t 2) := by
  have hc := h
  obtain ⟨h1, h2, h3, h4, h5, hfr, h7, h8, h9, h10, h11, h12⟩ := h
  have hl : p + 2 ≤ uLen μ := by rw [hop] at h12; exact h12
  have hl2 := h10.1
  have b0 := hfr.2.2.2.2.2.2.2.1 _ ha
  rw [hk] at b0
  have hp := (hfr.pushS (by omega) b0.2.2 (by decide)).go (p + 2)
  obtain ⟨a1, a2, a3, a4, a5, a6, a7, a8, a9⟩ := hfr
  refine ⟨_, _, fun M0 => ?_, fun C0 r0 => ?_, hp, zTop.rf.l.i4.i2.i2, (zTopM.rf.p (by omega)).go⟩
  · have e0 : mX1_opcode N (b + (3 * f + 27)) (zc w b C M0 r) = some (zc w b C M0 r, 22) := ze_step0 (N := N) (w := w) hc hop M0
    have eo : mX1_operand N (b + (3 * f + 27)) 1 (zc w b C M0 r) = some (zc w b C M0 r, Int32.ofNat (uC μ (p + 1))) := ze_operand (N := N) (w := w) (b := b) (k := 1) h1 h8 h10 a6 a4 (by omega) M0
    have e4 : mX1_pushLocal N (b + (3 * f + 27)) (Int32.ofNat (uC μ (p + 1))) (zc w b C M0 r) = some (zc w b (zPL C f t (uC μ (p + 1))) M0 r) := zf_pushLocal (t := t) h1 a1 (by omega) (by omega) M0
    have e5 : mX4_goOn N (b + 15) 2 (zc w b (zPL C f t (uC μ (p + 1))) M0 r) = some (zc w b (zI (zPL C f t (uC μ (p + 1))) (f + 100) 4 (Int32.ofNat (p + 2))) M0 r, 0) := zf_goOn (C := (zPL C f t (uC μ (p + 1)))) (n := 2) (p := p) h1 h2 (by unfold zPL; exact zp4_I2.trans (zp4_CS.trans a4)) M0
    simp (decide := true) only [mX4_step_107, mX4_step_249, mX4_step_0, mX4_step, mX4_push_223, mX4_push_140, mX4_push_202, mX4_push_0, mX4_push, e0, zqg_15_5 h2, zqkF h1, id, zqk_15, eo, e4, e5, Option.map_some, Int32.reduceLT, Int32.reduceLE, Int32.reduceAdd, Int32.reduceSub, Int32.reduceMul, Int32.reduceDiv, Int32.reduceMod, ↓reduceIte, Option.bind_some]
    rfl
  · have f0 : mX9_step N (b + 75) (zc w b C0 M r0) = mX9_step_74 N (b + 75) (Int32.ofNat f) (Int32.ofNat m) (Int32.ofNat p) 22 2 (Int32.ofNat (uC μ (p + 1))) 0 (zc w b C0 M r0) := zn_step (N := N) (w := w) hc hop (n := 2) rfl rfl rfl C0 r0
    refine f0.trans ?_
    have f8 : mX9_pushValue N (b + 75) (Int32.ofNat 2) (M.2 43 (16 * f + uC μ (p + 1))) (zc w b C0 M r0) = some (zc w b C0 (zMP M f t (Int32.ofNat 2) (M.2 43 (16 * f + uC μ (p + 1)))) r0) := zn_push (N := N) (w := w) (b := b) (M := M) (t := t) h1 h3 a2 (by omega) _ _ C0 r0
    have f9 : mX9_step_327 N (b + 75) (Int32.ofNat f) (Int32.ofNat p) 2 (zc w b C0 (zMP M f t (Int32.ofNat 2) (M.2 43 (16 * f + uC μ (p + 1)))) r0) = some (zc w b C0 (zJ (zMP M f t (Int32.ofNat 2) (M.2 43 (16 * f + uC μ (p + 1)))) 41 f (Int32.ofNat (p + 2))) r0) := zn_on (N := N) (w := w) (b := b) (M := (zMP M f t (Int32.ofNat 2) (M.2 43 (16 * f + uC μ (p + 1))))) (p := p) (n := 2) h1 (zmp100.trans h4) (zmp100.trans h5) C0 r0
    have q1 : zm_aI (zc w b C0 M r0) (b + 109) (16 * Int32.ofNat f + Int32.ofNat (uC μ (p + 1))) = some (Int32.ofNat 2) := by rw [zi_lit, zi_mul, zi_add, zqa_109 (by omega), b0.1]
    have q2 : zm_aL (zc w b C0 M r0) (b + 108) (16 * Int32.ofNat f + Int32.ofNat (uC μ (p + 1))) = some (M.2 43 (16 * f + uC μ (p + 1))) := by rw [zi_lit, zi_mul, zi_add, zqa_108 (by omega)]
    simp (decide := true) only [mX9_step_74, mX9_doLoad_139, mX9_doLoad_49, mX9_doLoad_37, mX9_doLoad_0, mX9_doLoad, zqk_75, id, zqg_75_44, zqg_75_43, q1, q2, f8, f9, Option.map_some, Int32.reduceLT, Int32.reduceLE, Int32.reduceAdd, Int32.reduceSub, Int32.reduceMul, Int32.reduceDiv, Int32.reduceMod, ↓reduceIte, Option.bind_some]

theorem zo_25 (h : zCur b K D C M r ra f t p m lt st μ) (hop : uC μ p = 25) (h13 : t < 12) (ha : uC μ (p + 1) < 16) (hk : lt (uC μ (p + 1)) = 3) : zQ w b N D C M r ra f m (t + 1) (p + 2) lt (zset st t 3) := by
  have hc := h
  obtain ⟨h1, h2, h3, h4, h5, hfr, h7, h8, h9, h10, h11, h12⟩ := h
  have hl : p + 2 ≤ uLen μ := by rw [hop] at h12; exact h12
  have hl2 := h10.1
  have b0 := hfr.2.2.2.2.2.2.2.1 _ ha
  rw [hk] at b0
  have hp := (hfr.pushS (by omega) b0.2.2 (by decide)).go (p + 2)
  obtain ⟨a1, a2, a3, a4, a5, a6, a7, a8, a9⟩ := hfr
  refine ⟨_, _, fun M0 => ?_, fun C0 r0 => ?_, hp, zTop.rf.l.i4.i2.i2, (zTopM.rf.p (by omega)).go⟩
  · have e0 : mX1_opcode N (b + (3 * f + 27)) (zc w b C M0 r) = some (zc w b C M0 r, 25) := ze_step0 (N := N) (w := w) hc hop M0
    have eo : mX1_operand N (b + (3 * f + 27)) 1 (zc w b C M0 r) = some (zc w b C M0 r, Int32.ofNat (uC μ (p + 1))) := ze_operand (N := N) (w := w) (b := b) (k := 1) h1 h8 h10 a6 a4 (by omega) M0
    have e4 : mX1_pushLocal N (b + (3 * f + 27)) (Int32.ofNat (uC μ (p + 1))) (zc w b C M0 r) = some (zc w b (zPL C f t (uC μ (p + 1))) M0 r) := zf_pushLocal (t := t) h1 a1 (by omega) (by omega) M0
    have e5 : mX4_goOn N (b + 15) 2 (zc w b (zPL C f t (uC μ (p + 1))) M0 r) = some (zc w b (zI (zPL C f t (uC μ (p + 1))) (f + 100) 4 (Int32.ofNat (p + 2))) M0 r, 0) := zf_goOn (C := (zPL C f t (uC μ (p + 1)))) (n := 2) (p := p) h1 h2 (by unfold zPL; exact zp4_I2.trans (zp4_CS.trans a4)) M0
    simp (decide := true) only [mX4_step_107, mX4_step_249, mX4_step_0, mX4_step, mX4_push_223, mX4_push_140, mX4_push_202, mX4_push_0, mX4_push, e0, zqg_15_5 h2, zqkF h1, id, zqk_15, eo, e4, e5, Option.map_some, Int32.reduceLT, Int32.reduceLE, Int32.reduceAdd, Int32.reduceSub, Int32.reduceMul, Int32.reduceDiv, Int32.reduceMod, ↓reduceIte, Option.bind_some]
    rfl
  · have f0 : mX9_step N (b + 75) (zc w b C0 M r0) = mX9_step_74 N (b + 75) (Int32.ofNat f) (Int32.ofNat m) (Int32.ofNat p) 25 2 (Int32.ofNat (uC μ (p + 1))) 0 (zc w b C0 M r0) := zn_step (N := N) (w := w) hc hop (n := 2) rfl rfl rfl C0 r0
    refine f0.trans ?_
    have f8 : mX9_pushValue N (b + 75) (Int32.ofNat 3) (M.2 43 (16 * f + uC μ (p + 1))) (zc w b C0 M r0) = some (zc w b C0 (zMP M f t (Int32.ofNat 3) (M.2 43 (16 * f + uC μ (p + 1)))) r0) := zn_push (N := N) (w := w) (b := b) (M := M) (t := t) h1 h3 a2 (by omega) _ _ C0 r0
    have f9 : mX9_step_327 N (b + 75) (Int32.ofNat f) (Int32.ofNat p) 2 (zc w b C0 (zMP M f t (Int32.ofNat 3) (M.2 43 (16 * f + uC μ (p + 1)))) r0) = some (zc w b C0 (zJ (zMP M f t (Int32.ofNat 3) (M.2 43 (16 * f + uC μ (p + 1)))) 41 f (Int32.ofNat (p + 2))) r0) := zn_on (N := N) (w := w) (b := b) (M := (zMP M f t (Int32.ofNat 3) (M.2 43 (16 * f + uC μ (p + 1))))) (p := p) (n := 2) h1 (zmp100.trans h4) (zmp100.trans h5) C0 r0
    have q1 : zm_aI (zc w b C0 M r0) (b + 109) (16 * Int32.ofNat f + Int32.ofNat (uC μ (p + 1))) = some (Int32.ofNat 3) := by rw [zi_lit, zi_mul, zi_add, zqa_109 (by omega), b0.1]
    have q2 : zm_aL (zc w b C0 M r0) (b + 108) (16 * Int32.ofNat f + Int32.ofNat (uC μ (p + 1))) = some (M.2 43 (16 * f + uC μ (p + 1))) := by rw [zi_lit, zi_mul, zi_add, zqa_108 (by omega)]
    simp (decide := true) only [mX9_step_74, mX9_doLoad_139, mX9_doLoad_49, mX9_doLoad_37, mX9_doLoad_0, mX9_doLoad, zqk_75, id, zqg_75_44, zqg_75_43, q1, q2, f8, f9, Option.map_some, Int32.reduceLT, Int32.reduceLE, Int32.reduceAdd, Int32.reduceSub, Int32.reduceMul, Int32.reduceDiv, Int32.reduceMod, ↓reduceIte, Option.bind_some]

theorem zo_54 (h : zCur b K D C M r ra f (t + 1) p m lt st μ) (hop : uC μ p = 54) (s0 : st t = 1) (ha : uC μ (p + 1) < 16) : zQ w b N D C M r ra f m t (p + 2) (zset lt (uC μ (p + 1)) 1) st := by
  have hc := h
  obtain ⟨h1, h2, h3, h4, h5, hfr, h7, h8, h9, h10, h11, h12⟩ := h
  have hl : p + 2 ≤ uLen μ := by rw [hop] at h12; exact h12
  have hl2 := h10.1
  have b0 := (hfr.2.2.2.2.2.2.2.2 t (by omega)).2.2.2
  rw [s0] at b0
  have hp := ((hfr.drop (t' := t) (by omega)).setL ha (by decide) b0).go (p + 2)
  obtain ⟨a1, a2, a3, a4, a5, a6, a7, a8, a9⟩ := hfr
  refine ⟨_, _, fun M0 => ?_, fun C0 r0 => ?_, hp, zTop.rf.i2.l.i4.i2, (zTopM.rf.d.sl ha).go⟩
  · have e0 : mX1_opcode N (b + (3 * f + 27)) (zc w b C M0 r) = some (zc w b C M0 r, 54) := ze_step0 (N := N) (w := w) hc hop M0
    have eo : mX1_operand N (b + (3 * f + 27)) 1 (zc w b C M0 r) = some (zc w b C M0 r, Int32.ofNat (uC μ (p + 1))) := ze_operand (N := N) (w := w) (b := b) (k := 1) h1 h8 h10 a6 a4 (by omega) M0
    have e4 : mX1_popLocal N (b + (3 * f + 27)) (Int32.ofNat (uC μ (p + 1))) (zc w b C M0 r) = some (zc w b (zQL C f (t + 1) (uC μ (p + 1))) M0 r) := zf_popLocal (t := t + 1) h1 a1 a3 (by omega) (by omega) M0
    have e5 : mX4_goOn N (b + 15) 2 (zc w b (zQL C f (t + 1) (uC μ (p + 1))) M0 r) = some (zc w b (zI (zQL C f (t + 1) (uC μ (p + 1))) (f + 100) 4 (Int32.ofNat (p + 2))) M0 r, 0) := zf_goOn (C := (zQL C f (t + 1) (uC μ (p + 1)))) (n := 2) (p := p) h1 h2 (by unfold zQL; exact zp4_CS.trans (zp4_I2.trans a4)) M0
    simp (decide := true) only [mX4_step_107, mX4_step_249, mX4_step_0, mX4_step, mX4_storeLocal_0, mX4_storeLocal, e0, zqg_15_5 h2, zqkF h1, id, zqk_15, eo, e4, e5, Option.map_some, Int32.reduceLT, Int32.reduceLE, Int32.reduceAdd, Int32.reduceSub, Int32.reduceMul, Int32.reduceDiv, Int32.reduceMod, ↓reduceIte, Option.bind_some]
    unfold zQL zCS
    rw [show t + 1 - 1 = t from rfl]
    simp (disch := omega) only [zI1, zI2, if_neg]
  · have f0 : mX9_step N (b + 75) (zc w b C0 M r0) = mX9_step_74 N (b + 75) (Int32.ofNat f) (Int32.ofNat m) (Int32.ofNat p) 54 2 (Int32.ofNat (uC μ (p + 1))) 0 (zc w b C0 M r0) := zn_step (N := N) (w := w) hc hop (n := 2) rfl rfl rfl C0 r0
    refine f0.trans ?_
    have qi : (16 : Int32) * Int32.ofNat f + Int32.ofNat (uC μ (p + 1)) = Int32.ofNat (16 * f + uC μ (p + 1)) := by rw [show (16 : Int32) = Int32.ofNat 16 from rfl, zi_mul, zi_add]
    have q1 : zm_sI (zc w b C0 M r0) (b + 109) (16 * Int32.ofNat f + Int32.ofNat (uC μ (p + 1))) 1 = some (zc w b C0 (zJ M 44 (16 * f + uC μ (p + 1)) 1) r0) := by rw [qi, zqs_109 (by omega)]
    have f1 : mX9_popValue N (b + 75) (zc w b C0 (zJ M 44 (16 * f + uC μ (p + 1)) 1) r0) = some (zc w b C0 (zJ (zMD M f t) 44 (16 * f + uC μ (p + 1)) 1) r0, M.2 45 (12 * f + t)) := by
      have := zn_pop (N := N) (w := w) (b := b) (M := zJ M 44 (16 * f + uC μ (p + 1)) 1) (t := t) h1 (by simp only [zI1, zI2, zL1, zL2, zL3, zV1, zV2, zV3, zJ1, zJ2, zK1, zK2, Nat.reduceEqDiff, and_true, true_and, and_false, false_and, and_self, reduceIte]; exact h3) (by simp only [zI1, zI2, zL1, zL2, zL3, zV1, zV2, zV3, zJ1, zJ2, zK1, zK2, Nat.reduceEqDiff, and_true, true_and, and_false, false_and, and_self, reduceIte]; exact a2) (by omega) C0 r0
      rw [show zMD (zJ M 44 (16 * f + uC μ (p + 1)) 1) f t = zJ (zMD M f t) 44 (16 * f + uC μ (p + 1)) 1 from zJcomm (by omega)] at this
      exact this
    have q2 : ∀ v, zm_sL (zc w b C0 (zJ (zMD M f t) 44 (16 * f + uC μ (p + 1)) 1) r0) (b + 108) (16 * Int32.ofNat f + Int32.ofNat (uC μ (p + 1))) v = some (zc w b C0 (zK (zJ (zMD M f t) 44 (16 * f + uC μ (p + 1)) 1) 43 (16 * f + uC μ (p + 1)) v) r0) := fun v => by rw [qi, zqs_108 (by omega)]
    have f9 : ∀ v, mX9_step_327 N (b + 75) (Int32.ofNat f) (Int32.ofNat p) 2 (zc w b C0 (zK (zJ (zMD M f t) 44 (16 * f + uC μ (p + 1)) 1) 43 (16 * f + uC μ (p + 1)) v) r0) = some (zc w b C0 (zJ (zK (zJ (zMD M f t) 44 (16 * f + uC μ (p + 1)) 1) 43 (16 * f + uC μ (p + 1)) v) 41 f (Int32.ofNat (p + 2))) r0) := fun v => zn_on (N := N) (w := w) (b := b) (p := p) (n := 2) h1 (by simp (disch := omega) only [zK1, zJ1, if_neg]; exact zmd100.trans h4) (by simp (disch := omega) only [zK1, zJ1, if_neg]; exact zmd100.trans h5) C0 r0
    simp (decide := true) only [mX9_step_74, mX9_step_154, zqk_75, id, mX9_step_154, zqg_75_44, zqg_75_43, q1, f1, q2, f9, Option.map_some, Int32.reduceLT, Int32.reduceLE, Int32.reduceAdd, Int32.reduceSub, Int32.reduceMul, Int32.reduceDiv, Int32.reduceMod, ↓reduceIte, Option.bind_some]
    rfl

theorem zo_55 (h : zCur b K D C M r ra f (t + 1) p m lt st μ) (hop : uC μ p = 55) (s0 : st t = 2) (ha : uC μ (p + 1) < 16) : zQ w b N D C M r ra f m t (p + 2) (zset lt (uC μ (p + 1)) 2) st := by
  have hc := h
  obtain ⟨h1, h2, h3, h4, h5, hfr, h7, h8, h9, h10, h11, h12⟩ := h
  have hl : p + 2 ≤ uLen μ := by rw [hop] at h12; exact h12
  have hl2 := h10.1
  have b0 := (hfr.2.2.2.2.2.2.2.2 t (by omega)).2.2.2
  rw [s0] at b0
  have hp := ((hfr.drop (t' := t) (by omega)).setL ha (by decide) b0).go (p + 2)
  obtain ⟨a1, a2, a3, a4, a5, a6, a7, a8, a9⟩ := hfr
  refine ⟨_, _, fun M0 => ?_, fun C0 r0 => ?_, hp, zTop.rf.i2.l.i4.i2, (zTopM.rf.d.sl ha).go⟩
  · have e0 : mX1_opcode N (b + (3 * f + 27)) (zc w b C M0 r) = some (zc w b C M0 r, 55) := ze_step0 (N := N) (w := w) hc hop M0
    have eo : mX1_operand N (b + (3 * f + 27)) 1 (zc w b C M0 r) = some (zc w b C M0 r, Int32.ofNat (uC μ (p + 1))) := ze_operand (N := N) (w := w) (b := b) (k := 1) h1 h8 h10 a6 a4 (by omega) M0
    have e4 : mX1_popLocal N (b + (3 * f + 27)) (Int32.ofNat (uC μ (p + 1))) (zc w b C M0 r) = some (zc w b (zQL C f (t + 1) (uC μ (p + 1))) M0 r) := zf_popLocal (t := t + 1) h1 a1 a3 (by omega) (by omega) M0
    have e5 : mX4_goOn N (b + 15) 2 (zc w b (zQL C f (t + 1) (uC μ (p + 1))) M0 r) = some (zc w b (zI (zQL C f (t + 1) (uC μ (p + 1))) (f + 100) 4 (Int32.ofNat (p + 2))) M0 r, 0) := zf_goOn (C := (zQL C f (t + 1) (uC μ (p + 1)))) (n := 2) (p := p) h1 h2 (by unfold zQL; exact zp4_CS.trans (zp4_I2.trans a4)) M0
    simp (decide := true) only [mX4_step_107, mX4_step_249, mX4_step_0, mX4_step, mX4_storeLocal_0, mX4_storeLocal, e0, zqg_15_5 h2, zqkF h1, id, zqk_15, eo, e4, e5, Option.map_some, Int32.reduceLT, Int32.reduceLE, Int32.reduceAdd, Int32.reduceSub, Int32.reduceMul, Int32.reduceDiv, Int32.reduceMod, ↓reduceIte, Option.bind_some]
    unfold zQL zCS
    rw [show t + 1 - 1 = t from rfl]
    simp (disch := omega) only [zI1, zI2, if_neg]
  · have f0 : mX9_step N (b + 75) (zc w b C0 M r0) = mX9_step_74 N (b + 75) (Int32.ofNat f) (Int32.ofNat m) (Int32.ofNat p) 55 2 (Int32.ofNat (uC μ (p + 1))) 0 (zc w b C0 M r0) := zn_step (N := N) (w := w) hc hop (n := 2) rfl rfl rfl C0 r0
    refine f0.trans ?_
    have qi : (16 : Int32) * Int32.ofNat f + Int32.ofNat (uC μ (p + 1)) = Int32.ofNat (16 * f + uC μ (p + 1)) := by rw [show (16 : Int32) = Int32.ofNat 16 from rfl, zi_mul, zi_add]
    have q1 : zm_sI (zc w b C0 M r0) (b + 109) (16 * Int32.ofNat f + Int32.ofNat (uC μ (p + 1))) 2 = some (zc w b C0 (zJ M 44 (16 * f + uC μ (p + 1)) 2) r0) := by rw [qi, zqs_109 (by omega)]
    have f1 : mX9_popValue N (b + 75) (zc w b C0 (zJ M 44 (16 * f + uC μ (p + 1)) 2) r0) = some (zc w b C0 (zJ (zMD M f t) 44 (16 * f + uC μ (p + 1)) 2) r0, M.2 45 (12 * f + t)) := by
      have := zn_pop (N := N) (w := w) (b := b) (M := zJ M 44 (16 * f + uC μ (p + 1)) 2) (t := t) h1 (by simp only [zI1, zI2, zL1, zL2, zL3, zV1, zV2, zV3, zJ1, zJ2, zK1, zK2, Nat.reduceEqDiff, and_true, true_and, and_false, false_and, and_self, reduceIte]; exact h3) (by simp only [zI1, zI2, zL1, zL2, zL3, zV1, zV2, zV3, zJ1, zJ2, zK1, zK2, Nat.reduceEqDiff, and_true, true_and, and_false, false_and, and_self, reduceIte]; exact a2) (by omega) C0 r0
      rw [show zMD (zJ M 44 (16 * f + uC μ (p + 1)) 2) f t = zJ (zMD M f t) 44 (16 * f + uC μ (p + 1)) 2 from zJcomm (by omega)] at this
      exact this
    have q2 : ∀ v, zm_sL (zc w b C0 (zJ (zMD M f t) 44 (16 * f + uC μ (p + 1)) 2) r0) (b + 108) (16 * Int32.ofNat f + Int32.ofNat (uC μ (p + 1))) v = some (zc w b C0 (zK (zJ (zMD M f t) 44 (16 * f + uC μ (p + 1)) 2) 43 (16 * f + uC μ (p + 1)) v) r0) := fun v => by rw [qi, zqs_108 (by omega)]
    have f9 : ∀ v, mX9_step_327 N (b + 75) (Int32.ofNat f) (Int32.ofNat p) 2 (zc w b C0 (zK (zJ (zMD M f t) 44 (16 * f + uC μ (p + 1)) 2) 43 (16 * f + uC μ (p + 1)) v) r0) = some (zc w b C0 (zJ (zK (zJ (zMD M f t) 44 (16 * f + uC μ (p + 1)) 2) 43 (16 * f + uC μ (p + 1)) v) 41 f (Int32.ofNat (p + 2))) r0) := fun v => zn_on (N := N) (w := w) (b := b) (p := p) (n := 2) h1 (by simp (disch := omega) only [zK1, zJ1, if_neg]; exact zmd100.trans h4) (by simp (disch := omega) only [zK1, zJ1, if_neg]; exact zmd100.trans h5) C0 r0
    simp (decide := true) only [mX9_step_74, mX9_step_154, zqk_75, id, mX9_step_154, zqg_75_44, zqg_75_43, q1, f1, q2, f9, Option.map_some, Int32.reduceLT, Int32.reduceLE, Int32.reduceAdd, Int32.reduceSub, Int32.reduceMul, Int32.reduceDiv, Int32.reduceMod, ↓reduceIte, Option.bind_some]
    rfl

theorem zo_58 (h : zCur b K D C M r ra f (t + 1) p m lt st μ) (hop : uC μ p = 58) (s0 : st t = 3) (ha : uC μ (p + 1) < 16) : zQ w b N D C M r ra f m t (p + 2) (zset lt (uC μ (p + 1)) 3) st := by
  have hc := h
  obtain ⟨h1, h2, h3, h4, h5, hfr, h7, h8, h9, h10, h11, h12⟩ := h
  have hl : p + 2 ≤ uLen μ := by rw [hop] at h12; exact h12
  have hl2 := h10.1
  have b0 := (hfr.2.2.2.2.2.2.2.2 t (by omega)).2.2.2
  rw [s0] at b0
  have hp := ((hfr.drop (t' := t) (by omega)).setL ha (by decide) b0).go (p + 2)
  obtain ⟨a1, a2, a3, a4, a5, a6, a7, a8, a9⟩ := hfr
  refine ⟨_, _, fun M0 => ?_, fun C0 r0 => ?_, hp, zTop.rf.i2.l.i4.i2, (zTopM.rf.d.sl ha).go⟩
  · have e0 : mX1_opcode N (b + (3 * f + 27)) (zc w b C M0 r) = some (zc w b C M0 r, 58) := ze_step0 (N := N) (w := w) hc hop M0
    have eo : mX1_operand N (b + (3 * f + 27)) 1 (zc w b C M0 r) = some (zc w b C M0 r, Int32.ofNat (uC μ (p + 1))) := ze_operand (N := N) (w := w) (b := b) (k := 1) h1 h8 h10 a6 a4 (by omega) M0
    have e4 : mX1_popLocal N (b + (3 * f + 27)) (Int32.ofNat (uC μ (p + 1))) (zc w b C M0 r) = some (zc w b (zQL C f (t + 1) (uC μ (p + 1))) M0 r) := zf_popLocal (t := t + 1) h1 a1 a3 (by omega) (by omega) M0
    have e5 : mX4_goOn N (b + 15) 2 (zc w b (zQL C f (t + 1) (uC μ (p + 1))) M0 r) = some (zc w b (zI (zQL C f (t + 1) (uC μ (p + 1))) (f + 100) 4 (Int32.ofNat (p + 2))) M0 r, 0) := zf_goOn (C := (zQL C f (t + 1) (uC μ (p + 1)))) (n := 2) (p := p) h1 h2 (by unfold zQL; exact zp4_CS.trans (zp4_I2.trans a4)) M0
    simp (decide := true) only [mX4_step_107, mX4_step_249, mX4_step_0, mX4_step, mX4_storeLocal_0, mX4_storeLocal, e0, zqg_15_5 h2, zqkF h1, id, zqk_15, eo, e4, e5, Option.map_some, Int32.reduceLT, Int32.reduceLE, Int32.reduceAdd, Int32.reduceSub, Int32.reduceMul, Int32.reduceDiv, Int32.reduceMod, ↓reduceIte, Option.bind_some]
    unfold zQL zCS
    rw [show t + 1 - 1 = t from rfl]
    simp (disch := omega) only [zI1, zI2, if_neg]
  · have f0 : mX9_step N (b + 75) (zc w b C0 M r0) = mX9_step_74 N (b + 75) (Int32.ofNat f) (Int32.ofNat m) (Int32.ofNat p) 58 2 (Int32.ofNat (uC μ (p + 1))) 0 (zc w b C0 M r0) := zn_step (N := N) (w := w) hc hop (n := 2) rfl rfl rfl C0 r0
    refine f0.trans ?_
    have qi : (16 : Int32) * Int32.ofNat f + Int32.ofNat (uC μ (p + 1)) = Int32.ofNat (16 * f + uC μ (p + 1)) := by rw [show (16 : Int32) = Int32.ofNat 16 from rfl, zi_mul, zi_add]
    have q1 : zm_sI (zc w b C0 M r0) (b + 109) (16 * Int32.ofNat f + Int32.ofNat (uC μ (p + 1))) 3 = some (zc w b C0 (zJ M 44 (16 * f + uC μ (p + 1)) 3) r0) := by rw [qi, zqs_109 (by omega)]
    have f1 : mX9_popValue N (b + 75) (zc w b C0 (zJ M 44 (16 * f + uC μ (p + 1)) 3) r0) = some (zc w b C0 (zJ (zMD M f t) 44 (16 * f + uC μ (p + 1)) 3) r0, M.2 45 (12 * f + t)) := by
      have := zn_pop (N := N) (w := w) (b := b) (M := zJ M 44 (16 * f + uC μ (p + 1)) 3) (t := t) h1 (by simp only [zI1, zI2, zL1, zL2, zL3, zV1, zV2, zV3, zJ1, zJ2, zK1, zK2, Nat.reduceEqDiff, and_true, true_and, and_false, false_and, and_self, reduceIte]; exact h3) (by simp only [zI1, zI2, zL1, zL2, zL3, zV1, zV2, zV3, zJ1, zJ2, zK1, zK2, Nat.reduceEqDiff, and_true, true_and, and_false, false_and, and_self, reduceIte]; exact a2) (by omega) C0 r0
      rw [show zMD (zJ M 44 (16 * f + uC μ (p + 1)) 3) f t = zJ (zMD M f t) 44 (16 * f + uC μ (p + 1)) 3 from zJcomm (by omega)] at this
      exact this
    have q2 : ∀ v, zm_sL (zc w b C0 (zJ (zMD M f t) 44 (16 * f + uC μ (p + 1)) 3) r0) (b + 108) (16 * Int32.ofNat f + Int32.ofNat (uC μ (p + 1))) v = some (zc w b C0 (zK (zJ (zMD M f t) 44 (16 * f + uC μ (p + 1)) 3) 43 (16 * f + uC μ (p + 1)) v) r0) := fun v => by rw [qi, zqs_108 (by omega)]
    have f9 : ∀ v, mX9_step_327 N (b + 75) (Int32.ofNat f) (Int32.ofNat p) 2 (zc w b C0 (zK (zJ (zMD M f t) 44 (16 * f + uC μ (p + 1)) 3) 43 (16 * f + uC μ (p + 1)) v) r0) = some (zc w b C0 (zJ (zK (zJ (zMD M f t) 44 (16 * f + uC μ (p + 1)) 3) 43 (16 * f + uC μ (p + 1)) v) 41 f (Int32.ofNat (p + 2))) r0) := fun v => zn_on (N := N) (w := w) (b := b) (p := p) (n := 2) h1 (by simp (disch := omega) only [zK1, zJ1, if_neg]; exact zmd100.trans h4) (by simp (disch := omega) only [zK1, zJ1, if_neg]; exact zmd100.trans h5) C0 r0
    simp (decide := true) only [mX9_step_74, mX9_step_154, zqk_75, id, mX9_step_154, zqg_75_44, zqg_75_43, q1, f1, q2, f9, Option.map_some, Int32.reduceLT, Int32.reduceLE, Int32.reduceAdd, Int32.reduceSub, Int32.reduceMul, Int32.reduceDiv, Int32.reduceMod, ↓reduceIte, Option.bind_some]
    rfl

theorem zo_87 (h : zCur b K D C M r ra f (t + 1) p m lt st μ) (hop : uC μ p = 87) : zQ w b N D C M r ra f m t (p + 1) lt st := by
  have hc := h
  obtain ⟨h1, h2, h3, h4, h5, hfr, h7, h8, h9, h10, h11, h12⟩ := h
  have hp := (hfr.drop (t' := t) (by omega)).go (p + 1)
  obtain ⟨a1, a2, a3, a4, a5, a6, a7, a8, a9⟩ := hfr
  refine ⟨_, _, fun M0 => ?_, fun C0 r0 => ?_, hp, zTop.rf.i2.i2, zTopM.rf.d.go⟩
  · have e0 : mX1_opcode N (b + (3 * f + 27)) (zc w b C M0 r) = some (zc w b C M0 r, 87) := ze_step0 (N := N) (w := w) hc hop M0
    have e3 : mX1_drop N (b + (3 * f + 27)) 1 (zc w b C M0 r) = some (zc w b (zI C (f + 100) 2 (Int32.ofNat (16 + t))) M0 r) := zf_drop (N := N) (w := w) (b := b) (r := r) (t := t + 1) (k := 1) h1 a1 a3 (by omega) M0
    have e5 : mX4_goOn N (b + 15) 1 (zc w b (zI C (f + 100) 2 (Int32.ofNat (16 + t))) M0 r) = some (zc w b (zI (zI C (f + 100) 2 (Int32.ofNat (16 + t))) (f + 100) 4 (Int32.ofNat (p + 1))) M0 r, 0) := zf_goOn (C := (zI C (f + 100) 2 (Int32.ofNat (16 + t)))) (n := 1) (p := p) h1 h2 (zp4_I2.trans a4) M0
    simp (decide := true) only [mX4_step_107, mX4_step_249, mX4_step_0, mX4_step, mX4_shuffle_56, mX4_shuffle_0, mX4_shuffle, e0, zqg_15_5 h2, zqkF h1, id, zqk_15, e3, e5, Option.map_some, Int32.reduceLT, Int32.reduceLE, Int32.reduceAdd, Int32.reduceSub, Int32.reduceMul, Int32.reduceDiv, Int32.reduceMod, ↓reduceIte, Option.bind_some]
  · have f0 : mX9_step N (b + 75) (zc w b C0 M r0) = mX9_step_74 N (b + 75) (Int32.ofNat f) (Int32.ofNat m) (Int32.ofNat p) 87 1 0 0 (zc w b C0 M r0) := zn_step (N := N) (w := w) hc hop (n := 1) rfl rfl rfl C0 r0
    refine f0.trans ?_
    have f1 := zn_pop (N := N) (w := w) (b := b) (M := M) (t := t) h1 h3 a2 (by omega) C0 r0
    have q1 : zm_aI (zc w b C0 M r0) (b + 107) (Int32.ofNat f) = some (Int32.ofNat (t + 1)) := by rw [zqa_107 h1, a2]
    have f9 : mX9_step_327 N (b + 75) (Int32.ofNat f) (Int32.ofNat p) 1 (zc w b C0 (zMD M f t) r0) = some (zc w b C0 (zJ (zMD M f t) 41 f (Int32.ofNat (p + 1))) r0) := zn_on (N := N) (w := w) (b := b) (M := (zMD M f t)) (p := p) (n := 1) h1 (zmd100.trans h4) (zmd100.trans h5) C0 r0
    simp (decide := true) only [mX9_step_74, mX9_doStack_117, mX9_doStack_0, mX9_doStack, zqk_75, id, zqg_75_42, q1, f1, f9, Option.map_some, Int32.reduceLT, Int32.reduceLE, Int32.reduceAdd, Int32.reduceSub, Int32.reduceMul, Int32.reduceDiv, Int32.reduceMod, ↓reduceIte, Option.bind_some]

theorem zo_88 (h : zCur b K D C M r ra f (t + 1) p m lt st μ) (hop : uC μ p = 88) : zQ w b N D C M r ra f m t (p + 1) lt st := by
  have hc := h
  obtain ⟨h1, h2, h3, h4, h5, hfr, h7, h8, h9, h10, h11, h12⟩ := h
  have hp := (hfr.drop (t' := t) (by omega)).go (p + 1)
  obtain ⟨a1, a2, a3, a4, a5, a6, a7, a8, a9⟩ := hfr
  refine ⟨_, _, fun M0 => ?_, fun C0 r0 => ?_, hp, zTop.rf.i2.i2, zTopM.rf.d.go⟩
  · have e0 : mX1_opcode N (b + (3 * f + 27)) (zc w b C M0 r) = some (zc w b C M0 r, 88) := ze_step0 (N := N) (w := w) hc hop M0
    have e3 : mX1_drop N (b + (3 * f + 27)) 1 (zc w b C M0 r) = some (zc w b (zI C (f + 100) 2 (Int32.ofNat (16 + t))) M0 r) := zf_drop (N := N) (w := w) (b := b) (r := r) (t := t + 1) (k := 1) h1 a1 a3 (by omega) M0
    have e5 : mX4_goOn N (b + 15) 1 (zc w b (zI C (f + 100) 2 (Int32.ofNat (16 + t))) M0 r) = some (zc w b (zI (zI C (f + 100) 2 (Int32.ofNat (16 + t))) (f + 100) 4 (Int32.ofNat (p + 1))) M0 r, 0) := zf_goOn (C := (zI C (f + 100) 2 (Int32.ofNat (16 + t)))) (n := 1) (p := p) h1 h2 (zp4_I2.trans a4) M0
    simp (decide := true) only [mX4_step_107, mX4_step_249, mX4_step_0, mX4_step, mX4_shuffle_56, mX4_shuffle_0, mX4_shuffle, e0, zqg_15_5 h2, zqkF h1, id, zqk_15, e3, e5, Option.map_some, Int32.reduceLT, Int32.reduceLE, Int32.reduceAdd, Int32.reduceSub, Int32.reduceMul, Int32.reduceDiv, Int32.reduceMod, ↓reduceIte, Option.bind_some]
  · have f0 : mX9_step N (b + 75) (zc w b C0 M r0) = mX9_step_74 N (b + 75) (Int32.ofNat f) (Int32.ofNat m) (Int32.ofNat p) 88 1 0 0 (zc w b C0 M r0) := zn_step (N := N) (w := w) hc hop (n := 1) rfl rfl rfl C0 r0
    refine f0.trans ?_
    have f1 := zn_pop (N := N) (w := w) (b := b) (M := M) (t := t) h1 h3 a2 (by omega) C0 r0
    have q1 : zm_aI (zc w b C0 M r0) (b + 107) (Int32.ofNat f) = some (Int32.ofNat (t + 1)) := by rw [zqa_107 h1, a2]
    have f9 : mX9_step_327 N (b + 75) (Int32.ofNat f) (Int32.ofNat p) 1 (zc w b C0 (zMD M f t) r0) = some (zc w b C0 (zJ (zMD M f t) 41 f (Int32.ofNat (p + 1))) r0) := zn_on (N := N) (w := w) (b := b) (M := (zMD M f t)) (p := p) (n := 1) h1 (zmd100.trans h4) (zmd100.trans h5) C0 r0
    simp (decide := true) only [mX9_step_74, mX9_doStack_117, mX9_doStack_0, mX9_doStack, zqk_75, id, zqg_75_42, q1, f1, f9, Option.map_some, Int32.reduceLT, Int32.reduceLE, Int32.reduceAdd, Int32.reduceSub, Int32.reduceMul, Int32.reduceDiv, Int32.reduceMod, ↓reduceIte, Option.bind_some]

theorem zo_89 (h : zCur b K D C M r ra f (t + 1) p m lt st μ) (hop : uC μ p = 89) (h13 : t < 11) : zQ w b N D C M r ra f m (t + 2) (p + 1) lt (zset st (t + 1) (st t)) := by
  have hc := h
  obtain ⟨h1, h2, h3, h4, h5, hfr, h7, h8, h9, h10, h11, h12⟩ := h
  have b0 := hfr.2.2.2.2.2.2.2.2 t (by omega)
  have hp := (hfr.pushS (by omega) b0.2.2.2 ⟨b0.2.1, b0.2.2.1⟩).go (p + 1)
  obtain ⟨a1, a2, a3, a4, a5, a6, a7, a8, a9⟩ := hfr
  refine ⟨_, _, fun M0 => ?_, fun C0 r0 => ?_, hp, zTop.rf.l.i4.i2.i2, (zTopM.rf.p (by omega)).go⟩
  · have e0 : mX1_opcode N (b + (3 * f + 27)) (zc w b C M0 r) = some (zc w b C M0 r, 89) := ze_step0 (N := N) (w := w) hc hop M0
    have e4 : mX1_duplicate N (b + (3 * f + 27)) (zc w b C M0 r) = some (zc w b (zDU C f (t + 1)) M0 r) := zf_duplicate (t := t + 1) h1 a1 (by omega) (by omega) M0
    have e5 : mX4_goOn N (b + 15) 1 (zc w b (zDU C f (t + 1)) M0 r) = some (zc w b (zI (zDU C f (t + 1)) (f + 100) 4 (Int32.ofNat (p + 1))) M0 r, 0) := zf_goOn (C := (zDU C f (t + 1))) (n := 1) (p := p) h1 h2 (by unfold zDU; exact zp4_I2.trans (zp4_CS.trans a4)) M0
    simp (decide := true) only [mX4_step_107, mX4_step_249, mX4_step_0, mX4_step, mX4_shuffle_56, mX4_shuffle_0, mX4_shuffle, e0, zqg_15_5 h2, zqkF h1, id, zqk_15, e4, e5, Option.map_some, Int32.reduceLT, Int32.reduceLE, Int32.reduceAdd, Int32.reduceSub, Int32.reduceMul, Int32.reduceDiv, Int32.reduceMod, ↓reduceIte, Option.bind_some]
    unfold zDU zCS
    rw [show 15 + (t + 1) = 16 + t by omega]
  · have f0 : mX9_step N (b + 75) (zc w b C0 M r0) = mX9_step_74 N (b + 75) (Int32.ofNat f) (Int32.ofNat m) (Int32.ofNat p) 89 1 0 0 (zc w b C0 M r0) := zn_step (N := N) (w := w) hc hop (n := 1) rfl rfl rfl C0 r0
    refine f0.trans ?_
    have q1 : zm_aI (zc w b C0 M r0) (b + 107) (Int32.ofNat f) = some (Int32.ofNat (t + 1)) := by rw [zqa_107 h1, a2]
    have qe : (12 : Int32) * Int32.ofNat f + Int32.ofNat (t + 1) - 1 = Int32.ofNat (12 * f + t) := by rw [zi_lit, zi_mul, zi_add, zi_lit, zi_sub (by omega)]; congr 1
    have q2 : zm_aI (zc w b C0 M r0) (b + 111) (Int32.ofNat (12 * f + t)) = some (Int32.ofNat (st t)) := by rw [zqa_111 (by omega), b0.1]
    have q3 : zm_aL (zc w b C0 M r0) (b + 110) (Int32.ofNat (12 * f + t)) = some (M.2 45 (12 * f + t)) := zqa_110 (by omega)
    have f8 : mX9_pushValue N (b + 75) (Int32.ofNat (st t)) (M.2 45 (12 * f + t)) (zc w b C0 M r0) = some (zc w b C0 (zMP M f (t + 1) (Int32.ofNat (st t)) (M.2 45 (12 * f + t))) r0) := zn_push (N := N) (w := w) (b := b) (M := M) (t := t + 1) h1 h3 a2 (by omega) _ _ C0 r0
    have f9 : mX9_step_327 N (b + 75) (Int32.ofNat f) (Int32.ofNat p) 1 (zc w b C0 (zMP M f (t + 1) (Int32.ofNat (st t)) (M.2 45 (12 * f + t))) r0) = some (zc w b C0 (zJ (zMP M f (t + 1) (Int32.ofNat (st t)) (M.2 45 (12 * f + t))) 41 f (Int32.ofNat (p + 1))) r0) := zn_on (N := N) (w := w) (b := b) (M := (zMP M f (t + 1) (Int32.ofNat (st t)) (M.2 45 (12 * f + t)))) (p := p) (n := 1) h1 (zmp100.trans h4) (zmp100.trans h5) C0 r0
    simp (decide := true) only [mX9_step_74, mX9_doStack_117, mX9_doStack_0, mX9_doStack, zqk_75, id, zqg_75_42, zqg_75_45, zqg_75_46, q1, qe, q2, q3, f8, f9, Option.map_some, Int32.reduceLT, Int32.reduceLE, Int32.reduceAdd, Int32.reduceSub, Int32.reduceMul, Int32.reduceDiv, Int32.reduceMod, ↓reduceIte, Option.bind_some]

theorem zo_95 (h : zCur b K D C M r ra f (t + 2) p m lt st μ) (hop : uC μ p = 95) : zQ w b N D C M r ra f m (t + 2) (p + 1) lt (zset (zset st (t + 1) (st t)) t (st (t + 1))) := by
  have hc := h
  obtain ⟨h1, h2, h3, h4, h5, hfr, h7, h8, h9, h10, h11, h12⟩ := h
  have hp := hfr.swap.go (p + 1)
  obtain ⟨a1, a2, a3, a4, a5, a6, a7, a8, a9⟩ := hfr
  refine ⟨_, _, fun M0 => ?_, fun C0 r0 => ?_, hp, ?_, ?_⟩
  · have e0 : mX1_opcode N (b + (3 * f + 27)) (zc w b C M0 r) = some (zc w b C M0 r, 95) := ze_step0 (N := N) (w := w) hc hop M0
    have e4 : mX1_exchange N (b + (3 * f + 27)) (zc w b C M0 r) = some (zc w b (zSW C f (t + 2)) M0 r) := zf_exchange (t := t + 2) h1 a1 (by omega) (by omega) M0
    have e5 : mX4_goOn N (b + 15) 1 (zc w b (zSW C f (t + 2)) M0 r) = some (zc w b (zI (zSW C f (t + 2)) (f + 100) 4 (Int32.ofNat (p + 1))) M0 r, 0) := zf_goOn (C := (zSW C f (t + 2))) (n := 1) (p := p) h1 h2 (by unfold zSW; simp (disch := omega) only [zI1, zL1, if_neg]; exact zp4_CS.trans a4) M0
    simp (decide := true) only [mX4_step_107, mX4_step_249, mX4_step_0, mX4_step, mX4_shuffle_56, mX4_shuffle_0, mX4_shuffle, e0, zqg_15_5 h2, zqkF h1, id, zqk_15, e4, e5, Option.map_some, Int32.reduceLT, Int32.reduceLE, Int32.reduceAdd, Int32.reduceSub, Int32.reduceMul, Int32.reduceDiv, Int32.reduceMod, ↓reduceIte, Option.bind_some]
  · have f0 : mX9_step N (b + 75) (zc w b C0 M r0) = mX9_step_74 N (b + 75) (Int32.ofNat f) (Int32.ofNat m) (Int32.ofNat p) 95 1 0 0 (zc w b C0 M r0) := zn_step (N := N) (w := w) hc hop (n := 1) rfl rfl rfl C0 r0
    refine f0.trans ?_
    have q1 : zm_aI (zc w b C0 M r0) (b + 107) (Int32.ofNat f) = some (Int32.ofNat (t + 2)) := by rw [zqa_107 h1, a2]
    have qe : (12 : Int32) * Int32.ofNat f + Int32.ofNat (t + 2) - 1 = Int32.ofNat (12 * f + (t + 1)) := by rw [zi_lit, zi_mul, zi_add, zi_lit, zi_sub (by omega)]; congr 1
    have qf : Int32.ofNat (12 * f + (t + 1)) - 1 = Int32.ofNat (12 * f + t) := by rw [zi_lit, zi_sub (by omega)]; congr 1
    have k1 : 12 * f + (t + 1) < 192 := by omega
    have k0 : 12 * f + t < 192 := by omega
    have kn : ¬ 12 * f + t = 12 * f + (t + 1) := by omega
    have km : ¬ 12 * f + (t + 1) = 12 * f + t := by omega
    have f9 : mX9_step_327 N (b + 75) (Int32.ofNat f) (Int32.ofNat p) 1 (zc w b C0 (zJ (zK (zJ (zK M 45 (12 * f + (t + 1)) (M.2 45 (12 * f + t))) 46 (12 * f + (t + 1)) (M.1 46 (12 * f + t))) 45 (12 * f + t) (M.2 45 (12 * f + (t + 1)))) 46 (12 * f + t) (M.1 46 (12 * f + (t + 1)))) r0) = some (zc w b C0 (zJ (zJ (zK (zJ (zK M 45 (12 * f + (t + 1)) (M.2 45 (12 * f + t))) 46 (12 * f + (t + 1)) (M.1 46 (12 * f + t))) 45 (12 * f + t) (M.2 45 (12 * f + (t + 1)))) 46 (12 * f + t) (M.1 46 (12 * f + (t + 1)))) 41 f (Int32.ofNat (p + 1))) r0) := zn_on (N := N) (w := w) (b := b) (M := (zJ (zK (zJ (zK M 45 (12 * f + (t + 1)) (M.2 45 (12 * f + t))) 46 (12 * f + (t + 1)) (M.1 46 (12 * f + t))) 45 (12 * f + t) (M.2 45 (12 * f + (t + 1)))) 46 (12 * f + t) (M.1 46 (12 * f + (t + 1))))) (p := p) (n := 1) h1 (by simp (disch := omega) only [zJ1, zK1, if_neg]; exact h4) (by simp (disch := omega) only [zJ1, zK1, if_neg]; exact h5) C0 r0
    simp (decide := true) only [mX9_step_74, mX9_doStack_117, mX9_doStack_0, mX9_doStack, zqk_75, id, zqg_75_42, zqg_75_45, zqg_75_46, q1, qe, qf, zqa_110 k1, zqa_110 k0, zqa_111 k1, zqa_111 k0, zqs_110 k1, zqs_110 k0, zqs_111 k1, zqs_111 k0, zJ1, zJ2, zK1, zK2, kn, km, and_false, and_true, false_and, true_and, f9, Option.map_some, Int32.reduceLT, Int32.reduceLE, Int32.reduceAdd, Int32.reduceSub, Int32.reduceMul, Int32.reduceDiv, Int32.reduceMod, ↓reduceIte, Option.bind_some]
  · unfold zSW zCS
    exact zTop.rf.l.i4.l.i4.i2
  · refine ⟨fun o k g1 g2 g3 => ?_, fun o k g1 g2 => ?_⟩
    · simp (disch := omega) only [zJ1, zK1, if_neg]
    · simp (disch := omega) only [zJ2, zK2, if_neg]

end ZQW
