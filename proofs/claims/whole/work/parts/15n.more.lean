section ZQW
variable {N w b K f t p m : Nat} {D : Nat → Nat → Prop} {C : zC} {M : zM} {r : zv_X} {ra lt st : Nat → Nat} {μ : zMu}
theorem zo_132 (h : zCur b K D C M r ra f t p m lt st μ) (hop : uC μ p = 132) (ha : uC μ (p + 1) < 16) (hk : lt (uC μ (p + 1)) = 1) : zQ w b N D C M r ra f m t (p + 3) lt st := by
  have hc := h
  obtain ⟨h1, h2, h3, h4, h5, hfr, h7, h8, h9, h10, h11, h12⟩ := h
  have hl : p + 3 ≤ uLen μ := by rw [hop] at h12; exact h12
  have hl2 := h10.1
  have hb2 := h10.2.1 (p + 2) (by omega)
  have b0 := (hfr.2.2.2.2.2.2.2.1 _ ha).2.2
  rw [hk] at b0
  have n0 := b0.num (Or.inl rfl)
  have hp := (hfr.incL ha hk (M.2 43 (16 * f + (uC μ (p + 1))) + (Int32.ofInt (zsg (uC μ (p + 2)))).toInt64).toInt32).go (p + 3)
  obtain ⟨a1, a2, a3, a4, a5, a6, a7, a8, a9⟩ := hfr
  refine ⟨_, _, fun M0 => ?_, fun C0 r0 => ?_, hp, zTop.rf.l.i2, ?_⟩
  · have e0 : mX1_opcode N (b + (3 * f + 27)) (zc w b C M0 r) = some (zc w b C M0 r, 132) := ze_step0 (N := N) (w := w) hc hop M0
    have eo : mX1_operand N (b + (3 * f + 27)) 1 (zc w b C M0 r) = some (zc w b C M0 r, Int32.ofNat (uC μ (p + 1))) := ze_operand (N := N) (w := w) (b := b) (k := 1) h1 h8 h10 a6 a4 (by omega) M0
    have ep : mX1_operand N (b + (3 * f + 27)) 2 (zc w b C M0 r) = some (zc w b C M0 r, Int32.ofNat (uC μ (p + 2))) := ze_operand (N := N) (w := w) (b := b) (k := 2) h1 h8 h10 a6 a4 (by omega) M0
    have e4 : ∀ v, mX1_increase N (b + (3 * f + 27)) (Int32.ofNat (uC μ (p + 1))) v (zc w b C M0 r) = some (zc w b (zL C (f + 120) (uC μ (p + 1)) (M.2 43 (16 * f + (uC μ (p + 1))) + v.toInt64).toInt32.toInt64) M0 r) := fun v => by
      have := zf_increase (N := N) (w := w) (b := b) (C := C) (r := r) (a := (uC μ (p + 1))) h1 (by omega) v M0
      rw [n0.1] at this; exact this
    have e5 : ∀ v, mX4_goOn N (b + 15) 3 (zc w b (zL C (f + 120) (uC μ (p + 1)) v) M0 r) = some (zc w b (zI (zL C (f + 120) (uC μ (p + 1)) v) (f + 100) 4 (Int32.ofNat (p + 3))) M0 r, 0) := fun v => zf_goOn (C := zL C (f + 120) (uC μ (p + 1)) v) (n := 3) (p := p) h1 h2 a4 M0
    simp (decide := true) only [mX4_step_107, mX4_step_249, mX4_step_0, mX4_step, mX4_convert_0, mX4_convert, e0, zqg_15_5 h2, zqkF h1, id, zqk_15, eo, ep, (zk_sg _ hb2).1, e4, e5, Option.map_some, Int32.reduceLT, Int32.reduceLE, Int32.reduceAdd, Int32.reduceSub, Int32.reduceMul, Int32.reduceDiv, Int32.reduceMod, ↓reduceIte, Option.bind_some]
  · have f0 : mX9_step N (b + 75) (zc w b C0 M r0) = mX9_step_74 N (b + 75) (Int32.ofNat f) (Int32.ofNat m) (Int32.ofNat p) 132 3 (Int32.ofNat (uC μ (p + 1))) (Int32.ofNat (uC μ (p + 2))) (zc w b C0 M r0) := zn_step (N := N) (w := w) hc hop (n := 3) rfl rfl rfl C0 r0
    refine f0.trans ?_
    have qi : (16 : Int32) * Int32.ofNat f + Int32.ofNat (uC μ (p + 1)) = Int32.ofNat (16 * f + (uC μ (p + 1))) := by rw [show (16 : Int32) = Int32.ofNat 16 from rfl, zi_mul, zi_add]
    have q1 : zm_aL (zc w b C0 M r0) (b + 108) (Int32.ofNat (16 * f + (uC μ (p + 1)))) = some (M.2 43 (16 * f + (uC μ (p + 1)))) := zqa_108 (by omega)
    have q2 : ∀ v, zm_sL (zc w b C0 M r0) (b + 108) (Int32.ofNat (16 * f + (uC μ (p + 1)))) v = some (zc w b C0 (zK M 43 (16 * f + (uC μ (p + 1))) v) r0) := fun v => zqs_108 (by omega)
    have f9 : ∀ v, mX9_step_327 N (b + 75) (Int32.ofNat f) (Int32.ofNat p) 3 (zc w b C0 (zK M 43 (16 * f + (uC μ (p + 1))) v) r0) = some (zc w b C0 (zJ (zK M 43 (16 * f + (uC μ (p + 1))) v) 41 f (Int32.ofNat (p + 3))) r0) := fun v => zn_on (N := N) (w := w) (b := b) (M := zK M 43 (16 * f + (uC μ (p + 1))) v) (p := p) (n := 3) h1 h4 h5 C0 r0
    simp (decide := true) only [mX9_step_74, mX9_doReckoning_352, mX9_doReckoning_244, mX9_doReckoning_229, mX9_doReckoning_210, mX9_doReckoning_302, mX9_doReckoning_279, mX9_doReckoning_274, mX9_doReckoning_192, mX9_doReckoning_144, mX9_doReckoning_138, mX9_doReckoning_0, mX9_doReckoning, zqk_75, id, zqg_75_43, qi, q1, q2, f9, qX9_signed, (zk_sg _ hb2).2, Option.map_some, Int32.reduceLT, Int32.reduceLE, Int32.reduceAdd, Int32.reduceSub, Int32.reduceMul, Int32.reduceDiv, Int32.reduceMod, ↓reduceIte, Option.bind_some]
  · refine ⟨fun o k g1 g2 g3 => ?_, fun o k g1 g2 => ?_⟩
    · simp (disch := omega) only [zJ1, zK1, if_neg]
    · simp (disch := omega) only [zJ2, zK2, if_neg]

def zcmp (a b : Int64) : Int32 := if 0 ≤ lg_cmp a b then (if lg_cmp a b = 0 then 0 else 1) else -1
theorem zo_148 (h : zCur b K D C M r ra f (t + 2) p m lt st μ) (hop : uC μ p = 148) (s0 : st (t + 1) = 2) (s1 : st t = 2) : zQ w b N D C M r ra f m (t + 1) (p + 1) lt (zset st t 1) := by
  have hc := h
  obtain ⟨h1, h2, h3, h4, h5, hfr, h7, h8, h9, h10, h11, h12⟩ := h
  have hd := hfr.drop (t' := t) (by omega)
  obtain ⟨a1, a2, a3, a4, a5, a6, a7, a8, a9⟩ := hfr
  have u0 := (a9 (t + 1) (by omega)).2.2.2
  rw [s0] at u0
  have n0 := u0.num (Or.inr rfl)
  have u1 := (a9 (t) (by omega)).2.2.2
  rw [s1] at u1
  have n1 := u1.num (Or.inr rfl)
  have hp := (hd.pushN (by omega) (zSl.mk1 (zcmp (M.2 45 (12 * f + t)) (M.2 45 (12 * f + (t + 1))))) (Or.inl rfl)).go (p + 1)
  refine ⟨_, _, fun M0 => ?_, fun C0 r0 => ?_, hp, zTop.rf.i2.pn.i2, (zTopM.rf.d.p (by omega)).go⟩
  · have e0 : mX1_opcode N (b + (3 * f + 27)) (zc w b C M0 r) = some (zc w b C M0 r, 148) := ze_step0 (N := N) (w := w) hc hop M0
    have g0 : mX1_number N (b + (3 * f + 27)) 0 (zc w b C M0 r) = some (zc w b C M0 r, M.2 45 (12 * f + (t + 1))) := by
      have := zf_number (N := N) (w := w) (b := b) (r := r) (k := 0) h1 a1 a3 (by omega) M0
      rw [show 15 + (t + 2) - 0 = 16 + (t + 1) by omega, n0.1] at this; exact this
    have g1 : mX1_number N (b + (3 * f + 27)) 1 (zc w b C M0 r) = some (zc w b C M0 r, M.2 45 (12 * f + (t))) := by
      have := zf_number (N := N) (w := w) (b := b) (r := r) (k := 1) h1 a1 a3 (by omega) M0
      rw [show 15 + (t + 2) - 1 = 16 + (t) by omega, n1.1] at this; exact this
    have e3 : mX1_drop N (b + (3 * f + 27)) 2 (zc w b C M0 r) = some (zc w b (zI C (f + 100) 2 (Int32.ofNat (16 + t))) M0 r) := zf_drop (N := N) (w := w) (b := b) (r := r) (t := t + 2) (k := 2) h1 a1 a3 (by omega) M0
    have k1 : (zI C (f + 100) 2 (Int32.ofNat (16 + t))).2.2 15 5 = .ref (b + (3 * f + 27)) := h2
    have e4 : ∀ v, mX1_pushNumber N (b + (3 * f + 27)) v (zc w b (zI C (f + 100) 2 (Int32.ofNat (16 + t))) M0 r) = some (zc w b (zPN (zI C (f + 100) 2 (Int32.ofNat (16 + t))) f t v) M0 r) := fun v => zf_pushNumber (t := t) h1 zp2_I2 (by omega) v M0
    have e5 : ∀ v, mX4_goOn N (b + 15) 1 (zc w b (zPN (zI C (f + 100) 2 (Int32.ofNat (16 + t))) f t v) M0 r) = some (zc w b (zI (zPN (zI C (f + 100) 2 (Int32.ofNat (16 + t))) f t v) (f + 100) 4 (Int32.ofNat (p + 1))) M0 r, 0) := fun v => zf_goOn (C := zPN (zI C (f + 100) 2 (Int32.ofNat (16 + t))) f t v) (n := 1) (p := p) h1 h2 (zp4_PN.trans (zp4_I2.trans a4)) M0
    have ec : mJ13_compare_74951 N (M.2 45 (12 * f + t)) (M.2 45 (12 * f + (t + 1))) (zc w b C M0 r) = some (zc w b C M0 r, zcmp (M.2 45 (12 * f + t)) (M.2 45 (12 * f + (t + 1)))) := by
      unfold mJ13_compare_74951 mJ13_compare_74951_0 mJ13_compare_74951_21 zcmp
      by_cases c1 : 0 ≤ lg_cmp (M.2 45 (12 * f + t)) (M.2 45 (12 * f + (t + 1)))
      · rw [if_pos c1, if_pos c1]
        by_cases c2 : lg_cmp (M.2 45 (12 * f + t)) (M.2 45 (12 * f + (t + 1))) = 0
        · rw [if_pos c2, if_pos c2]
        · rw [if_neg c2, if_neg c2]
      · rw [if_neg c1, if_neg c1]
    simp (decide := true) only [mX4_step_107, mX4_step_249, mX4_step_0, mX4_step, mX4_convert_0, mX4_convert, e0, zqg_15_5 h2, zqkF h1, id, zqk_15, zqg_15_5 k1, g0, g1, e3, e4, e5, ec, Option.map_some, Int32.reduceLT, Int32.reduceLE, Int32.reduceAdd, Int32.reduceSub, Int32.reduceMul, Int32.reduceDiv, Int32.reduceMod, ↓reduceIte, Option.bind_some]
  · have f0 : mX9_step N (b + 75) (zc w b C0 M r0) = mX9_step_74 N (b + 75) (Int32.ofNat f) (Int32.ofNat m) (Int32.ofNat p) 148 1 0 0 (zc w b C0 M r0) := zn_step (N := N) (w := w) hc hop (n := 1) rfl rfl rfl C0 r0
    refine f0.trans ?_
    have f1 : mX9_popValue N (b + 75) (zc w b C0 M r0) = some (zc w b C0 (zMD M f (t + 1)) r0, M.2 45 (12 * f + (t + 1))) := by
      have := zn_pop (N := N) (w := w) (b := b) (M := M) (t := t + 1) h1 h3 a2 (by omega) C0 r0
      exact this
    have f2 : mX9_popValue N (b + 75) (zc w b C0 (zMD M f (t + 1)) r0) = some (zc w b C0 (zMD M f (t)) r0, M.2 45 (12 * f + (t))) := by
      have := zn_pop (N := N) (w := w) (b := b) (M := (zMD M f (t + 1))) (t := t) h1 h3 zmd42 (by omega) C0 r0
      rw [zMDD] at this; exact this
    have f8 : ∀ v, mX9_pushValue N (b + 75) 1 v (zc w b C0 (zMD M f (t)) r0) = some (zc w b C0 (zMP (zMD M f (t)) f t 1 v) r0) := fun v => zn_push (N := N) (w := w) (b := b) (M := (zMD M f (t))) (t := t) h1 h3 zmd42 (by omega) 1 v C0 r0
    have f9 : ∀ v, mX9_step_327 N (b + 75) (Int32.ofNat f) (Int32.ofNat p) 1 (zc w b C0 (zMP (zMD M f (t)) f t 1 v) r0) = some (zc w b C0 (zJ (zMP (zMD M f (t)) f t 1 v) 41 f (Int32.ofNat (p + 1))) r0) := fun v => zn_on (N := N) (w := w) (b := b) (M := zMP (zMD M f (t)) f t 1 v) (p := p) (n := 1) h1 (zmp100.trans (zmd100.trans h4)) (zmp100.trans (zmd100.trans h5)) C0 r0
    by_cases c1 : 0 ≤ lg_cmp (M.2 45 (12 * f + t)) (M.2 45 (12 * f + (t + 1)))
    · by_cases c2 : lg_cmp (M.2 45 (12 * f + t)) (M.2 45 (12 * f + (t + 1))) = 0
      · simp (decide := true) only [mX9_step_74, mX9_doReckoning_352, mX9_doReckoning_244, mX9_doReckoning_229, mX9_doReckoning_210, mX9_doReckoning_302, mX9_doReckoning_279, mX9_doReckoning_274, mX9_doReckoning_192, mX9_doReckoning_144, mX9_doReckoning_138, mX9_doReckoning_0, mX9_doReckoning, zqk_75, id, f1, f2, f8, f9, c1, c2, zcmp, Option.map_some, Int32.reduceLT, Int32.reduceLE, Int32.reduceAdd, Int32.reduceSub, Int32.reduceMul, Int32.reduceDiv, Int32.reduceMod, ↓reduceIte, Option.bind_some]
        rfl
      · simp (decide := true) only [mX9_step_74, mX9_doReckoning_352, mX9_doReckoning_244, mX9_doReckoning_229, mX9_doReckoning_210, mX9_doReckoning_302, mX9_doReckoning_279, mX9_doReckoning_274, mX9_doReckoning_192, mX9_doReckoning_144, mX9_doReckoning_138, mX9_doReckoning_0, mX9_doReckoning, zqk_75, id, f1, f2, f8, f9, c1, c2, zcmp, Option.map_some, Int32.reduceLT, Int32.reduceLE, Int32.reduceAdd, Int32.reduceSub, Int32.reduceMul, Int32.reduceDiv, Int32.reduceMod, ↓reduceIte, Option.bind_some]
        rfl
    · simp (decide := true) only [mX9_step_74, mX9_doReckoning_352, mX9_doReckoning_244, mX9_doReckoning_229, mX9_doReckoning_210, mX9_doReckoning_302, mX9_doReckoning_279, mX9_doReckoning_274, mX9_doReckoning_192, mX9_doReckoning_144, mX9_doReckoning_138, mX9_doReckoning_0, mX9_doReckoning, zqk_75, id, f1, f2, f8, f9, c1, zcmp, Option.map_some, Int32.reduceLT, Int32.reduceLE, Int32.reduceAdd, Int32.reduceSub, Int32.reduceMul, Int32.reduceDiv, Int32.reduceMod, ↓reduceIte, Option.bind_some]
      rfl

end ZQW
