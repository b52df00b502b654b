def zDok (D : Nat → Nat → Prop) : Prop := (∀ h t, D h t → 1 ≤ h ∧ h ≤ 200 ∧ t ≤ 200) ∧ (∀ h t t', D h t → D h t' → t = t') ∧ ∀ h h' t, D h t → D h' t → h = h'
theorem zl_inj {a b : Nat} (ha : a < 2 ^ 31) (hb : b < 2 ^ 31) (h : Int64.ofNat a = Int64.ofNat b) : a = b := by
  have e := congrArg Int64.toInt h
  rw [Int64.toInt_ofNat_of_lt (by omega), Int64.toInt_ofNat_of_lt (by omega)] at e
  omega
theorem zRf.z {D : Nat → Nat → Prop} (hD : zDok D) {re : Int32} {v : Int64} (h : zRf D re v) : re = 0 ↔ v = 0 := by
  rcases h with h | ⟨a, t, h, rfl, rfl⟩
  · exact ⟨fun _ => h.2, fun _ => h.1⟩
  · have g := hD.1 a t h
    refine ⟨fun e => ?_, fun e => ?_⟩
    · have := zi_inj (a := a) (b := 0) (by omega) (by decide) e
      omega
    · have := zl_inj (a := t + 1) (b := 0) (by omega) (by decide) e
      omega
theorem zRf.e {D : Nat → Nat → Prop} (hD : zDok D) {re re' : Int32} {v v' : Int64} (h : zRf D re v) (g : zRf D re' v') : re = re' ↔ v = v' := by
  rcases h with h | ⟨a, t, h, rfl, rfl⟩
  · rw [h.1, h.2]
    have := g.z hD
    exact ⟨fun e => (this.mp e.symm).symm, fun e => (this.mpr e.symm).symm⟩
  · rcases g with g | ⟨a', t', g, rfl, rfl⟩
    · rw [g.1, g.2]
      exact zRf.z hD (Or.inr ⟨a, t, h, rfl, rfl⟩)
    · have b1 := hD.1 a t h
      have b2 := hD.1 a' t' g
      refine ⟨fun e => ?_, fun e => ?_⟩
      · have := zi_inj (by omega) (by omega) e
        subst this
        rw [hD.2.1 a t t' h g]
      · have := zl_inj (by omega) (by omega) e
        have e2 : t = t' := by omega
        subst e2
        rw [hD.2.2 a a' t h g]

section ZQW
variable {N w b K f t p m : Nat} {D : Nat → Nat → Prop} {C : zC} {M : zM} {r : zv_X} {ra lt st : Nat → Nat} {μ : zMu}
theorem zf_goOnI {q : Nat} {z : Int} (hf : f < 16) (hF : C.2.2 15 5 = .ref (b + (3 * f + 27))) (hp : C.1 (f + 100) 4 = Int32.ofNat p) (hq : (p : Int) + z = (q : Int)) : zHC w b (mX4_goOn N (b + 15) (Int32.ofInt z)) C r (fun x => (x, 0)) (zI C (f + 100) 4 (Int32.ofNat q)) r := by
  intro M
  have e : Int32.ofNat p + Int32.ofInt z = Int32.ofNat q := by
    rw [← Int32.ofInt_eq_ofNat, ← Int32.ofInt_add, hq, Int32.ofInt_eq_ofNat]
  unfold mX4_goOn mX4_goOn_0
  rw [zqg_15_5 hF]
  simp (disch := omega) only [zqkF, zqgF_0, zqgF_1, zqgF_2, zqpF_2, zqgF_4, zqpF_4, zqpF_3, zqaF_1, zqsF_1, zqaF_2, zqsF_2, zqnF_2, Option.bind_some, hp, e]
theorem zn_to {M : zM} {q : Nat} (hm : m < 20) (hM : zMt M m μ) (hK : zMuOk K μ) (hl : p + 2 < uLen μ) (hq : zto p (uC μ (p + 1)) (uC μ (p + 2)) = (q : Int)) : zHM w b (mX9_to N (b + 75) (Int32.ofNat m) (Int32.ofNat p)) M (fun x => (x, Int32.ofNat q)) M := by
  intro C r
  have e1 := zn_code (N := N) (w := w) (b := b) hm hM hK.1 (show p + 1 < uLen μ by omega) C r
  have e2 := zn_code (N := N) (w := w) (b := b) hm hM hK.1 (show p + 2 < uLen μ by omega) C r
  have hb1 := hK.2.1 (p + 1) (by omega)
  unfold mX9_to mX9_to_0
  simp only [zqk_75, ↓reduceIte, show Int32.ofNat p + 1 = Int32.ofNat (p + 1) from zi_add p 1, show Int32.ofNat p + 2 = Int32.ofNat (p + 2) from zi_add p 2, e1, e2, Option.bind_some, qX9_signed, (zk_sg _ hb1).2, Option.map_some]
  unfold zto at hq
  have e : Int32.ofNat p + Int32.ofInt (zsg (uC μ (p + 1))) * 256 + Int32.ofNat (uC μ (p + 2)) = Int32.ofNat q := by
    rw [← Int32.ofInt_eq_ofNat, ← Int32.ofInt_eq_ofNat, ← Int32.ofInt_eq_ofNat, show (256 : Int32) = Int32.ofInt 256 from rfl, ← Int32.ofInt_mul, ← Int32.ofInt_add, ← Int32.ofInt_add, hq]
  rw [e]
theorem zIsame {C : zC} {o k : Nat} {v : Int32} (h : C.1 o k = v) : zI C o k v = C := Prod.ext (funext fun p => funext fun q => by
  show (if p = o ∧ q = k then v else C.1 p q) = C.1 p q
  by_cases e : p = o ∧ q = k
  · rw [if_pos e, e.1, e.2, h]
  · rw [if_neg e]) rfl
theorem zMt.md {M : zM} {m t : Nat} {μ : zMu} (h : zMt M m μ) : zMt (zMD M f t) m μ := by
  unfold zMD
  obtain ⟨b1, b2, b3, b4, b5, b6, b7, b8, b9⟩ := h
  refine ⟨?_, fun i hi => ?_, ?_, fun i hi => ?_, ?_, fun i hi => ?_, ?_, ?_, ?_⟩ <;> simp (disch := omega) only [zJ1, if_neg]
  · exact b1
  · exact b2 i hi
  · exact b3
  · exact b4 i hi
  · exact b5
  · exact b6 i hi
  · exact b7
  · exact b8
  · exact b9
theorem zo_153 (h : zCur b K D C M r ra f (t + 1) p m lt st μ) (hop : uC μ p = 153) (s0 : st (t) = 1) {q : Nat} (hq : zto p (uC μ (p + 1)) (uC μ (p + 2)) = (q : Int)) : zQ w b N D C M r ra f m t (if lg_cmp (M.2 45 (12 * f + t)) 0 = 0 then q else p + 3) lt st := by
  have hc := h
  obtain ⟨h1, h2, h3, h4, h5, hfr, h7, h8, h9, h10, h11, h12⟩ := h
  have hl : p + 3 ≤ uLen μ := by rw [hop] at h12; exact h12
  have hl2 := h10.1
  have hd := hfr.drop (t' := t) (by omega)
  obtain ⟨a1, a2, a3, a4, a5, a6, a7, a8, a9⟩ := hfr
  have u0 := (a9 (t) (by omega)).2.2.2
  rw [s0] at u0
  have n0 := u0.num (Or.inl rfl)
  have hp := hd.go (if lg_cmp (M.2 45 (12 * f + t)) 0 = 0 then q else p + 3)
  refine ⟨_, _, fun M0 => ?_, fun C0 r0 => ?_, hp, zTop.rf.i2.i2, zTopM.rf.d.go⟩
  · have e0 : mX1_opcode N (b + (3 * f + 27)) (zc w b C M0 r) = some (zc w b C M0 r, 153) := ze_step0 (N := N) (w := w) hc hop M0
    have g0 : mX1_number N (b + (3 * f + 27)) 0 (zc w b C M0 r) = some (zc w b C M0 r, M.2 45 (12 * f + (t))) := by
      have := zf_number (N := N) (w := w) (b := b) (r := r) (k := 0) h1 a1 a3 (by omega) M0
      rw [show 15 + (t + 1) - 0 = 16 + (t) by omega, n0.1] at this; exact this
    have e3 : mX1_drop N (b + (3 * f + 27)) 1 (zc w b C M0 r) = some (zc w b (zI C (f + 100) 2 (Int32.ofNat (16 + t))) M0 r) := zf_drop (N := N) (w := w) (b := b) (r := r) (t := t + 1) (k := 1) h1 a1 a3 (by omega) M0
    have k1 : (zI C (f + 100) 2 (Int32.ofNat (16 + t))).2.2 15 5 = .ref (b + (3 * f + 27)) := h2
    have ep : mX1_pair N (b + (3 * f + 27)) (zc w b (zI C (f + 100) 2 (Int32.ofNat (16 + t))) M0 r) = some (zc w b (zI C (f + 100) 2 (Int32.ofNat (16 + t))) M0 r, Int32.ofInt (zsg (uC μ (p + 1)) * 256 + uC μ (p + 2))) := ze_pair (N := N) (w := w) (b := b) (C := (zI C (f + 100) 2 (Int32.ofNat (16 + t)))) h1 h8 h10 a6 (zp4_I2.trans a4) (by omega) M0
    have ej : mX4_goOn N (b + 15) (Int32.ofInt (zsg (uC μ (p + 1)) * 256 + uC μ (p + 2))) (zc w b (zI C (f + 100) 2 (Int32.ofNat (16 + t))) M0 r) = some (zc w b (zI (zI C (f + 100) 2 (Int32.ofNat (16 + t))) (f + 100) 4 (Int32.ofNat q)) M0 r, 0) := zf_goOnI (C := (zI C (f + 100) 2 (Int32.ofNat (16 + t)))) (p := p) h1 h2 (zp4_I2.trans a4) (by unfold zto at hq; omega) M0
    have en : mX4_goOn N (b + 15) 3 (zc w b (zI C (f + 100) 2 (Int32.ofNat (16 + t))) M0 r) = some (zc w b (zI (zI C (f + 100) 2 (Int32.ofNat (16 + t))) (f + 100) 4 (Int32.ofNat (p + 3))) M0 r, 0) := zf_goOn (C := (zI C (f + 100) 2 (Int32.ofNat (16 + t)))) (n := 3) (p := p) h1 h2 (zp4_I2.trans a4) M0
    by_cases c : lg_cmp (M.2 45 (12 * f + t)) 0 = 0
    · rw [if_pos c]
      simp (decide := true) only [mX4_step_107, mX4_step_249, mX4_step_0, mX4_step, mX4_branch_201, mX4_branch_177, mX4_branch_174, mX4_branch_166, mX4_branch_154, mX4_branch_132, mX4_branch_124, mX4_branch_112, mX4_branch_0, mX4_branch, e0, zqg_15_5 h2, zqkF h1, id, zqk_15, zqg_15_5 k1, g0, e3, ep, ej, en, qX4_holds, pX4_holds, pX4_holds_47, pX4_holds_59, pX4_holds_71, pX4_holds_83, pX4_holds_95, pX4_holds_107, pX4_holds_0, c, Option.map_some, Int32.reduceLT, Int32.reduceLE, Int32.reduceAdd, Int32.reduceSub, Int32.reduceMul, Int32.reduceDiv, Int32.reduceMod, ↓reduceIte, Option.bind_some]
    · rw [if_neg c]
      simp (decide := true) only [mX4_step_107, mX4_step_249, mX4_step_0, mX4_step, mX4_branch_201, mX4_branch_177, mX4_branch_174, mX4_branch_166, mX4_branch_154, mX4_branch_132, mX4_branch_124, mX4_branch_112, mX4_branch_0, mX4_branch, e0, zqg_15_5 h2, zqkF h1, id, zqk_15, zqg_15_5 k1, g0, e3, ep, ej, en, qX4_holds, pX4_holds, pX4_holds_47, pX4_holds_59, pX4_holds_71, pX4_holds_83, pX4_holds_95, pX4_holds_107, pX4_holds_0, c, Option.map_some, Int32.reduceLT, Int32.reduceLE, Int32.reduceAdd, Int32.reduceSub, Int32.reduceMul, Int32.reduceDiv, Int32.reduceMod, ↓reduceIte, Option.bind_some]
  · have f0 : mX9_step N (b + 75) (zc w b C0 M r0) = mX9_step_74 N (b + 75) (Int32.ofNat f) (Int32.ofNat m) (Int32.ofNat p) 153 3 (Int32.ofNat (uC μ (p + 1))) (Int32.ofNat (uC μ (p + 2))) (zc w b C0 M r0) := zn_step (N := N) (w := w) hc hop (n := 3) rfl rfl rfl C0 r0
    refine f0.trans ?_
    have f1 : mX9_popValue N (b + 75) (zc w b C0 M r0) = some (zc w b C0 (zMD M f (t)) r0, M.2 45 (12 * f + (t))) := by
      have := zn_pop (N := N) (w := w) (b := b) (M := M) (t := t) h1 h3 a2 (by omega) C0 r0
      exact this
    have ft : mX9_to N (b + 75) (Int32.ofNat m) (Int32.ofNat p) (zc w b C0 (zMD M f (t)) r0) = some (zc w b C0 (zMD M f (t)) r0, Int32.ofNat q) := zn_to (M := (zMD M f (t))) h7 (show zMt (zMD M f (t)) m μ from zMt.md h9) h10 (by omega) hq C0 r0
    have fs : ∀ v, zm_sI (zc w b C0 (zMD M f (t)) r0) (b + 106) (Int32.ofNat f) v = some (zc w b C0 (zJ (zMD M f (t)) 41 f v) r0) := fun v => zqs_106 h1
    have fn : Int32.ofNat p + 3 = Int32.ofNat (p + 3) := zi_add p 3
    by_cases c : lg_cmp (M.2 45 (12 * f + t)) 0 = 0
    · rw [if_pos c]
      simp (decide := true) only [mX9_step_74, mX9_goes_130, mX9_goes_108, mX9_goes_96, mX9_goes_70, mX9_goes_62, mX9_goes_50, mX9_goes_0, mX9_goes, mX9_step_245, mX9_step_272, zqk_75, zqg_75_41, id, f1, ft, fs, fn, qX9_holds, pX9_holds, pX9_holds_105, pX9_holds_0, c, Option.map_some, Int32.reduceLT, Int32.reduceLE, Int32.reduceAdd, Int32.reduceSub, Int32.reduceMul, Int32.reduceDiv, Int32.reduceMod, ↓reduceIte, Option.bind_some]
    · rw [if_neg c]
      simp (decide := true) only [mX9_step_74, mX9_goes_130, mX9_goes_108, mX9_goes_96, mX9_goes_70, mX9_goes_62, mX9_goes_50, mX9_goes_0, mX9_goes, mX9_step_245, mX9_step_272, zqk_75, zqg_75_41, id, f1, ft, fs, fn, qX9_holds, pX9_holds, pX9_holds_105, pX9_holds_0, c, Option.map_some, Int32.reduceLT, Int32.reduceLE, Int32.reduceAdd, Int32.reduceSub, Int32.reduceMul, Int32.reduceDiv, Int32.reduceMod, ↓reduceIte, Option.bind_some]

theorem zo_154 (h : zCur b K D C M r ra f (t + 1) p m lt st μ) (hop : uC μ p = 154) (s0 : st (t) = 1) {q : Nat} (hq : zto p (uC μ (p + 1)) (uC μ (p + 2)) = (q : Int)) : zQ w b N D C M r ra f m t (if ¬ lg_cmp (M.2 45 (12 * f + t)) 0 = 0 then q else p + 3) lt st := by
  have hc := h
  obtain ⟨h1, h2, h3, h4, h5, hfr, h7, h8, h9, h10, h11, h12⟩ := h
  have hl : p + 3 ≤ uLen μ := by rw [hop] at h12; exact h12
  have hl2 := h10.1
  have hd := hfr.drop (t' := t) (by omega)
  obtain ⟨a1, a2, a3, a4, a5, a6, a7, a8, a9⟩ := hfr
  have u0 := (a9 (t) (by omega)).2.2.2
  rw [s0] at u0
  have n0 := u0.num (Or.inl rfl)
  have hp := hd.go (if ¬ lg_cmp (M.2 45 (12 * f + t)) 0 = 0 then q else p + 3)
  refine ⟨_, _, fun M0 => ?_, fun C0 r0 => ?_, hp, zTop.rf.i2.i2, zTopM.rf.d.go⟩
  · have e0 : mX1_opcode N (b + (3 * f + 27)) (zc w b C M0 r) = some (zc w b C M0 r, 154) := ze_step0 (N := N) (w := w) hc hop M0
    have g0 : mX1_number N (b + (3 * f + 27)) 0 (zc w b C M0 r) = some (zc w b C M0 r, M.2 45 (12 * f + (t))) := by
      have := zf_number (N := N) (w := w) (b := b) (r := r) (k := 0) h1 a1 a3 (by omega) M0
      rw [show 15 + (t + 1) - 0 = 16 + (t) by omega, n0.1] at this; exact this
    have e3 : mX1_drop N (b + (3 * f + 27)) 1 (zc w b C M0 r) = some (zc w b (zI C (f + 100) 2 (Int32.ofNat (16 + t))) M0 r) := zf_drop (N := N) (w := w) (b := b) (r := r) (t := t + 1) (k := 1) h1 a1 a3 (by omega) M0
    have k1 : (zI C (f + 100) 2 (Int32.ofNat (16 + t))).2.2 15 5 = .ref (b + (3 * f + 27)) := h2
    have ep : mX1_pair N (b + (3 * f + 27)) (zc w b (zI C (f + 100) 2 (Int32.ofNat (16 + t))) M0 r) = some (zc w b (zI C (f + 100) 2 (Int32.ofNat (16 + t))) M0 r, Int32.ofInt (zsg (uC μ (p + 1)) * 256 + uC μ (p + 2))) := ze_pair (N := N) (w := w) (b := b) (C := (zI C (f + 100) 2 (Int32.ofNat (16 + t)))) h1 h8 h10 a6 (zp4_I2.trans a4) (by omega) M0
    have ej : mX4_goOn N (b + 15) (Int32.ofInt (zsg (uC μ (p + 1)) * 256 + uC μ (p + 2))) (zc w b (zI C (f + 100) 2 (Int32.ofNat (16 + t))) M0 r) = some (zc w b (zI (zI C (f + 100) 2 (Int32.ofNat (16 + t))) (f + 100) 4 (Int32.ofNat q)) M0 r, 0) := zf_goOnI (C := (zI C (f + 100) 2 (Int32.ofNat (16 + t)))) (p := p) h1 h2 (zp4_I2.trans a4) (by unfold zto at hq; omega) M0
    have en : mX4_goOn N (b + 15) 3 (zc w b (zI C (f + 100) 2 (Int32.ofNat (16 + t))) M0 r) = some (zc w b (zI (zI C (f + 100) 2 (Int32.ofNat (16 + t))) (f + 100) 4 (Int32.ofNat (p + 3))) M0 r, 0) := zf_goOn (C := (zI C (f + 100) 2 (Int32.ofNat (16 + t)))) (n := 3) (p := p) h1 h2 (zp4_I2.trans a4) M0
    by_cases c : ¬ lg_cmp (M.2 45 (12 * f + t)) 0 = 0
    · rw [if_pos c]
      simp (decide := true) only [mX4_step_107, mX4_step_249, mX4_step_0, mX4_step, mX4_branch_201, mX4_branch_177, mX4_branch_174, mX4_branch_166, mX4_branch_154, mX4_branch_132, mX4_branch_124, mX4_branch_112, mX4_branch_0, mX4_branch, e0, zqg_15_5 h2, zqkF h1, id, zqk_15, zqg_15_5 k1, g0, e3, ep, ej, en, qX4_holds, pX4_holds, pX4_holds_47, pX4_holds_59, pX4_holds_71, pX4_holds_83, pX4_holds_95, pX4_holds_107, pX4_holds_0, c, Option.map_some, Int32.reduceLT, Int32.reduceLE, Int32.reduceAdd, Int32.reduceSub, Int32.reduceMul, Int32.reduceDiv, Int32.reduceMod, ↓reduceIte, Option.bind_some]
    · rw [if_neg c]
      have c := Decidable.not_not.mp c
      simp (decide := true) only [mX4_step_107, mX4_step_249, mX4_step_0, mX4_step, mX4_branch_201, mX4_branch_177, mX4_branch_174, mX4_branch_166, mX4_branch_154, mX4_branch_132, mX4_branch_124, mX4_branch_112, mX4_branch_0, mX4_branch, e0, zqg_15_5 h2, zqkF h1, id, zqk_15, zqg_15_5 k1, g0, e3, ep, ej, en, qX4_holds, pX4_holds, pX4_holds_47, pX4_holds_59, pX4_holds_71, pX4_holds_83, pX4_holds_95, pX4_holds_107, pX4_holds_0, c, Option.map_some, Int32.reduceLT, Int32.reduceLE, Int32.reduceAdd, Int32.reduceSub, Int32.reduceMul, Int32.reduceDiv, Int32.reduceMod, ↓reduceIte, Option.bind_some]
  · have f0 : mX9_step N (b + 75) (zc w b C0 M r0) = mX9_step_74 N (b + 75) (Int32.ofNat f) (Int32.ofNat m) (Int32.ofNat p) 154 3 (Int32.ofNat (uC μ (p + 1))) (Int32.ofNat (uC μ (p + 2))) (zc w b C0 M r0) := zn_step (N := N) (w := w) hc hop (n := 3) rfl rfl rfl C0 r0
    refine f0.trans ?_
    have f1 : mX9_popValue N (b + 75) (zc w b C0 M r0) = some (zc w b C0 (zMD M f (t)) r0, M.2 45 (12 * f + (t))) := by
      have := zn_pop (N := N) (w := w) (b := b) (M := M) (t := t) h1 h3 a2 (by omega) C0 r0
      exact this
    have ft : mX9_to N (b + 75) (Int32.ofNat m) (Int32.ofNat p) (zc w b C0 (zMD M f (t)) r0) = some (zc w b C0 (zMD M f (t)) r0, Int32.ofNat q) := zn_to (M := (zMD M f (t))) h7 (show zMt (zMD M f (t)) m μ from zMt.md h9) h10 (by omega) hq C0 r0
    have fs : ∀ v, zm_sI (zc w b C0 (zMD M f (t)) r0) (b + 106) (Int32.ofNat f) v = some (zc w b C0 (zJ (zMD M f (t)) 41 f v) r0) := fun v => zqs_106 h1
    have fn : Int32.ofNat p + 3 = Int32.ofNat (p + 3) := zi_add p 3
    by_cases c : ¬ lg_cmp (M.2 45 (12 * f + t)) 0 = 0
    · rw [if_pos c]
      simp (decide := true) only [mX9_step_74, mX9_goes_130, mX9_goes_108, mX9_goes_96, mX9_goes_70, mX9_goes_62, mX9_goes_50, mX9_goes_0, mX9_goes, mX9_step_245, mX9_step_272, zqk_75, zqg_75_41, id, f1, ft, fs, fn, qX9_holds, pX9_holds, pX9_holds_105, pX9_holds_0, c, Option.map_some, Int32.reduceLT, Int32.reduceLE, Int32.reduceAdd, Int32.reduceSub, Int32.reduceMul, Int32.reduceDiv, Int32.reduceMod, ↓reduceIte, Option.bind_some]
    · rw [if_neg c]
      have c := Decidable.not_not.mp c
      simp (decide := true) only [mX9_step_74, mX9_goes_130, mX9_goes_108, mX9_goes_96, mX9_goes_70, mX9_goes_62, mX9_goes_50, mX9_goes_0, mX9_goes, mX9_step_245, mX9_step_272, zqk_75, zqg_75_41, id, f1, ft, fs, fn, qX9_holds, pX9_holds, pX9_holds_105, pX9_holds_0, c, Option.map_some, Int32.reduceLT, Int32.reduceLE, Int32.reduceAdd, Int32.reduceSub, Int32.reduceMul, Int32.reduceDiv, Int32.reduceMod, ↓reduceIte, Option.bind_some]

theorem zo_155 (h : zCur b K D C M r ra f (t + 1) p m lt st μ) (hop : uC μ p = 155) (s0 : st (t) = 1) {q : Nat} (hq : zto p (uC μ (p + 1)) (uC μ (p + 2)) = (q : Int)) : zQ w b N D C M r ra f m t (if ¬ 0 ≤ lg_cmp (M.2 45 (12 * f + t)) 0 then q else p + 3) lt st := by
  have hc := h
  obtain ⟨h1, h2, h3, h4, h5, hfr, h7, h8, h9, h10, h11, h12⟩ := h
  have hl : p + 3 ≤ uLen μ := by rw [hop] at h12; exact h12
  have hl2 := h10.1
  have hd := hfr.drop (t' := t) (by omega)
  obtain ⟨a1, a2, a3, a4, a5, a6, a7, a8, a9⟩ := hfr
  have u0 := (a9 (t) (by omega)).2.2.2
  rw [s0] at u0
  have n0 := u0.num (Or.inl rfl)
  have hp := hd.go (if ¬ 0 ≤ lg_cmp (M.2 45 (12 * f + t)) 0 then q else p + 3)
  refine ⟨_, _, fun M0 => ?_, fun C0 r0 => ?_, hp, zTop.rf.i2.i2, zTopM.rf.d.go⟩
  · have e0 : mX1_opcode N (b + (3 * f + 27)) (zc w b C M0 r) = some (zc w b C M0 r, 155) := ze_step0 (N := N) (w := w) hc hop M0
    have g0 : mX1_number N (b + (3 * f + 27)) 0 (zc w b C M0 r) = some (zc w b C M0 r, M.2 45 (12 * f + (t))) := by
      have := zf_number (N := N) (w := w) (b := b) (r := r) (k := 0) h1 a1 a3 (by omega) M0
      rw [show 15 + (t + 1) - 0 = 16 + (t) by omega, n0.1] at this; exact this
    have e3 : mX1_drop N (b + (3 * f + 27)) 1 (zc w b C M0 r) = some (zc w b (zI C (f + 100) 2 (Int32.ofNat (16 + t))) M0 r) := zf_drop (N := N) (w := w) (b := b) (r := r) (t := t + 1) (k := 1) h1 a1 a3 (by omega) M0
    have k1 : (zI C (f + 100) 2 (Int32.ofNat (16 + t))).2.2 15 5 = .ref (b + (3 * f + 27)) := h2
    have ep : mX1_pair N (b + (3 * f + 27)) (zc w b (zI C (f + 100) 2 (Int32.ofNat (16 + t))) M0 r) = some (zc w b (zI C (f + 100) 2 (Int32.ofNat (16 + t))) M0 r, Int32.ofInt (zsg (uC μ (p + 1)) * 256 + uC μ (p + 2))) := ze_pair (N := N) (w := w) (b := b) (C := (zI C (f + 100) 2 (Int32.ofNat (16 + t)))) h1 h8 h10 a6 (zp4_I2.trans a4) (by omega) M0
    have ej : mX4_goOn N (b + 15) (Int32.ofInt (zsg (uC μ (p + 1)) * 256 + uC μ (p + 2))) (zc w b (zI C (f + 100) 2 (Int32.ofNat (16 + t))) M0 r) = some (zc w b (zI (zI C (f + 100) 2 (Int32.ofNat (16 + t))) (f + 100) 4 (Int32.ofNat q)) M0 r, 0) := zf_goOnI (C := (zI C (f + 100) 2 (Int32.ofNat (16 + t)))) (p := p) h1 h2 (zp4_I2.trans a4) (by unfold zto at hq; omega) M0
    have en : mX4_goOn N (b + 15) 3 (zc w b (zI C (f + 100) 2 (Int32.ofNat (16 + t))) M0 r) = some (zc w b (zI (zI C (f + 100) 2 (Int32.ofNat (16 + t))) (f + 100) 4 (Int32.ofNat (p + 3))) M0 r, 0) := zf_goOn (C := (zI C (f + 100) 2 (Int32.ofNat (16 + t)))) (n := 3) (p := p) h1 h2 (zp4_I2.trans a4) M0
    by_cases c : ¬ 0 ≤ lg_cmp (M.2 45 (12 * f + t)) 0
    · rw [if_pos c]
      simp (decide := true) only [mX4_step_107, mX4_step_249, mX4_step_0, mX4_step, mX4_branch_201, mX4_branch_177, mX4_branch_174, mX4_branch_166, mX4_branch_154, mX4_branch_132, mX4_branch_124, mX4_branch_112, mX4_branch_0, mX4_branch, e0, zqg_15_5 h2, zqkF h1, id, zqk_15, zqg_15_5 k1, g0, e3, ep, ej, en, qX4_holds, pX4_holds, pX4_holds_47, pX4_holds_59, pX4_holds_71, pX4_holds_83, pX4_holds_95, pX4_holds_107, pX4_holds_0, c, Option.map_some, Int32.reduceLT, Int32.reduceLE, Int32.reduceAdd, Int32.reduceSub, Int32.reduceMul, Int32.reduceDiv, Int32.reduceMod, ↓reduceIte, Option.bind_some]
    · rw [if_neg c]
      have c := Decidable.not_not.mp c
      simp (decide := true) only [mX4_step_107, mX4_step_249, mX4_step_0, mX4_step, mX4_branch_201, mX4_branch_177, mX4_branch_174, mX4_branch_166, mX4_branch_154, mX4_branch_132, mX4_branch_124, mX4_branch_112, mX4_branch_0, mX4_branch, e0, zqg_15_5 h2, zqkF h1, id, zqk_15, zqg_15_5 k1, g0, e3, ep, ej, en, qX4_holds, pX4_holds, pX4_holds_47, pX4_holds_59, pX4_holds_71, pX4_holds_83, pX4_holds_95, pX4_holds_107, pX4_holds_0, c, Option.map_some, Int32.reduceLT, Int32.reduceLE, Int32.reduceAdd, Int32.reduceSub, Int32.reduceMul, Int32.reduceDiv, Int32.reduceMod, ↓reduceIte, Option.bind_some]
  · have f0 : mX9_step N (b + 75) (zc w b C0 M r0) = mX9_step_74 N (b + 75) (Int32.ofNat f) (Int32.ofNat m) (Int32.ofNat p) 155 3 (Int32.ofNat (uC μ (p + 1))) (Int32.ofNat (uC μ (p + 2))) (zc w b C0 M r0) := zn_step (N := N) (w := w) hc hop (n := 3) rfl rfl rfl C0 r0
    refine f0.trans ?_
    have f1 : mX9_popValue N (b + 75) (zc w b C0 M r0) = some (zc w b C0 (zMD M f (t)) r0, M.2 45 (12 * f + (t))) := by
      have := zn_pop (N := N) (w := w) (b := b) (M := M) (t := t) h1 h3 a2 (by omega) C0 r0
      exact this
    have ft : mX9_to N (b + 75) (Int32.ofNat m) (Int32.ofNat p) (zc w b C0 (zMD M f (t)) r0) = some (zc w b C0 (zMD M f (t)) r0, Int32.ofNat q) := zn_to (M := (zMD M f (t))) h7 (show zMt (zMD M f (t)) m μ from zMt.md h9) h10 (by omega) hq C0 r0
    have fs : ∀ v, zm_sI (zc w b C0 (zMD M f (t)) r0) (b + 106) (Int32.ofNat f) v = some (zc w b C0 (zJ (zMD M f (t)) 41 f v) r0) := fun v => zqs_106 h1
    have fn : Int32.ofNat p + 3 = Int32.ofNat (p + 3) := zi_add p 3
    by_cases c : ¬ 0 ≤ lg_cmp (M.2 45 (12 * f + t)) 0
    · rw [if_pos c]
      simp (decide := true) only [mX9_step_74, mX9_goes_130, mX9_goes_108, mX9_goes_96, mX9_goes_70, mX9_goes_62, mX9_goes_50, mX9_goes_0, mX9_goes, mX9_step_245, mX9_step_272, zqk_75, zqg_75_41, id, f1, ft, fs, fn, qX9_holds, pX9_holds, pX9_holds_105, pX9_holds_0, c, Option.map_some, Int32.reduceLT, Int32.reduceLE, Int32.reduceAdd, Int32.reduceSub, Int32.reduceMul, Int32.reduceDiv, Int32.reduceMod, ↓reduceIte, Option.bind_some]
    · rw [if_neg c]
      have c := Decidable.not_not.mp c
      simp (decide := true) only [mX9_step_74, mX9_goes_130, mX9_goes_108, mX9_goes_96, mX9_goes_70, mX9_goes_62, mX9_goes_50, mX9_goes_0, mX9_goes, mX9_step_245, mX9_step_272, zqk_75, zqg_75_41, id, f1, ft, fs, fn, qX9_holds, pX9_holds, pX9_holds_105, pX9_holds_0, c, Option.map_some, Int32.reduceLT, Int32.reduceLE, Int32.reduceAdd, Int32.reduceSub, Int32.reduceMul, Int32.reduceDiv, Int32.reduceMod, ↓reduceIte, Option.bind_some]

theorem zo_156 (h : zCur b K D C M r ra f (t + 1) p m lt st μ) (hop : uC μ p = 156) (s0 : st (t) = 1) {q : Nat} (hq : zto p (uC μ (p + 1)) (uC μ (p + 2)) = (q : Int)) : zQ w b N D C M r ra f m t (if ¬ lg_cmp (M.2 45 (12 * f + t)) 0 < 0 then q else p + 3) lt st := by
  have hc := h
  obtain ⟨h1, h2, h3, h4, h5, hfr, h7, h8, h9, h10, h11, h12⟩ := h
  have hl : p + 3 ≤ uLen μ := by rw [hop] at h12; exact h12
  have hl2 := h10.1
  have hd := hfr.drop (t' := t) (by omega)
  obtain ⟨a1, a2, a3, a4, a5, a6, a7, a8, a9⟩ := hfr
  have u0 := (a9 (t) (by omega)).2.2.2
  rw [s0] at u0
  have n0 := u0.num (Or.inl rfl)
  have hp := hd.go (if ¬ lg_cmp (M.2 45 (12 * f + t)) 0 < 0 then q else p + 3)
  refine ⟨_, _, fun M0 => ?_, fun C0 r0 => ?_, hp, zTop.rf.i2.i2, zTopM.rf.d.go⟩
  · have e0 : mX1_opcode N (b + (3 * f + 27)) (zc w b C M0 r) = some (zc w b C M0 r, 156) := ze_step0 (N := N) (w := w) hc hop M0
    have g0 : mX1_number N (b + (3 * f + 27)) 0 (zc w b C M0 r) = some (zc w b C M0 r, M.2 45 (12 * f + (t))) := by
      have := zf_number (N := N) (w := w) (b := b) (r := r) (k := 0) h1 a1 a3 (by omega) M0
      rw [show 15 + (t + 1) - 0 = 16 + (t) by omega, n0.1] at this; exact this
    have e3 : mX1_drop N (b + (3 * f + 27)) 1 (zc w b C M0 r) = some (zc w b (zI C (f + 100) 2 (Int32.ofNat (16 + t))) M0 r) := zf_drop (N := N) (w := w) (b := b) (r := r) (t := t + 1) (k := 1) h1 a1 a3 (by omega) M0
    have k1 : (zI C (f + 100) 2 (Int32.ofNat (16 + t))).2.2 15 5 = .ref (b + (3 * f + 27)) := h2
    have ep : mX1_pair N (b + (3 * f + 27)) (zc w b (zI C (f + 100) 2 (Int32.ofNat (16 + t))) M0 r) = some (zc w b (zI C (f + 100) 2 (Int32.ofNat (16 + t))) M0 r, Int32.ofInt (zsg (uC μ (p + 1)) * 256 + uC μ (p + 2))) := ze_pair (N := N) (w := w) (b := b) (C := (zI C (f + 100) 2 (Int32.ofNat (16 + t)))) h1 h8 h10 a6 (zp4_I2.trans a4) (by omega) M0
    have ej : mX4_goOn N (b + 15) (Int32.ofInt (zsg (uC μ (p + 1)) * 256 + uC μ (p + 2))) (zc w b (zI C (f + 100) 2 (Int32.ofNat (16 + t))) M0 r) = some (zc w b (zI (zI C (f + 100) 2 (Int32.ofNat (16 + t))) (f + 100) 4 (Int32.ofNat q)) M0 r, 0) := zf_goOnI (C := (zI C (f + 100) 2 (Int32.ofNat (16 + t)))) (p := p) h1 h2 (zp4_I2.trans a4) (by unfold zto at hq; omega) M0
    have en : mX4_goOn N (b + 15) 3 (zc w b (zI C (f + 100) 2 (Int32.ofNat (16 + t))) M0 r) = some (zc w b (zI (zI C (f + 100) 2 (Int32.ofNat (16 + t))) (f + 100) 4 (Int32.ofNat (p + 3))) M0 r, 0) := zf_goOn (C := (zI C (f + 100) 2 (Int32.ofNat (16 + t)))) (n := 3) (p := p) h1 h2 (zp4_I2.trans a4) M0
    by_cases c : ¬ lg_cmp (M.2 45 (12 * f + t)) 0 < 0
    · rw [if_pos c]
      simp (decide := true) only [mX4_step_107, mX4_step_249, mX4_step_0, mX4_step, mX4_branch_201, mX4_branch_177, mX4_branch_174, mX4_branch_166, mX4_branch_154, mX4_branch_132, mX4_branch_124, mX4_branch_112, mX4_branch_0, mX4_branch, e0, zqg_15_5 h2, zqkF h1, id, zqk_15, zqg_15_5 k1, g0, e3, ep, ej, en, qX4_holds, pX4_holds, pX4_holds_47, pX4_holds_59, pX4_holds_71, pX4_holds_83, pX4_holds_95, pX4_holds_107, pX4_holds_0, c, Option.map_some, Int32.reduceLT, Int32.reduceLE, Int32.reduceAdd, Int32.reduceSub, Int32.reduceMul, Int32.reduceDiv, Int32.reduceMod, ↓reduceIte, Option.bind_some]
    · rw [if_neg c]
      have c := Decidable.not_not.mp c
      simp (decide := true) only [mX4_step_107, mX4_step_249, mX4_step_0, mX4_step, mX4_branch_201, mX4_branch_177, mX4_branch_174, mX4_branch_166, mX4_branch_154, mX4_branch_132, mX4_branch_124, mX4_branch_112, mX4_branch_0, mX4_branch, e0, zqg_15_5 h2, zqkF h1, id, zqk_15, zqg_15_5 k1, g0, e3, ep, ej, en, qX4_holds, pX4_holds, pX4_holds_47, pX4_holds_59, pX4_holds_71, pX4_holds_83, pX4_holds_95, pX4_holds_107, pX4_holds_0, c, Option.map_some, Int32.reduceLT, Int32.reduceLE, Int32.reduceAdd, Int32.reduceSub, Int32.reduceMul, Int32.reduceDiv, Int32.reduceMod, ↓reduceIte, Option.bind_some]
  · have f0 : mX9_step N (b + 75) (zc w b C0 M r0) = mX9_step_74 N (b + 75) (Int32.ofNat f) (Int32.ofNat m) (Int32.ofNat p) 156 3 (Int32.ofNat (uC μ (p + 1))) (Int32.ofNat (uC μ (p + 2))) (zc w b C0 M r0) := zn_step (N := N) (w := w) hc hop (n := 3) rfl rfl rfl C0 r0
    refine f0.trans ?_
    have f1 : mX9_popValue N (b + 75) (zc w b C0 M r0) = some (zc w b C0 (zMD M f (t)) r0, M.2 45 (12 * f + (t))) := by
      have := zn_pop (N := N) (w := w) (b := b) (M := M) (t := t) h1 h3 a2 (by omega) C0 r0
      exact this
    have ft : mX9_to N (b + 75) (Int32.ofNat m) (Int32.ofNat p) (zc w b C0 (zMD M f (t)) r0) = some (zc w b C0 (zMD M f (t)) r0, Int32.ofNat q) := zn_to (M := (zMD M f (t))) h7 (show zMt (zMD M f (t)) m μ from zMt.md h9) h10 (by omega) hq C0 r0
    have fs : ∀ v, zm_sI (zc w b C0 (zMD M f (t)) r0) (b + 106) (Int32.ofNat f) v = some (zc w b C0 (zJ (zMD M f (t)) 41 f v) r0) := fun v => zqs_106 h1
    have fn : Int32.ofNat p + 3 = Int32.ofNat (p + 3) := zi_add p 3
    by_cases c : ¬ lg_cmp (M.2 45 (12 * f + t)) 0 < 0
    · rw [if_pos c]
      simp (decide := true) only [mX9_step_74, mX9_goes_130, mX9_goes_108, mX9_goes_96, mX9_goes_70, mX9_goes_62, mX9_goes_50, mX9_goes_0, mX9_goes, mX9_step_245, mX9_step_272, zqk_75, zqg_75_41, id, f1, ft, fs, fn, qX9_holds, pX9_holds, pX9_holds_105, pX9_holds_0, c, Option.map_some, Int32.reduceLT, Int32.reduceLE, Int32.reduceAdd, Int32.reduceSub, Int32.reduceMul, Int32.reduceDiv, Int32.reduceMod, ↓reduceIte, Option.bind_some]
    · rw [if_neg c]
      have c := Decidable.not_not.mp c
      simp (decide := true) only [mX9_step_74, mX9_goes_130, mX9_goes_108, mX9_goes_96, mX9_goes_70, mX9_goes_62, mX9_goes_50, mX9_goes_0, mX9_goes, mX9_step_245, mX9_step_272, zqk_75, zqg_75_41, id, f1, ft, fs, fn, qX9_holds, pX9_holds, pX9_holds_105, pX9_holds_0, c, Option.map_some, Int32.reduceLT, Int32.reduceLE, Int32.reduceAdd, Int32.reduceSub, Int32.reduceMul, Int32.reduceDiv, Int32.reduceMod, ↓reduceIte, Option.bind_some]

theorem zo_157 (h : zCur b K D C M r ra f (t + 1) p m lt st μ) (hop : uC μ p = 157) (s0 : st (t) = 1) {q : Nat} (hq : zto p (uC μ (p + 1)) (uC μ (p + 2)) = (q : Int)) : zQ w b N D C M r ra f m t (if ¬ lg_cmp (M.2 45 (12 * f + t)) 0 ≤ 0 then q else p + 3) lt st := by
  have hc := h
  obtain ⟨h1, h2, h3, h4, h5, hfr, h7, h8, h9, h10, h11, h12⟩ := h
  have hl : p + 3 ≤ uLen μ := by rw [hop] at h12; exact h12
  have hl2 := h10.1
  have hd := hfr.drop (t' := t) (by omega)
  obtain ⟨a1, a2, a3, a4, a5, a6, a7, a8, a9⟩ := hfr
  have u0 := (a9 (t) (by omega)).2.2.2
  rw [s0] at u0
  have n0 := u0.num (Or.inl rfl)
  have hp := hd.go (if ¬ lg_cmp (M.2 45 (12 * f + t)) 0 ≤ 0 then q else p + 3)
  refine ⟨_, _, fun M0 => ?_, fun C0 r0 => ?_, hp, zTop.rf.i2.i2, zTopM.rf.d.go⟩
  · have e0 : mX1_opcode N (b + (3 * f + 27)) (zc w b C M0 r) = some (zc w b C M0 r, 157) := ze_step0 (N := N) (w := w) hc hop M0
    have g0 : mX1_number N (b + (3 * f + 27)) 0 (zc w b C M0 r) = some (zc w b C M0 r, M.2 45 (12 * f + (t))) := by
      have := zf_number (N := N) (w := w) (b := b) (r := r) (k := 0) h1 a1 a3 (by omega) M0
      rw [show 15 + (t + 1) - 0 = 16 + (t) by omega, n0.1] at this; exact this
    have e3 : mX1_drop N (b + (3 * f + 27)) 1 (zc w b C M0 r) = some (zc w b (zI C (f + 100) 2 (Int32.ofNat (16 + t))) M0 r) := zf_drop (N := N) (w := w) (b := b) (r := r) (t := t + 1) (k := 1) h1 a1 a3 (by omega) M0
    have k1 : (zI C (f + 100) 2 (Int32.ofNat (16 + t))).2.2 15 5 = .ref (b + (3 * f + 27)) := h2
    have ep : mX1_pair N (b + (3 * f + 27)) (zc w b (zI C (f + 100) 2 (Int32.ofNat (16 + t))) M0 r) = some (zc w b (zI C (f + 100) 2 (Int32.ofNat (16 + t))) M0 r, Int32.ofInt (zsg (uC μ (p + 1)) * 256 + uC μ (p + 2))) := ze_pair (N := N) (w := w) (b := b) (C := (zI C (f + 100) 2 (Int32.ofNat (16 + t)))) h1 h8 h10 a6 (zp4_I2.trans a4) (by omega) M0
    have ej : mX4_goOn N (b + 15) (Int32.ofInt (zsg (uC μ (p + 1)) * 256 + uC μ (p + 2))) (zc w b (zI C (f + 100) 2 (Int32.ofNat (16 + t))) M0 r) = some (zc w b (zI (zI C (f + 100) 2 (Int32.ofNat (16 + t))) (f + 100) 4 (Int32.ofNat q)) M0 r, 0) := zf_goOnI (C := (zI C (f + 100) 2 (Int32.ofNat (16 + t)))) (p := p) h1 h2 (zp4_I2.trans a4) (by unfold zto at hq; omega) M0
    have en : mX4_goOn N (b + 15) 3 (zc w b (zI C (f + 100) 2 (Int32.ofNat (16 + t))) M0 r) = some (zc w b (zI (zI C (f + 100) 2 (Int32.ofNat (16 + t))) (f + 100) 4 (Int32.ofNat (p + 3))) M0 r, 0) := zf_goOn (C := (zI C (f + 100) 2 (Int32.ofNat (16 + t)))) (n := 3) (p := p) h1 h2 (zp4_I2.trans a4) M0
    by_cases c : ¬ lg_cmp (M.2 45 (12 * f + t)) 0 ≤ 0
    · rw [if_pos c]
      simp (decide := true) only [mX4_step_107, mX4_step_249, mX4_step_0, mX4_step, mX4_branch_201, mX4_branch_177, mX4_branch_174, mX4_branch_166, mX4_branch_154, mX4_branch_132, mX4_branch_124, mX4_branch_112, mX4_branch_0, mX4_branch, e0, zqg_15_5 h2, zqkF h1, id, zqk_15, zqg_15_5 k1, g0, e3, ep, ej, en, qX4_holds, pX4_holds, pX4_holds_47, pX4_holds_59, pX4_holds_71, pX4_holds_83, pX4_holds_95, pX4_holds_107, pX4_holds_0, c, Option.map_some, Int32.reduceLT, Int32.reduceLE, Int32.reduceAdd, Int32.reduceSub, Int32.reduceMul, Int32.reduceDiv, Int32.reduceMod, ↓reduceIte, Option.bind_some]
    · rw [if_neg c]
      have c := Decidable.not_not.mp c
      simp (decide := true) only [mX4_step_107, mX4_step_249, mX4_step_0, mX4_step, mX4_branch_201, mX4_branch_177, mX4_branch_174, mX4_branch_166, mX4_branch_154, mX4_branch_132, mX4_branch_124, mX4_branch_112, mX4_branch_0, mX4_branch, e0, zqg_15_5 h2, zqkF h1, id, zqk_15, zqg_15_5 k1, g0, e3, ep, ej, en, qX4_holds, pX4_holds, pX4_holds_47, pX4_holds_59, pX4_holds_71, pX4_holds_83, pX4_holds_95, pX4_holds_107, pX4_holds_0, c, Option.map_some, Int32.reduceLT, Int32.reduceLE, Int32.reduceAdd, Int32.reduceSub, Int32.reduceMul, Int32.reduceDiv, Int32.reduceMod, ↓reduceIte, Option.bind_some]
  · have f0 : mX9_step N (b + 75) (zc w b C0 M r0) = mX9_step_74 N (b + 75) (Int32.ofNat f) (Int32.ofNat m) (Int32.ofNat p) 157 3 (Int32.ofNat (uC μ (p + 1))) (Int32.ofNat (uC μ (p + 2))) (zc w b C0 M r0) := zn_step (N := N) (w := w) hc hop (n := 3) rfl rfl rfl C0 r0
    refine f0.trans ?_
    have f1 : mX9_popValue N (b + 75) (zc w b C0 M r0) = some (zc w b C0 (zMD M f (t)) r0, M.2 45 (12 * f + (t))) := by
      have := zn_pop (N := N) (w := w) (b := b) (M := M) (t := t) h1 h3 a2 (by omega) C0 r0
      exact this
    have ft : mX9_to N (b + 75) (Int32.ofNat m) (Int32.ofNat p) (zc w b C0 (zMD M f (t)) r0) = some (zc w b C0 (zMD M f (t)) r0, Int32.ofNat q) := zn_to (M := (zMD M f (t))) h7 (show zMt (zMD M f (t)) m μ from zMt.md h9) h10 (by omega) hq C0 r0
    have fs : ∀ v, zm_sI (zc w b C0 (zMD M f (t)) r0) (b + 106) (Int32.ofNat f) v = some (zc w b C0 (zJ (zMD M f (t)) 41 f v) r0) := fun v => zqs_106 h1
    have fn : Int32.ofNat p + 3 = Int32.ofNat (p + 3) := zi_add p 3
    by_cases c : ¬ lg_cmp (M.2 45 (12 * f + t)) 0 ≤ 0
    · rw [if_pos c]
      simp (decide := true) only [mX9_step_74, mX9_goes_130, mX9_goes_108, mX9_goes_96, mX9_goes_70, mX9_goes_62, mX9_goes_50, mX9_goes_0, mX9_goes, mX9_step_245, mX9_step_272, zqk_75, zqg_75_41, id, f1, ft, fs, fn, qX9_holds, pX9_holds, pX9_holds_105, pX9_holds_0, c, Option.map_some, Int32.reduceLT, Int32.reduceLE, Int32.reduceAdd, Int32.reduceSub, Int32.reduceMul, Int32.reduceDiv, Int32.reduceMod, ↓reduceIte, Option.bind_some]
    · rw [if_neg c]
      have c := Decidable.not_not.mp c
      simp (decide := true) only [mX9_step_74, mX9_goes_130, mX9_goes_108, mX9_goes_96, mX9_goes_70, mX9_goes_62, mX9_goes_50, mX9_goes_0, mX9_goes, mX9_step_245, mX9_step_272, zqk_75, zqg_75_41, id, f1, ft, fs, fn, qX9_holds, pX9_holds, pX9_holds_105, pX9_holds_0, c, Option.map_some, Int32.reduceLT, Int32.reduceLE, Int32.reduceAdd, Int32.reduceSub, Int32.reduceMul, Int32.reduceDiv, Int32.reduceMod, ↓reduceIte, Option.bind_some]

theorem zo_158 (h : zCur b K D C M r ra f (t + 1) p m lt st μ) (hop : uC μ p = 158) (s0 : st (t) = 1) {q : Nat} (hq : zto p (uC μ (p + 1)) (uC μ (p + 2)) = (q : Int)) : zQ w b N D C M r ra f m t (if ¬ 0 < lg_cmp (M.2 45 (12 * f + t)) 0 then q else p + 3) lt st := by
  have hc := h
  obtain ⟨h1, h2, h3, h4, h5, hfr, h7, h8, h9, h10, h11, h12⟩ := h
  have hl : p + 3 ≤ uLen μ := by rw [hop] at h12; exact h12
  have hl2 := h10.1
  have hd := hfr.drop (t' := t) (by omega)
  obtain ⟨a1, a2, a3, a4, a5, a6, a7, a8, a9⟩ := hfr
  have u0 := (a9 (t) (by omega)).2.2.2
  rw [s0] at u0
  have n0 := u0.num (Or.inl rfl)
  have hp := hd.go (if ¬ 0 < lg_cmp (M.2 45 (12 * f + t)) 0 then q else p + 3)
  refine ⟨_, _, fun M0 => ?_, fun C0 r0 => ?_, hp, zTop.rf.i2.i2, zTopM.rf.d.go⟩
  · have e0 : mX1_opcode N (b + (3 * f + 27)) (zc w b C M0 r) = some (zc w b C M0 r, 158) := ze_step0 (N := N) (w := w) hc hop M0
    have g0 : mX1_number N (b + (3 * f + 27)) 0 (zc w b C M0 r) = some (zc w b C M0 r, M.2 45 (12 * f + (t))) := by
      have := zf_number (N := N) (w := w) (b := b) (r := r) (k := 0) h1 a1 a3 (by omega) M0
      rw [show 15 + (t + 1) - 0 = 16 + (t) by omega, n0.1] at this; exact this
    have e3 : mX1_drop N (b + (3 * f + 27)) 1 (zc w b C M0 r) = some (zc w b (zI C (f + 100) 2 (Int32.ofNat (16 + t))) M0 r) := zf_drop (N := N) (w := w) (b := b) (r := r) (t := t + 1) (k := 1) h1 a1 a3 (by omega) M0
    have k1 : (zI C (f + 100) 2 (Int32.ofNat (16 + t))).2.2 15 5 = .ref (b + (3 * f + 27)) := h2
    have ep : mX1_pair N (b + (3 * f + 27)) (zc w b (zI C (f + 100) 2 (Int32.ofNat (16 + t))) M0 r) = some (zc w b (zI C (f + 100) 2 (Int32.ofNat (16 + t))) M0 r, Int32.ofInt (zsg (uC μ (p + 1)) * 256 + uC μ (p + 2))) := ze_pair (N := N) (w := w) (b := b) (C := (zI C (f + 100) 2 (Int32.ofNat (16 + t)))) h1 h8 h10 a6 (zp4_I2.trans a4) (by omega) M0
    have ej : mX4_goOn N (b + 15) (Int32.ofInt (zsg (uC μ (p + 1)) * 256 + uC μ (p + 2))) (zc w b (zI C (f + 100) 2 (Int32.ofNat (16 + t))) M0 r) = some (zc w b (zI (zI C (f + 100) 2 (Int32.ofNat (16 + t))) (f + 100) 4 (Int32.ofNat q)) M0 r, 0) := zf_goOnI (C := (zI C (f + 100) 2 (Int32.ofNat (16 + t)))) (p := p) h1 h2 (zp4_I2.trans a4) (by unfold zto at hq; omega) M0
    have en : mX4_goOn N (b + 15) 3 (zc w b (zI C (f + 100) 2 (Int32.ofNat (16 + t))) M0 r) = some (zc w b (zI (zI C (f + 100) 2 (Int32.ofNat (16 + t))) (f + 100) 4 (Int32.ofNat (p + 3))) M0 r, 0) := zf_goOn (C := (zI C (f + 100) 2 (Int32.ofNat (16 + t)))) (n := 3) (p := p) h1 h2 (zp4_I2.trans a4) M0
    by_cases c : ¬ 0 < lg_cmp (M.2 45 (12 * f + t)) 0
    · rw [if_pos c]
      simp (decide := true) only [mX4_step_107, mX4_step_249, mX4_step_0, mX4_step, mX4_branch_201, mX4_branch_177, mX4_branch_174, mX4_branch_166, mX4_branch_154, mX4_branch_132, mX4_branch_124, mX4_branch_112, mX4_branch_0, mX4_branch, e0, zqg_15_5 h2, zqkF h1, id, zqk_15, zqg_15_5 k1, g0, e3, ep, ej, en, qX4_holds, pX4_holds, pX4_holds_47, pX4_holds_59, pX4_holds_71, pX4_holds_83, pX4_holds_95, pX4_holds_107, pX4_holds_0, c, Option.map_some, Int32.reduceLT, Int32.reduceLE, Int32.reduceAdd, Int32.reduceSub, Int32.reduceMul, Int32.reduceDiv, Int32.reduceMod, ↓reduceIte, Option.bind_some]
    · rw [if_neg c]
      have c := Decidable.not_not.mp c
      simp (decide := true) only [mX4_step_107, mX4_step_249, mX4_step_0, mX4_step, mX4_branch_201, mX4_branch_177, mX4_branch_174, mX4_branch_166, mX4_branch_154, mX4_branch_132, mX4_branch_124, mX4_branch_112, mX4_branch_0, mX4_branch, e0, zqg_15_5 h2, zqkF h1, id, zqk_15, zqg_15_5 k1, g0, e3, ep, ej, en, qX4_holds, pX4_holds, pX4_holds_47, pX4_holds_59, pX4_holds_71, pX4_holds_83, pX4_holds_95, pX4_holds_107, pX4_holds_0, c, Option.map_some, Int32.reduceLT, Int32.reduceLE, Int32.reduceAdd, Int32.reduceSub, Int32.reduceMul, Int32.reduceDiv, Int32.reduceMod, ↓reduceIte, Option.bind_some]
  · have f0 : mX9_step N (b + 75) (zc w b C0 M r0) = mX9_step_74 N (b + 75) (Int32.ofNat f) (Int32.ofNat m) (Int32.ofNat p) 158 3 (Int32.ofNat (uC μ (p + 1))) (Int32.ofNat (uC μ (p + 2))) (zc w b C0 M r0) := zn_step (N := N) (w := w) hc hop (n := 3) rfl rfl rfl C0 r0
    refine f0.trans ?_
    have f1 : mX9_popValue N (b + 75) (zc w b C0 M r0) = some (zc w b C0 (zMD M f (t)) r0, M.2 45 (12 * f + (t))) := by
      have := zn_pop (N := N) (w := w) (b := b) (M := M) (t := t) h1 h3 a2 (by omega) C0 r0
      exact this
    have ft : mX9_to N (b + 75) (Int32.ofNat m) (Int32.ofNat p) (zc w b C0 (zMD M f (t)) r0) = some (zc w b C0 (zMD M f (t)) r0, Int32.ofNat q) := zn_to (M := (zMD M f (t))) h7 (show zMt (zMD M f (t)) m μ from zMt.md h9) h10 (by omega) hq C0 r0
    have fs : ∀ v, zm_sI (zc w b C0 (zMD M f (t)) r0) (b + 106) (Int32.ofNat f) v = some (zc w b C0 (zJ (zMD M f (t)) 41 f v) r0) := fun v => zqs_106 h1
    have fn : Int32.ofNat p + 3 = Int32.ofNat (p + 3) := zi_add p 3
    by_cases c : ¬ 0 < lg_cmp (M.2 45 (12 * f + t)) 0
    · rw [if_pos c]
      simp (decide := true) only [mX9_step_74, mX9_goes_130, mX9_goes_108, mX9_goes_96, mX9_goes_70, mX9_goes_62, mX9_goes_50, mX9_goes_0, mX9_goes, mX9_step_245, mX9_step_272, zqk_75, zqg_75_41, id, f1, ft, fs, fn, qX9_holds, pX9_holds, pX9_holds_105, pX9_holds_0, c, Option.map_some, Int32.reduceLT, Int32.reduceLE, Int32.reduceAdd, Int32.reduceSub, Int32.reduceMul, Int32.reduceDiv, Int32.reduceMod, ↓reduceIte, Option.bind_some]
    · rw [if_neg c]
      have c := Decidable.not_not.mp c
      simp (decide := true) only [mX9_step_74, mX9_goes_130, mX9_goes_108, mX9_goes_96, mX9_goes_70, mX9_goes_62, mX9_goes_50, mX9_goes_0, mX9_goes, mX9_step_245, mX9_step_272, zqk_75, zqg_75_41, id, f1, ft, fs, fn, qX9_holds, pX9_holds, pX9_holds_105, pX9_holds_0, c, Option.map_some, Int32.reduceLT, Int32.reduceLE, Int32.reduceAdd, Int32.reduceSub, Int32.reduceMul, Int32.reduceDiv, Int32.reduceMod, ↓reduceIte, Option.bind_some]

theorem zo_159 (h : zCur b K D C M r ra f (t + 2) p m lt st μ) (hop : uC μ p = 159) (s0 : st (t + 1) = 1) (s1 : st (t) = 1) {q : Nat} (hq : zto p (uC μ (p + 1)) (uC μ (p + 2)) = (q : Int)) : zQ w b N D C M r ra f m t (if lg_cmp (M.2 45 (12 * f + t)) (M.2 45 (12 * f + (t + 1))) = 0 then q else p + 3) lt st := by
  have hc := h
  obtain ⟨h1, h2, h3, h4, h5, hfr, h7, h8, h9, h10, h11, h12⟩ := h
  have hl : p + 3 ≤ uLen μ := by rw [hop] at h12; exact h12
  have hl2 := h10.1
  have hd := hfr.drop (t' := t) (by omega)
  obtain ⟨a1, a2, a3, a4, a5, a6, a7, a8, a9⟩ := hfr
  have u0 := (a9 (t + 1) (by omega)).2.2.2
  rw [s0] at u0
  have n0 := u0.num (Or.inl rfl)
  have u1 := (a9 (t) (by omega)).2.2.2
  rw [s1] at u1
  have n1 := u1.num (Or.inl rfl)
  have hp := hd.go (if lg_cmp (M.2 45 (12 * f + t)) (M.2 45 (12 * f + (t + 1))) = 0 then q else p + 3)
  refine ⟨_, _, fun M0 => ?_, fun C0 r0 => ?_, hp, zTop.rf.i2.i2, zTopM.rf.d.go⟩
  · have e0 : mX1_opcode N (b + (3 * f + 27)) (zc w b C M0 r) = some (zc w b C M0 r, 159) := ze_step0 (N := N) (w := w) hc hop M0
    have g0 : mX1_number N (b + (3 * f + 27)) 0 (zc w b C M0 r) = some (zc w b C M0 r, M.2 45 (12 * f + (t + 1))) := by
      have := zf_number (N := N) (w := w) (b := b) (r := r) (k := 0) h1 a1 a3 (by omega) M0
      rw [show 15 + (t + 2) - 0 = 16 + (t + 1) by omega, n0.1] at this; exact this
    have g1 : mX1_number N (b + (3 * f + 27)) 1 (zc w b C M0 r) = some (zc w b C M0 r, M.2 45 (12 * f + (t))) := by
      have := zf_number (N := N) (w := w) (b := b) (r := r) (k := 1) h1 a1 a3 (by omega) M0
      rw [show 15 + (t + 2) - 1 = 16 + (t) by omega, n1.1] at this; exact this
    have e3 : mX1_drop N (b + (3 * f + 27)) 2 (zc w b C M0 r) = some (zc w b (zI C (f + 100) 2 (Int32.ofNat (16 + t))) M0 r) := zf_drop (N := N) (w := w) (b := b) (r := r) (t := t + 2) (k := 2) h1 a1 a3 (by omega) M0
    have k1 : (zI C (f + 100) 2 (Int32.ofNat (16 + t))).2.2 15 5 = .ref (b + (3 * f + 27)) := h2
    have ep : mX1_pair N (b + (3 * f + 27)) (zc w b (zI C (f + 100) 2 (Int32.ofNat (16 + t))) M0 r) = some (zc w b (zI C (f + 100) 2 (Int32.ofNat (16 + t))) M0 r, Int32.ofInt (zsg (uC μ (p + 1)) * 256 + uC μ (p + 2))) := ze_pair (N := N) (w := w) (b := b) (C := (zI C (f + 100) 2 (Int32.ofNat (16 + t)))) h1 h8 h10 a6 (zp4_I2.trans a4) (by omega) M0
    have ej : mX4_goOn N (b + 15) (Int32.ofInt (zsg (uC μ (p + 1)) * 256 + uC μ (p + 2))) (zc w b (zI C (f + 100) 2 (Int32.ofNat (16 + t))) M0 r) = some (zc w b (zI (zI C (f + 100) 2 (Int32.ofNat (16 + t))) (f + 100) 4 (Int32.ofNat q)) M0 r, 0) := zf_goOnI (C := (zI C (f + 100) 2 (Int32.ofNat (16 + t)))) (p := p) h1 h2 (zp4_I2.trans a4) (by unfold zto at hq; omega) M0
    have en : mX4_goOn N (b + 15) 3 (zc w b (zI C (f + 100) 2 (Int32.ofNat (16 + t))) M0 r) = some (zc w b (zI (zI C (f + 100) 2 (Int32.ofNat (16 + t))) (f + 100) 4 (Int32.ofNat (p + 3))) M0 r, 0) := zf_goOn (C := (zI C (f + 100) 2 (Int32.ofNat (16 + t)))) (n := 3) (p := p) h1 h2 (zp4_I2.trans a4) M0
    by_cases c : lg_cmp (M.2 45 (12 * f + t)) (M.2 45 (12 * f + (t + 1))) = 0
    · rw [if_pos c]
      simp (decide := true) only [mX4_step_107, mX4_step_249, mX4_step_0, mX4_step, mX4_branch_201, mX4_branch_177, mX4_branch_174, mX4_branch_166, mX4_branch_154, mX4_branch_132, mX4_branch_124, mX4_branch_112, mX4_branch_0, mX4_branch, e0, zqg_15_5 h2, zqkF h1, id, zqk_15, zqg_15_5 k1, g0, g1, e3, ep, ej, en, qX4_holds, pX4_holds, pX4_holds_47, pX4_holds_59, pX4_holds_71, pX4_holds_83, pX4_holds_95, pX4_holds_107, pX4_holds_0, c, Option.map_some, Int32.reduceLT, Int32.reduceLE, Int32.reduceAdd, Int32.reduceSub, Int32.reduceMul, Int32.reduceDiv, Int32.reduceMod, ↓reduceIte, Option.bind_some]
    · rw [if_neg c]
      simp (decide := true) only [mX4_step_107, mX4_step_249, mX4_step_0, mX4_step, mX4_branch_201, mX4_branch_177, mX4_branch_174, mX4_branch_166, mX4_branch_154, mX4_branch_132, mX4_branch_124, mX4_branch_112, mX4_branch_0, mX4_branch, e0, zqg_15_5 h2, zqkF h1, id, zqk_15, zqg_15_5 k1, g0, g1, e3, ep, ej, en, qX4_holds, pX4_holds, pX4_holds_47, pX4_holds_59, pX4_holds_71, pX4_holds_83, pX4_holds_95, pX4_holds_107, pX4_holds_0, c, Option.map_some, Int32.reduceLT, Int32.reduceLE, Int32.reduceAdd, Int32.reduceSub, Int32.reduceMul, Int32.reduceDiv, Int32.reduceMod, ↓reduceIte, Option.bind_some]
  · have f0 : mX9_step N (b + 75) (zc w b C0 M r0) = mX9_step_74 N (b + 75) (Int32.ofNat f) (Int32.ofNat m) (Int32.ofNat p) 159 3 (Int32.ofNat (uC μ (p + 1))) (Int32.ofNat (uC μ (p + 2))) (zc w b C0 M r0) := zn_step (N := N) (w := w) hc hop (n := 3) rfl rfl rfl C0 r0
    refine f0.trans ?_
    have f1 : mX9_popValue N (b + 75) (zc w b C0 M r0) = some (zc w b C0 (zMD M f (t + 1)) r0, M.2 45 (12 * f + (t + 1))) := by
      have := zn_pop (N := N) (w := w) (b := b) (M := M) (t := t + 1) h1 h3 a2 (by omega) C0 r0
      exact this
    have f2 : mX9_popValue N (b + 75) (zc w b C0 (zMD M f (t + 1)) r0) = some (zc w b C0 (zMD M f (t)) r0, M.2 45 (12 * f + (t))) := by
      have := zn_pop (N := N) (w := w) (b := b) (M := (zMD M f (t + 1))) (t := t) h1 h3 zmd42 (by omega) C0 r0
      rw [zMDD] at this; exact this
    have ft : mX9_to N (b + 75) (Int32.ofNat m) (Int32.ofNat p) (zc w b C0 (zMD M f (t)) r0) = some (zc w b C0 (zMD M f (t)) r0, Int32.ofNat q) := zn_to (M := (zMD M f (t))) h7 (show zMt (zMD M f (t)) m μ from zMt.md h9) h10 (by omega) hq C0 r0
    have fs : ∀ v, zm_sI (zc w b C0 (zMD M f (t)) r0) (b + 106) (Int32.ofNat f) v = some (zc w b C0 (zJ (zMD M f (t)) 41 f v) r0) := fun v => zqs_106 h1
    have fn : Int32.ofNat p + 3 = Int32.ofNat (p + 3) := zi_add p 3
    by_cases c : lg_cmp (M.2 45 (12 * f + t)) (M.2 45 (12 * f + (t + 1))) = 0
    · rw [if_pos c]
      simp (decide := true) only [mX9_step_74, mX9_goes_130, mX9_goes_108, mX9_goes_96, mX9_goes_70, mX9_goes_62, mX9_goes_50, mX9_goes_0, mX9_goes, mX9_step_245, mX9_step_272, zqk_75, zqg_75_41, id, f1, f2, ft, fs, fn, qX9_holds, pX9_holds, pX9_holds_105, pX9_holds_0, c, Option.map_some, Int32.reduceLT, Int32.reduceLE, Int32.reduceAdd, Int32.reduceSub, Int32.reduceMul, Int32.reduceDiv, Int32.reduceMod, ↓reduceIte, Option.bind_some]
    · rw [if_neg c]
      simp (decide := true) only [mX9_step_74, mX9_goes_130, mX9_goes_108, mX9_goes_96, mX9_goes_70, mX9_goes_62, mX9_goes_50, mX9_goes_0, mX9_goes, mX9_step_245, mX9_step_272, zqk_75, zqg_75_41, id, f1, f2, ft, fs, fn, qX9_holds, pX9_holds, pX9_holds_105, pX9_holds_0, c, Option.map_some, Int32.reduceLT, Int32.reduceLE, Int32.reduceAdd, Int32.reduceSub, Int32.reduceMul, Int32.reduceDiv, Int32.reduceMod, ↓reduceIte, Option.bind_some]

theorem zo_160 (h : zCur b K D C M r ra f (t + 2) p m lt st μ) (hop : uC μ p = 160) (s0 : st (t + 1) = 1) (s1 : st (t) = 1) {q : Nat} (hq : zto p (uC μ (p + 1)) (uC μ (p + 2)) = (q : Int)) : zQ w b N D C M r ra f m t (if ¬ lg_cmp (M.2 45 (12 * f + t)) (M.2 45 (12 * f + (t + 1))) = 0 then q else p + 3) lt st := by
  have hc := h
  obtain ⟨h1, h2, h3, h4, h5, hfr, h7, h8, h9, h10, h11, h12⟩ := h
  have hl : p + 3 ≤ uLen μ := by rw [hop] at h12; exact h12
  have hl2 := h10.1
  have hd := hfr.drop (t' := t) (by omega)
  obtain ⟨a1, a2, a3, a4, a5, a6, a7, a8, a9⟩ := hfr
  have u0 := (a9 (t + 1) (by omega)).2.2.2
  rw [s0] at u0
  have n0 := u0.num (Or.inl rfl)
  have u1 := (a9 (t) (by omega)).2.2.2
  rw [s1] at u1
  have n1 := u1.num (Or.inl rfl)
  have hp := hd.go (if ¬ lg_cmp (M.2 45 (12 * f + t)) (M.2 45 (12 * f + (t + 1))) = 0 then q else p + 3)
  refine ⟨_, _, fun M0 => ?_, fun C0 r0 => ?_, hp, zTop.rf.i2.i2, zTopM.rf.d.go⟩
  · have e0 : mX1_opcode N (b + (3 * f + 27)) (zc w b C M0 r) = some (zc w b C M0 r, 160) := ze_step0 (N := N) (w := w) hc hop M0
    have g0 : mX1_number N (b + (3 * f + 27)) 0 (zc w b C M0 r) = some (zc w b C M0 r, M.2 45 (12 * f + (t + 1))) := by
      have := zf_number (N := N) (w := w) (b := b) (r := r) (k := 0) h1 a1 a3 (by omega) M0
      rw [show 15 + (t + 2) - 0 = 16 + (t + 1) by omega, n0.1] at this; exact this
    have g1 : mX1_number N (b + (3 * f + 27)) 1 (zc w b C M0 r) = some (zc w b C M0 r, M.2 45 (12 * f + (t))) := by
      have := zf_number (N := N) (w := w) (b := b) (r := r) (k := 1) h1 a1 a3 (by omega) M0
      rw [show 15 + (t + 2) - 1 = 16 + (t) by omega, n1.1] at this; exact this
    have e3 : mX1_drop N (b + (3 * f + 27)) 2 (zc w b C M0 r) = some (zc w b (zI C (f + 100) 2 (Int32.ofNat (16 + t))) M0 r) := zf_drop (N := N) (w := w) (b := b) (r := r) (t := t + 2) (k := 2) h1 a1 a3 (by omega) M0
    have k1 : (zI C (f + 100) 2 (Int32.ofNat (16 + t))).2.2 15 5 = .ref (b + (3 * f + 27)) := h2
    have ep : mX1_pair N (b + (3 * f + 27)) (zc w b (zI C (f + 100) 2 (Int32.ofNat (16 + t))) M0 r) = some (zc w b (zI C (f + 100) 2 (Int32.ofNat (16 + t))) M0 r, Int32.ofInt (zsg (uC μ (p + 1)) * 256 + uC μ (p + 2))) := ze_pair (N := N) (w := w) (b := b) (C := (zI C (f + 100) 2 (Int32.ofNat (16 + t)))) h1 h8 h10 a6 (zp4_I2.trans a4) (by omega) M0
    have ej : mX4_goOn N (b + 15) (Int32.ofInt (zsg (uC μ (p + 1)) * 256 + uC μ (p + 2))) (zc w b (zI C (f + 100) 2 (Int32.ofNat (16 + t))) M0 r) = some (zc w b (zI (zI C (f + 100) 2 (Int32.ofNat (16 + t))) (f + 100) 4 (Int32.ofNat q)) M0 r, 0) := zf_goOnI (C := (zI C (f + 100) 2 (Int32.ofNat (16 + t)))) (p := p) h1 h2 (zp4_I2.trans a4) (by unfold zto at hq; omega) M0
    have en : mX4_goOn N (b + 15) 3 (zc w b (zI C (f + 100) 2 (Int32.ofNat (16 + t))) M0 r) = some (zc w b (zI (zI C (f + 100) 2 (Int32.ofNat (16 + t))) (f + 100) 4 (Int32.ofNat (p + 3))) M0 r, 0) := zf_goOn (C := (zI C (f + 100) 2 (Int32.ofNat (16 + t)))) (n := 3) (p := p) h1 h2 (zp4_I2.trans a4) M0
    by_cases c : ¬ lg_cmp (M.2 45 (12 * f + t)) (M.2 45 (12 * f + (t + 1))) = 0
    · rw [if_pos c]
      simp (decide := true) only [mX4_step_107, mX4_step_249, mX4_step_0, mX4_step, mX4_branch_201, mX4_branch_177, mX4_branch_174, mX4_branch_166, mX4_branch_154, mX4_branch_132, mX4_branch_124, mX4_branch_112, mX4_branch_0, mX4_branch, e0, zqg_15_5 h2, zqkF h1, id, zqk_15, zqg_15_5 k1, g0, g1, e3, ep, ej, en, qX4_holds, pX4_holds, pX4_holds_47, pX4_holds_59, pX4_holds_71, pX4_holds_83, pX4_holds_95, pX4_holds_107, pX4_holds_0, c, Option.map_some, Int32.reduceLT, Int32.reduceLE, Int32.reduceAdd, Int32.reduceSub, Int32.reduceMul, Int32.reduceDiv, Int32.reduceMod, ↓reduceIte, Option.bind_some]
    · rw [if_neg c]
      have c := Decidable.not_not.mp c
      simp (decide := true) only [mX4_step_107, mX4_step_249, mX4_step_0, mX4_step, mX4_branch_201, mX4_branch_177, mX4_branch_174, mX4_branch_166, mX4_branch_154, mX4_branch_132, mX4_branch_124, mX4_branch_112, mX4_branch_0, mX4_branch, e0, zqg_15_5 h2, zqkF h1, id, zqk_15, zqg_15_5 k1, g0, g1, e3, ep, ej, en, qX4_holds, pX4_holds, pX4_holds_47, pX4_holds_59, pX4_holds_71, pX4_holds_83, pX4_holds_95, pX4_holds_107, pX4_holds_0, c, Option.map_some, Int32.reduceLT, Int32.reduceLE, Int32.reduceAdd, Int32.reduceSub, Int32.reduceMul, Int32.reduceDiv, Int32.reduceMod, ↓reduceIte, Option.bind_some]
  · have f0 : mX9_step N (b + 75) (zc w b C0 M r0) = mX9_step_74 N (b + 75) (Int32.ofNat f) (Int32.ofNat m) (Int32.ofNat p) 160 3 (Int32.ofNat (uC μ (p + 1))) (Int32.ofNat (uC μ (p + 2))) (zc w b C0 M r0) := zn_step (N := N) (w := w) hc hop (n := 3) rfl rfl rfl C0 r0
    refine f0.trans ?_
    have f1 : mX9_popValue N (b + 75) (zc w b C0 M r0) = some (zc w b C0 (zMD M f (t + 1)) r0, M.2 45 (12 * f + (t + 1))) := by
      have := zn_pop (N := N) (w := w) (b := b) (M := M) (t := t + 1) h1 h3 a2 (by omega) C0 r0
      exact this
    have f2 : mX9_popValue N (b + 75) (zc w b C0 (zMD M f (t + 1)) r0) = some (zc w b C0 (zMD M f (t)) r0, M.2 45 (12 * f + (t))) := by
      have := zn_pop (N := N) (w := w) (b := b) (M := (zMD M f (t + 1))) (t := t) h1 h3 zmd42 (by omega) C0 r0
      rw [zMDD] at this; exact this
    have ft : mX9_to N (b + 75) (Int32.ofNat m) (Int32.ofNat p) (zc w b C0 (zMD M f (t)) r0) = some (zc w b C0 (zMD M f (t)) r0, Int32.ofNat q) := zn_to (M := (zMD M f (t))) h7 (show zMt (zMD M f (t)) m μ from zMt.md h9) h10 (by omega) hq C0 r0
    have fs : ∀ v, zm_sI (zc w b C0 (zMD M f (t)) r0) (b + 106) (Int32.ofNat f) v = some (zc w b C0 (zJ (zMD M f (t)) 41 f v) r0) := fun v => zqs_106 h1
    have fn : Int32.ofNat p + 3 = Int32.ofNat (p + 3) := zi_add p 3
    by_cases c : ¬ lg_cmp (M.2 45 (12 * f + t)) (M.2 45 (12 * f + (t + 1))) = 0
    · rw [if_pos c]
      simp (decide := true) only [mX9_step_74, mX9_goes_130, mX9_goes_108, mX9_goes_96, mX9_goes_70, mX9_goes_62, mX9_goes_50, mX9_goes_0, mX9_goes, mX9_step_245, mX9_step_272, zqk_75, zqg_75_41, id, f1, f2, ft, fs, fn, qX9_holds, pX9_holds, pX9_holds_105, pX9_holds_0, c, Option.map_some, Int32.reduceLT, Int32.reduceLE, Int32.reduceAdd, Int32.reduceSub, Int32.reduceMul, Int32.reduceDiv, Int32.reduceMod, ↓reduceIte, Option.bind_some]
    · rw [if_neg c]
      have c := Decidable.not_not.mp c
      simp (decide := true) only [mX9_step_74, mX9_goes_130, mX9_goes_108, mX9_goes_96, mX9_goes_70, mX9_goes_62, mX9_goes_50, mX9_goes_0, mX9_goes, mX9_step_245, mX9_step_272, zqk_75, zqg_75_41, id, f1, f2, ft, fs, fn, qX9_holds, pX9_holds, pX9_holds_105, pX9_holds_0, c, Option.map_some, Int32.reduceLT, Int32.reduceLE, Int32.reduceAdd, Int32.reduceSub, Int32.reduceMul, Int32.reduceDiv, Int32.reduceMod, ↓reduceIte, Option.bind_some]

theorem zo_161 (h : zCur b K D C M r ra f (t + 2) p m lt st μ) (hop : uC μ p = 161) (s0 : st (t + 1) = 1) (s1 : st (t) = 1) {q : Nat} (hq : zto p (uC μ (p + 1)) (uC μ (p + 2)) = (q : Int)) : zQ w b N D C M r ra f m t (if ¬ 0 ≤ lg_cmp (M.2 45 (12 * f + t)) (M.2 45 (12 * f + (t + 1))) then q else p + 3) lt st := by
  have hc := h
  obtain ⟨h1, h2, h3, h4, h5, hfr, h7, h8, h9, h10, h11, h12⟩ := h
  have hl : p + 3 ≤ uLen μ := by rw [hop] at h12; exact h12
  have hl2 := h10.1
  have hd := hfr.drop (t' := t) (by omega)
  obtain ⟨a1, a2, a3, a4, a5, a6, a7, a8, a9⟩ := hfr
  have u0 := (a9 (t + 1) (by omega)).2.2.2
  rw [s0] at u0
  have n0 := u0.num (Or.inl rfl)
  have u1 := (a9 (t) (by omega)).2.2.2
  rw [s1] at u1
  have n1 := u1.num (Or.inl rfl)
  have hp := hd.go (if ¬ 0 ≤ lg_cmp (M.2 45 (12 * f + t)) (M.2 45 (12 * f + (t + 1))) then q else p + 3)
  refine ⟨_, _, fun M0 => ?_, fun C0 r0 => ?_, hp, zTop.rf.i2.i2, zTopM.rf.d.go⟩
  · have e0 : mX1_opcode N (b + (3 * f + 27)) (zc w b C M0 r) = some (zc w b C M0 r, 161) := ze_step0 (N := N) (w := w) hc hop M0
    have g0 : mX1_number N (b + (3 * f + 27)) 0 (zc w b C M0 r) = some (zc w b C M0 r, M.2 45 (12 * f + (t + 1))) := by
      have := zf_number (N := N) (w := w) (b := b) (r := r) (k := 0) h1 a1 a3 (by omega) M0
      rw [show 15 + (t + 2) - 0 = 16 + (t + 1) by omega, n0.1] at this; exact this
    have g1 : mX1_number N (b + (3 * f + 27)) 1 (zc w b C M0 r) = some (zc w b C M0 r, M.2 45 (12 * f + (t))) := by
      have := zf_number (N := N) (w := w) (b := b) (r := r) (k := 1) h1 a1 a3 (by omega) M0
      rw [show 15 + (t + 2) - 1 = 16 + (t) by omega, n1.1] at this; exact this
    have e3 : mX1_drop N (b + (3 * f + 27)) 2 (zc w b C M0 r) = some (zc w b (zI C (f + 100) 2 (Int32.ofNat (16 + t))) M0 r) := zf_drop (N := N) (w := w) (b := b) (r := r) (t := t + 2) (k := 2) h1 a1 a3 (by omega) M0
    have k1 : (zI C (f + 100) 2 (Int32.ofNat (16 + t))).2.2 15 5 = .ref (b + (3 * f + 27)) := h2
    have ep : mX1_pair N (b + (3 * f + 27)) (zc w b (zI C (f + 100) 2 (Int32.ofNat (16 + t))) M0 r) = some (zc w b (zI C (f + 100) 2 (Int32.ofNat (16 + t))) M0 r, Int32.ofInt (zsg (uC μ (p + 1)) * 256 + uC μ (p + 2))) := ze_pair (N := N) (w := w) (b := b) (C := (zI C (f + 100) 2 (Int32.ofNat (16 + t)))) h1 h8 h10 a6 (zp4_I2.trans a4) (by omega) M0
    have ej : mX4_goOn N (b + 15) (Int32.ofInt (zsg (uC μ (p + 1)) * 256 + uC μ (p + 2))) (zc w b (zI C (f + 100) 2 (Int32.ofNat (16 + t))) M0 r) = some (zc w b (zI (zI C (f + 100) 2 (Int32.ofNat (16 + t))) (f + 100) 4 (Int32.ofNat q)) M0 r, 0) := zf_goOnI (C := (zI C (f + 100) 2 (Int32.ofNat (16 + t)))) (p := p) h1 h2 (zp4_I2.trans a4) (by unfold zto at hq; omega) M0
    have en : mX4_goOn N (b + 15) 3 (zc w b (zI C (f + 100) 2 (Int32.ofNat (16 + t))) M0 r) = some (zc w b (zI (zI C (f + 100) 2 (Int32.ofNat (16 + t))) (f + 100) 4 (Int32.ofNat (p + 3))) M0 r, 0) := zf_goOn (C := (zI C (f + 100) 2 (Int32.ofNat (16 + t)))) (n := 3) (p := p) h1 h2 (zp4_I2.trans a4) M0
    by_cases c : ¬ 0 ≤ lg_cmp (M.2 45 (12 * f + t)) (M.2 45 (12 * f + (t + 1)))
    · rw [if_pos c]
      simp (decide := true) only [mX4_step_107, mX4_step_249, mX4_step_0, mX4_step, mX4_branch_201, mX4_branch_177, mX4_branch_174, mX4_branch_166, mX4_branch_154, mX4_branch_132, mX4_branch_124, mX4_branch_112, mX4_branch_0, mX4_branch, e0, zqg_15_5 h2, zqkF h1, id, zqk_15, zqg_15_5 k1, g0, g1, e3, ep, ej, en, qX4_holds, pX4_holds, pX4_holds_47, pX4_holds_59, pX4_holds_71, pX4_holds_83, pX4_holds_95, pX4_holds_107, pX4_holds_0, c, Option.map_some, Int32.reduceLT, Int32.reduceLE, Int32.reduceAdd, Int32.reduceSub, Int32.reduceMul, Int32.reduceDiv, Int32.reduceMod, ↓reduceIte, Option.bind_some]
    · rw [if_neg c]
      have c := Decidable.not_not.mp c
      simp (decide := true) only [mX4_step_107, mX4_step_249, mX4_step_0, mX4_step, mX4_branch_201, mX4_branch_177, mX4_branch_174, mX4_branch_166, mX4_branch_154, mX4_branch_132, mX4_branch_124, mX4_branch_112, mX4_branch_0, mX4_branch, e0, zqg_15_5 h2, zqkF h1, id, zqk_15, zqg_15_5 k1, g0, g1, e3, ep, ej, en, qX4_holds, pX4_holds, pX4_holds_47, pX4_holds_59, pX4_holds_71, pX4_holds_83, pX4_holds_95, pX4_holds_107, pX4_holds_0, c, Option.map_some, Int32.reduceLT, Int32.reduceLE, Int32.reduceAdd, Int32.reduceSub, Int32.reduceMul, Int32.reduceDiv, Int32.reduceMod, ↓reduceIte, Option.bind_some]
  · have f0 : mX9_step N (b + 75) (zc w b C0 M r0) = mX9_step_74 N (b + 75) (Int32.ofNat f) (Int32.ofNat m) (Int32.ofNat p) 161 3 (Int32.ofNat (uC μ (p + 1))) (Int32.ofNat (uC μ (p + 2))) (zc w b C0 M r0) := zn_step (N := N) (w := w) hc hop (n := 3) rfl rfl rfl C0 r0
    refine f0.trans ?_
    have f1 : mX9_popValue N (b + 75) (zc w b C0 M r0) = some (zc w b C0 (zMD M f (t + 1)) r0, M.2 45 (12 * f + (t + 1))) := by
      have := zn_pop (N := N) (w := w) (b := b) (M := M) (t := t + 1) h1 h3 a2 (by omega) C0 r0
      exact this
    have f2 : mX9_popValue N (b + 75) (zc w b C0 (zMD M f (t + 1)) r0) = some (zc w b C0 (zMD M f (t)) r0, M.2 45 (12 * f + (t))) := by
      have := zn_pop (N := N) (w := w) (b := b) (M := (zMD M f (t + 1))) (t := t) h1 h3 zmd42 (by omega) C0 r0
      rw [zMDD] at this; exact this
    have ft : mX9_to N (b + 75) (Int32.ofNat m) (Int32.ofNat p) (zc w b C0 (zMD M f (t)) r0) = some (zc w b C0 (zMD M f (t)) r0, Int32.ofNat q) := zn_to (M := (zMD M f (t))) h7 (show zMt (zMD M f (t)) m μ from zMt.md h9) h10 (by omega) hq C0 r0
    have fs : ∀ v, zm_sI (zc w b C0 (zMD M f (t)) r0) (b + 106) (Int32.ofNat f) v = some (zc w b C0 (zJ (zMD M f (t)) 41 f v) r0) := fun v => zqs_106 h1
    have fn : Int32.ofNat p + 3 = Int32.ofNat (p + 3) := zi_add p 3
    by_cases c : ¬ 0 ≤ lg_cmp (M.2 45 (12 * f + t)) (M.2 45 (12 * f + (t + 1)))
    · rw [if_pos c]
      simp (decide := true) only [mX9_step_74, mX9_goes_130, mX9_goes_108, mX9_goes_96, mX9_goes_70, mX9_goes_62, mX9_goes_50, mX9_goes_0, mX9_goes, mX9_step_245, mX9_step_272, zqk_75, zqg_75_41, id, f1, f2, ft, fs, fn, qX9_holds, pX9_holds, pX9_holds_105, pX9_holds_0, c, Option.map_some, Int32.reduceLT, Int32.reduceLE, Int32.reduceAdd, Int32.reduceSub, Int32.reduceMul, Int32.reduceDiv, Int32.reduceMod, ↓reduceIte, Option.bind_some]
    · rw [if_neg c]
      have c := Decidable.not_not.mp c
      simp (decide := true) only [mX9_step_74, mX9_goes_130, mX9_goes_108, mX9_goes_96, mX9_goes_70, mX9_goes_62, mX9_goes_50, mX9_goes_0, mX9_goes, mX9_step_245, mX9_step_272, zqk_75, zqg_75_41, id, f1, f2, ft, fs, fn, qX9_holds, pX9_holds, pX9_holds_105, pX9_holds_0, c, Option.map_some, Int32.reduceLT, Int32.reduceLE, Int32.reduceAdd, Int32.reduceSub, Int32.reduceMul, Int32.reduceDiv, Int32.reduceMod, ↓reduceIte, Option.bind_some]

theorem zo_162 (h : zCur b K D C M r ra f (t + 2) p m lt st μ) (hop : uC μ p = 162) (s0 : st (t + 1) = 1) (s1 : st (t) = 1) {q : Nat} (hq : zto p (uC μ (p + 1)) (uC μ (p + 2)) = (q : Int)) : zQ w b N D C M r ra f m t (if ¬ lg_cmp (M.2 45 (12 * f + t)) (M.2 45 (12 * f + (t + 1))) < 0 then q else p + 3) lt st := by
  have hc := h
  obtain ⟨h1, h2, h3, h4, h5, hfr, h7, h8, h9, h10, h11, h12⟩ := h
  have hl : p + 3 ≤ uLen μ := by rw [hop] at h12; exact h12
  have hl2 := h10.1
  have hd := hfr.drop (t' := t) (by omega)
  obtain ⟨a1, a2, a3, a4, a5, a6, a7, a8, a9⟩ := hfr
  have u0 := (a9 (t + 1) (by omega)).2.2.2
  rw [s0] at u0
  have n0 := u0.num (Or.inl rfl)
  have u1 := (a9 (t) (by omega)).2.2.2
  rw [s1] at u1
  have n1 := u1.num (Or.inl rfl)
  have hp := hd.go (if ¬ lg_cmp (M.2 45 (12 * f + t)) (M.2 45 (12 * f + (t + 1))) < 0 then q else p + 3)
  refine ⟨_, _, fun M0 => ?_, fun C0 r0 => ?_, hp, zTop.rf.i2.i2, zTopM.rf.d.go⟩
  · have e0 : mX1_opcode N (b + (3 * f + 27)) (zc w b C M0 r) = some (zc w b C M0 r, 162) := ze_step0 (N := N) (w := w) hc hop M0
    have g0 : mX1_number N (b + (3 * f + 27)) 0 (zc w b C M0 r) = some (zc w b C M0 r, M.2 45 (12 * f + (t + 1))) := by
      have := zf_number (N := N) (w := w) (b := b) (r := r) (k := 0) h1 a1 a3 (by omega) M0
      rw [show 15 + (t + 2) - 0 = 16 + (t + 1) by omega, n0.1] at this; exact this
    have g1 : mX1_number N (b + (3 * f + 27)) 1 (zc w b C M0 r) = some (zc w b C M0 r, M.2 45 (12 * f + (t))) := by
      have := zf_number (N := N) (w := w) (b := b) (r := r) (k := 1) h1 a1 a3 (by omega) M0
      rw [show 15 + (t + 2) - 1 = 16 + (t) by omega, n1.1] at this; exact this
    have e3 : mX1_drop N (b + (3 * f + 27)) 2 (zc w b C M0 r) = some (zc w b (zI C (f + 100) 2 (Int32.ofNat (16 + t))) M0 r) := zf_drop (N := N) (w := w) (b := b) (r := r) (t := t + 2) (k := 2) h1 a1 a3 (by omega) M0
    have k1 : (zI C (f + 100) 2 (Int32.ofNat (16 + t))).2.2 15 5 = .ref (b + (3 * f + 27)) := h2
    have ep : mX1_pair N (b + (3 * f + 27)) (zc w b (zI C (f + 100) 2 (Int32.ofNat (16 + t))) M0 r) = some (zc w b (zI C (f + 100) 2 (Int32.ofNat (16 + t))) M0 r, Int32.ofInt (zsg (uC μ (p + 1)) * 256 + uC μ (p + 2))) := ze_pair (N := N) (w := w) (b := b) (C := (zI C (f + 100) 2 (Int32.ofNat (16 + t)))) h1 h8 h10 a6 (zp4_I2.trans a4) (by omega) M0
    have ej : mX4_goOn N (b + 15) (Int32.ofInt (zsg (uC μ (p + 1)) * 256 + uC μ (p + 2))) (zc w b (zI C (f + 100) 2 (Int32.ofNat (16 + t))) M0 r) = some (zc w b (zI (zI C (f + 100) 2 (Int32.ofNat (16 + t))) (f + 100) 4 (Int32.ofNat q)) M0 r, 0) := zf_goOnI (C := (zI C (f + 100) 2 (Int32.ofNat (16 + t)))) (p := p) h1 h2 (zp4_I2.trans a4) (by unfold zto at hq; omega) M0
    have en : mX4_goOn N (b + 15) 3 (zc w b (zI C (f + 100) 2 (Int32.ofNat (16 + t))) M0 r) = some (zc w b (zI (zI C (f + 100) 2 (Int32.ofNat (16 + t))) (f + 100) 4 (Int32.ofNat (p + 3))) M0 r, 0) := zf_goOn (C := (zI C (f + 100) 2 (Int32.ofNat (16 + t)))) (n := 3) (p := p) h1 h2 (zp4_I2.trans a4) M0
    by_cases c : ¬ lg_cmp (M.2 45 (12 * f + t)) (M.2 45 (12 * f + (t + 1))) < 0
    · rw [if_pos c]
      simp (decide := true) only [mX4_step_107, mX4_step_249, mX4_step_0, mX4_step, mX4_branch_201, mX4_branch_177, mX4_branch_174, mX4_branch_166, mX4_branch_154, mX4_branch_132, mX4_branch_124, mX4_branch_112, mX4_branch_0, mX4_branch, e0, zqg_15_5 h2, zqkF h1, id, zqk_15, zqg_15_5 k1, g0, g1, e3, ep, ej, en, qX4_holds, pX4_holds, pX4_holds_47, pX4_holds_59, pX4_holds_71, pX4_holds_83, pX4_holds_95, pX4_holds_107, pX4_holds_0, c, Option.map_some, Int32.reduceLT, Int32.reduceLE, Int32.reduceAdd, Int32.reduceSub, Int32.reduceMul, Int32.reduceDiv, Int32.reduceMod, ↓reduceIte, Option.bind_some]
    · rw [if_neg c]
      have c := Decidable.not_not.mp c
      simp (decide := true) only [mX4_step_107, mX4_step_249, mX4_step_0, mX4_step, mX4_branch_201, mX4_branch_177, mX4_branch_174, mX4_branch_166, mX4_branch_154, mX4_branch_132, mX4_branch_124, mX4_branch_112, mX4_branch_0, mX4_branch, e0, zqg_15_5 h2, zqkF h1, id, zqk_15, zqg_15_5 k1, g0, g1, e3, ep, ej, en, qX4_holds, pX4_holds, pX4_holds_47, pX4_holds_59, pX4_holds_71, pX4_holds_83, pX4_holds_95, pX4_holds_107, pX4_holds_0, c, Option.map_some, Int32.reduceLT, Int32.reduceLE, Int32.reduceAdd, Int32.reduceSub, Int32.reduceMul, Int32.reduceDiv, Int32.reduceMod, ↓reduceIte, Option.bind_some]
  · have f0 : mX9_step N (b + 75) (zc w b C0 M r0) = mX9_step_74 N (b + 75) (Int32.ofNat f) (Int32.ofNat m) (Int32.ofNat p) 162 3 (Int32.ofNat (uC μ (p + 1))) (Int32.ofNat (uC μ (p + 2))) (zc w b C0 M r0) := zn_step (N := N) (w := w) hc hop (n := 3) rfl rfl rfl C0 r0
    refine f0.trans ?_
    have f1 : mX9_popValue N (b + 75) (zc w b C0 M r0) = some (zc w b C0 (zMD M f (t + 1)) r0, M.2 45 (12 * f + (t + 1))) := by
      have := zn_pop (N := N) (w := w) (b := b) (M := M) (t := t + 1) h1 h3 a2 (by omega) C0 r0
      exact this
    have f2 : mX9_popValue N (b + 75) (zc w b C0 (zMD M f (t + 1)) r0) = some (zc w b C0 (zMD M f (t)) r0, M.2 45 (12 * f + (t))) := by
      have := zn_pop (N := N) (w := w) (b := b) (M := (zMD M f (t + 1))) (t := t) h1 h3 zmd42 (by omega) C0 r0
      rw [zMDD] at this; exact this
    have ft : mX9_to N (b + 75) (Int32.ofNat m) (Int32.ofNat p) (zc w b C0 (zMD M f (t)) r0) = some (zc w b C0 (zMD M f (t)) r0, Int32.ofNat q) := zn_to (M := (zMD M f (t))) h7 (show zMt (zMD M f (t)) m μ from zMt.md h9) h10 (by omega) hq C0 r0
    have fs : ∀ v, zm_sI (zc w b C0 (zMD M f (t)) r0) (b + 106) (Int32.ofNat f) v = some (zc w b C0 (zJ (zMD M f (t)) 41 f v) r0) := fun v => zqs_106 h1
    have fn : Int32.ofNat p + 3 = Int32.ofNat (p + 3) := zi_add p 3
    by_cases c : ¬ lg_cmp (M.2 45 (12 * f + t)) (M.2 45 (12 * f + (t + 1))) < 0
    · rw [if_pos c]
      simp (decide := true) only [mX9_step_74, mX9_goes_130, mX9_goes_108, mX9_goes_96, mX9_goes_70, mX9_goes_62, mX9_goes_50, mX9_goes_0, mX9_goes, mX9_step_245, mX9_step_272, zqk_75, zqg_75_41, id, f1, f2, ft, fs, fn, qX9_holds, pX9_holds, pX9_holds_105, pX9_holds_0, c, Option.map_some, Int32.reduceLT, Int32.reduceLE, Int32.reduceAdd, Int32.reduceSub, Int32.reduceMul, Int32.reduceDiv, Int32.reduceMod, ↓reduceIte, Option.bind_some]
    · rw [if_neg c]
      have c := Decidable.not_not.mp c
      simp (decide := true) only [mX9_step_74, mX9_goes_130, mX9_goes_108, mX9_goes_96, mX9_goes_70, mX9_goes_62, mX9_goes_50, mX9_goes_0, mX9_goes, mX9_step_245, mX9_step_272, zqk_75, zqg_75_41, id, f1, f2, ft, fs, fn, qX9_holds, pX9_holds, pX9_holds_105, pX9_holds_0, c, Option.map_some, Int32.reduceLT, Int32.reduceLE, Int32.reduceAdd, Int32.reduceSub, Int32.reduceMul, Int32.reduceDiv, Int32.reduceMod, ↓reduceIte, Option.bind_some]

theorem zo_163 (h : zCur b K D C M r ra f (t + 2) p m lt st μ) (hop : uC μ p = 163) (s0 : st (t + 1) = 1) (s1 : st (t) = 1) {q : Nat} (hq : zto p (uC μ (p + 1)) (uC μ (p + 2)) = (q : Int)) : zQ w b N D C M r ra f m t (if ¬ lg_cmp (M.2 45 (12 * f + t)) (M.2 45 (12 * f + (t + 1))) ≤ 0 then q else p + 3) lt st := by
  have hc := h
  obtain ⟨h1, h2, h3, h4, h5, hfr, h7, h8, h9, h10, h11, h12⟩ := h
  have hl : p + 3 ≤ uLen μ := by rw [hop] at h12; exact h12
  have hl2 := h10.1
  have hd := hfr.drop (t' := t) (by omega)
  obtain ⟨a1, a2, a3, a4, a5, a6, a7, a8, a9⟩ := hfr
  have u0 := (a9 (t + 1) (by omega)).2.2.2
  rw [s0] at u0
  have n0 := u0.num (Or.inl rfl)
  have u1 := (a9 (t) (by omega)).2.2.2
  rw [s1] at u1
  have n1 := u1.num (Or.inl rfl)
  have hp := hd.go (if ¬ lg_cmp (M.2 45 (12 * f + t)) (M.2 45 (12 * f + (t + 1))) ≤ 0 then q else p + 3)
  refine ⟨_, _, fun M0 => ?_, fun C0 r0 => ?_, hp, zTop.rf.i2.i2, zTopM.rf.d.go⟩
  · have e0 : mX1_opcode N (b + (3 * f + 27)) (zc w b C M0 r) = some (zc w b C M0 r, 163) := ze_step0 (N := N) (w := w) hc hop M0
    have g0 : mX1_number N (b + (3 * f + 27)) 0 (zc w b C M0 r) = some (zc w b C M0 r, M.2 45 (12 * f + (t + 1))) := by
      have := zf_number (N := N) (w := w) (b := b) (r := r) (k := 0) h1 a1 a3 (by omega) M0
      rw [show 15 + (t + 2) - 0 = 16 + (t + 1) by omega, n0.1] at this; exact this
    have g1 : mX1_number N (b + (3 * f + 27)) 1 (zc w b C M0 r) = some (zc w b C M0 r, M.2 45 (12 * f + (t))) := by
      have := zf_number (N := N) (w := w) (b := b) (r := r) (k := 1) h1 a1 a3 (by omega) M0
      rw [show 15 + (t + 2) - 1 = 16 + (t) by omega, n1.1] at this; exact this
    have e3 : mX1_drop N (b + (3 * f + 27)) 2 (zc w b C M0 r) = some (zc w b (zI C (f + 100) 2 (Int32.ofNat (16 + t))) M0 r) := zf_drop (N := N) (w := w) (b := b) (r := r) (t := t + 2) (k := 2) h1 a1 a3 (by omega) M0
    have k1 : (zI C (f + 100) 2 (Int32.ofNat (16 + t))).2.2 15 5 = .ref (b + (3 * f + 27)) := h2
    have ep : mX1_pair N (b + (3 * f + 27)) (zc w b (zI C (f + 100) 2 (Int32.ofNat (16 + t))) M0 r) = some (zc w b (zI C (f + 100) 2 (Int32.ofNat (16 + t))) M0 r, Int32.ofInt (zsg (uC μ (p + 1)) * 256 + uC μ (p + 2))) := ze_pair (N := N) (w := w) (b := b) (C := (zI C (f + 100) 2 (Int32.ofNat (16 + t)))) h1 h8 h10 a6 (zp4_I2.trans a4) (by omega) M0
    have ej : mX4_goOn N (b + 15) (Int32.ofInt (zsg (uC μ (p + 1)) * 256 + uC μ (p + 2))) (zc w b (zI C (f + 100) 2 (Int32.ofNat (16 + t))) M0 r) = some (zc w b (zI (zI C (f + 100) 2 (Int32.ofNat (16 + t))) (f + 100) 4 (Int32.ofNat q)) M0 r, 0) := zf_goOnI (C := (zI C (f + 100) 2 (Int32.ofNat (16 + t)))) (p := p) h1 h2 (zp4_I2.trans a4) (by unfold zto at hq; omega) M0
    have en : mX4_goOn N (b + 15) 3 (zc w b (zI C (f + 100) 2 (Int32.ofNat (16 + t))) M0 r) = some (zc w b (zI (zI C (f + 100) 2 (Int32.ofNat (16 + t))) (f + 100) 4 (Int32.ofNat (p + 3))) M0 r, 0) := zf_goOn (C := (zI C (f + 100) 2 (Int32.ofNat (16 + t)))) (n := 3) (p := p) h1 h2 (zp4_I2.trans a4) M0
    by_cases c : ¬ lg_cmp (M.2 45 (12 * f + t)) (M.2 45 (12 * f + (t + 1))) ≤ 0
    · rw [if_pos c]
      simp (decide := true) only [mX4_step_107, mX4_step_249, mX4_step_0, mX4_step, mX4_branch_201, mX4_branch_177, mX4_branch_174, mX4_branch_166, mX4_branch_154, mX4_branch_132, mX4_branch_124, mX4_branch_112, mX4_branch_0, mX4_branch, e0, zqg_15_5 h2, zqkF h1, id, zqk_15, zqg_15_5 k1, g0, g1, e3, ep, ej, en, qX4_holds, pX4_holds, pX4_holds_47, pX4_holds_59, pX4_holds_71, pX4_holds_83, pX4_holds_95, pX4_holds_107, pX4_holds_0, c, Option.map_some, Int32.reduceLT, Int32.reduceLE, Int32.reduceAdd, Int32.reduceSub, Int32.reduceMul, Int32.reduceDiv, Int32.reduceMod, ↓reduceIte, Option.bind_some]
    · rw [if_neg c]
      have c := Decidable.not_not.mp c
      simp (decide := true) only [mX4_step_107, mX4_step_249, mX4_step_0, mX4_step, mX4_branch_201, mX4_branch_177, mX4_branch_174, mX4_branch_166, mX4_branch_154, mX4_branch_132, mX4_branch_124, mX4_branch_112, mX4_branch_0, mX4_branch, e0, zqg_15_5 h2, zqkF h1, id, zqk_15, zqg_15_5 k1, g0, g1, e3, ep, ej, en, qX4_holds, pX4_holds, pX4_holds_47, pX4_holds_59, pX4_holds_71, pX4_holds_83, pX4_holds_95, pX4_holds_107, pX4_holds_0, c, Option.map_some, Int32.reduceLT, Int32.reduceLE, Int32.reduceAdd, Int32.reduceSub, Int32.reduceMul, Int32.reduceDiv, Int32.reduceMod, ↓reduceIte, Option.bind_some]
  · have f0 : mX9_step N (b + 75) (zc w b C0 M r0) = mX9_step_74 N (b + 75) (Int32.ofNat f) (Int32.ofNat m) (Int32.ofNat p) 163 3 (Int32.ofNat (uC μ (p + 1))) (Int32.ofNat (uC μ (p + 2))) (zc w b C0 M r0) := zn_step (N := N) (w := w) hc hop (n := 3) rfl rfl rfl C0 r0
    refine f0.trans ?_
    have f1 : mX9_popValue N (b + 75) (zc w b C0 M r0) = some (zc w b C0 (zMD M f (t + 1)) r0, M.2 45 (12 * f + (t + 1))) := by
      have := zn_pop (N := N) (w := w) (b := b) (M := M) (t := t + 1) h1 h3 a2 (by omega) C0 r0
      exact this
    have f2 : mX9_popValue N (b + 75) (zc w b C0 (zMD M f (t + 1)) r0) = some (zc w b C0 (zMD M f (t)) r0, M.2 45 (12 * f + (t))) := by
      have := zn_pop (N := N) (w := w) (b := b) (M := (zMD M f (t + 1))) (t := t) h1 h3 zmd42 (by omega) C0 r0
      rw [zMDD] at this; exact this
    have ft : mX9_to N (b + 75) (Int32.ofNat m) (Int32.ofNat p) (zc w b C0 (zMD M f (t)) r0) = some (zc w b C0 (zMD M f (t)) r0, Int32.ofNat q) := zn_to (M := (zMD M f (t))) h7 (show zMt (zMD M f (t)) m μ from zMt.md h9) h10 (by omega) hq C0 r0
    have fs : ∀ v, zm_sI (zc w b C0 (zMD M f (t)) r0) (b + 106) (Int32.ofNat f) v = some (zc w b C0 (zJ (zMD M f (t)) 41 f v) r0) := fun v => zqs_106 h1
    have fn : Int32.ofNat p + 3 = Int32.ofNat (p + 3) := zi_add p 3
    by_cases c : ¬ lg_cmp (M.2 45 (12 * f + t)) (M.2 45 (12 * f + (t + 1))) ≤ 0
    · rw [if_pos c]
      simp (decide := true) only [mX9_step_74, mX9_goes_130, mX9_goes_108, mX9_goes_96, mX9_goes_70, mX9_goes_62, mX9_goes_50, mX9_goes_0, mX9_goes, mX9_step_245, mX9_step_272, zqk_75, zqg_75_41, id, f1, f2, ft, fs, fn, qX9_holds, pX9_holds, pX9_holds_105, pX9_holds_0, c, Option.map_some, Int32.reduceLT, Int32.reduceLE, Int32.reduceAdd, Int32.reduceSub, Int32.reduceMul, Int32.reduceDiv, Int32.reduceMod, ↓reduceIte, Option.bind_some]
    · rw [if_neg c]
      have c := Decidable.not_not.mp c
      simp (decide := true) only [mX9_step_74, mX9_goes_130, mX9_goes_108, mX9_goes_96, mX9_goes_70, mX9_goes_62, mX9_goes_50, mX9_goes_0, mX9_goes, mX9_step_245, mX9_step_272, zqk_75, zqg_75_41, id, f1, f2, ft, fs, fn, qX9_holds, pX9_holds, pX9_holds_105, pX9_holds_0, c, Option.map_some, Int32.reduceLT, Int32.reduceLE, Int32.reduceAdd, Int32.reduceSub, Int32.reduceMul, Int32.reduceDiv, Int32.reduceMod, ↓reduceIte, Option.bind_some]

theorem zo_164 (h : zCur b K D C M r ra f (t + 2) p m lt st μ) (hop : uC μ p = 164) (s0 : st (t + 1) = 1) (s1 : st (t) = 1) {q : Nat} (hq : zto p (uC μ (p + 1)) (uC μ (p + 2)) = (q : Int)) : zQ w b N D C M r ra f m t (if ¬ 0 < lg_cmp (M.2 45 (12 * f + t)) (M.2 45 (12 * f + (t + 1))) then q else p + 3) lt st := by
  have hc := h
  obtain ⟨h1, h2, h3, h4, h5, hfr, h7, h8, h9, h10, h11, h12⟩ := h
  have hl : p + 3 ≤ uLen μ := by rw [hop] at h12; exact h12
  have hl2 := h10.1
  have hd := hfr.drop (t' := t) (by omega)
  obtain ⟨a1, a2, a3, a4, a5, a6, a7, a8, a9⟩ := hfr
  have u0 := (a9 (t + 1) (by omega)).2.2.2
  rw [s0] at u0
  have n0 := u0.num (Or.inl rfl)
  have u1 := (a9 (t) (by omega)).2.2.2
  rw [s1] at u1
  have n1 := u1.num (Or.inl rfl)
  have hp := hd.go (if ¬ 0 < lg_cmp (M.2 45 (12 * f + t)) (M.2 45 (12 * f + (t + 1))) then q else p + 3)
  refine ⟨_, _, fun M0 => ?_, fun C0 r0 => ?_, hp, zTop.rf.i2.i2, zTopM.rf.d.go⟩
  · have e0 : mX1_opcode N (b + (3 * f + 27)) (zc w b C M0 r) = some (zc w b C M0 r, 164) := ze_step0 (N := N) (w := w) hc hop M0
    have g0 : mX1_number N (b + (3 * f + 27)) 0 (zc w b C M0 r) = some (zc w b C M0 r, M.2 45 (12 * f + (t + 1))) := by
      have := zf_number (N := N) (w := w) (b := b) (r := r) (k := 0) h1 a1 a3 (by omega) M0
      rw [show 15 + (t + 2) - 0 = 16 + (t + 1) by omega, n0.1] at this; exact this
    have g1 : mX1_number N (b + (3 * f + 27)) 1 (zc w b C M0 r) = some (zc w b C M0 r, M.2 45 (12 * f + (t))) := by
      have := zf_number (N := N) (w := w) (b := b) (r := r) (k := 1) h1 a1 a3 (by omega) M0
      rw [show 15 + (t + 2) - 1 = 16 + (t) by omega, n1.1] at this; exact this
    have e3 : mX1_drop N (b + (3 * f + 27)) 2 (zc w b C M0 r) = some (zc w b (zI C (f + 100) 2 (Int32.ofNat (16 + t))) M0 r) := zf_drop (N := N) (w := w) (b := b) (r := r) (t := t + 2) (k := 2) h1 a1 a3 (by omega) M0
    have k1 : (zI C (f + 100) 2 (Int32.ofNat (16 + t))).2.2 15 5 = .ref (b + (3 * f + 27)) := h2
    have ep : mX1_pair N (b + (3 * f + 27)) (zc w b (zI C (f + 100) 2 (Int32.ofNat (16 + t))) M0 r) = some (zc w b (zI C (f + 100) 2 (Int32.ofNat (16 + t))) M0 r, Int32.ofInt (zsg (uC μ (p + 1)) * 256 + uC μ (p + 2))) := ze_pair (N := N) (w := w) (b := b) (C := (zI C (f + 100) 2 (Int32.ofNat (16 + t)))) h1 h8 h10 a6 (zp4_I2.trans a4) (by omega) M0
    have ej : mX4_goOn N (b + 15) (Int32.ofInt (zsg (uC μ (p + 1)) * 256 + uC μ (p + 2))) (zc w b (zI C (f + 100) 2 (Int32.ofNat (16 + t))) M0 r) = some (zc w b (zI (zI C (f + 100) 2 (Int32.ofNat (16 + t))) (f + 100) 4 (Int32.ofNat q)) M0 r, 0) := zf_goOnI (C := (zI C (f + 100) 2 (Int32.ofNat (16 + t)))) (p := p) h1 h2 (zp4_I2.trans a4) (by unfold zto at hq; omega) M0
    have en : mX4_goOn N (b + 15) 3 (zc w b (zI C (f + 100) 2 (Int32.ofNat (16 + t))) M0 r) = some (zc w b (zI (zI C (f + 100) 2 (Int32.ofNat (16 + t))) (f + 100) 4 (Int32.ofNat (p + 3))) M0 r, 0) := zf_goOn (C := (zI C (f + 100) 2 (Int32.ofNat (16 + t)))) (n := 3) (p := p) h1 h2 (zp4_I2.trans a4) M0
    by_cases c : ¬ 0 < lg_cmp (M.2 45 (12 * f + t)) (M.2 45 (12 * f + (t + 1)))
    · rw [if_pos c]
      simp (decide := true) only [mX4_step_107, mX4_step_249, mX4_step_0, mX4_step, mX4_branch_201, mX4_branch_177, mX4_branch_174, mX4_branch_166, mX4_branch_154, mX4_branch_132, mX4_branch_124, mX4_branch_112, mX4_branch_0, mX4_branch, e0, zqg_15_5 h2, zqkF h1, id, zqk_15, zqg_15_5 k1, g0, g1, e3, ep, ej, en, qX4_holds, pX4_holds, pX4_holds_47, pX4_holds_59, pX4_holds_71, pX4_holds_83, pX4_holds_95, pX4_holds_107, pX4_holds_0, c, Option.map_some, Int32.reduceLT, Int32.reduceLE, Int32.reduceAdd, Int32.reduceSub, Int32.reduceMul, Int32.reduceDiv, Int32.reduceMod, ↓reduceIte, Option.bind_some]
    · rw [if_neg c]
      have c := Decidable.not_not.mp c
      simp (decide := true) only [mX4_step_107, mX4_step_249, mX4_step_0, mX4_step, mX4_branch_201, mX4_branch_177, mX4_branch_174, mX4_branch_166, mX4_branch_154, mX4_branch_132, mX4_branch_124, mX4_branch_112, mX4_branch_0, mX4_branch, e0, zqg_15_5 h2, zqkF h1, id, zqk_15, zqg_15_5 k1, g0, g1, e3, ep, ej, en, qX4_holds, pX4_holds, pX4_holds_47, pX4_holds_59, pX4_holds_71, pX4_holds_83, pX4_holds_95, pX4_holds_107, pX4_holds_0, c, Option.map_some, Int32.reduceLT, Int32.reduceLE, Int32.reduceAdd, Int32.reduceSub, Int32.reduceMul, Int32.reduceDiv, Int32.reduceMod, ↓reduceIte, Option.bind_some]
  · have f0 : mX9_step N (b + 75) (zc w b C0 M r0) = mX9_step_74 N (b + 75) (Int32.ofNat f) (Int32.ofNat m) (Int32.ofNat p) 164 3 (Int32.ofNat (uC μ (p + 1))) (Int32.ofNat (uC μ (p + 2))) (zc w b C0 M r0) := zn_step (N := N) (w := w) hc hop (n := 3) rfl rfl rfl C0 r0
    refine f0.trans ?_
    have f1 : mX9_popValue N (b + 75) (zc w b C0 M r0) = some (zc w b C0 (zMD M f (t + 1)) r0, M.2 45 (12 * f + (t + 1))) := by
      have := zn_pop (N := N) (w := w) (b := b) (M := M) (t := t + 1) h1 h3 a2 (by omega) C0 r0
      exact this
    have f2 : mX9_popValue N (b + 75) (zc w b C0 (zMD M f (t + 1)) r0) = some (zc w b C0 (zMD M f (t)) r0, M.2 45 (12 * f + (t))) := by
      have := zn_pop (N := N) (w := w) (b := b) (M := (zMD M f (t + 1))) (t := t) h1 h3 zmd42 (by omega) C0 r0
      rw [zMDD] at this; exact this
    have ft : mX9_to N (b + 75) (Int32.ofNat m) (Int32.ofNat p) (zc w b C0 (zMD M f (t)) r0) = some (zc w b C0 (zMD M f (t)) r0, Int32.ofNat q) := zn_to (M := (zMD M f (t))) h7 (show zMt (zMD M f (t)) m μ from zMt.md h9) h10 (by omega) hq C0 r0
    have fs : ∀ v, zm_sI (zc w b C0 (zMD M f (t)) r0) (b + 106) (Int32.ofNat f) v = some (zc w b C0 (zJ (zMD M f (t)) 41 f v) r0) := fun v => zqs_106 h1
    have fn : Int32.ofNat p + 3 = Int32.ofNat (p + 3) := zi_add p 3
    by_cases c : ¬ 0 < lg_cmp (M.2 45 (12 * f + t)) (M.2 45 (12 * f + (t + 1)))
    · rw [if_pos c]
      simp (decide := true) only [mX9_step_74, mX9_goes_130, mX9_goes_108, mX9_goes_96, mX9_goes_70, mX9_goes_62, mX9_goes_50, mX9_goes_0, mX9_goes, mX9_step_245, mX9_step_272, zqk_75, zqg_75_41, id, f1, f2, ft, fs, fn, qX9_holds, pX9_holds, pX9_holds_105, pX9_holds_0, c, Option.map_some, Int32.reduceLT, Int32.reduceLE, Int32.reduceAdd, Int32.reduceSub, Int32.reduceMul, Int32.reduceDiv, Int32.reduceMod, ↓reduceIte, Option.bind_some]
    · rw [if_neg c]
      have c := Decidable.not_not.mp c
      simp (decide := true) only [mX9_step_74, mX9_goes_130, mX9_goes_108, mX9_goes_96, mX9_goes_70, mX9_goes_62, mX9_goes_50, mX9_goes_0, mX9_goes, mX9_step_245, mX9_step_272, zqk_75, zqg_75_41, id, f1, f2, ft, fs, fn, qX9_holds, pX9_holds, pX9_holds_105, pX9_holds_0, c, Option.map_some, Int32.reduceLT, Int32.reduceLE, Int32.reduceAdd, Int32.reduceSub, Int32.reduceMul, Int32.reduceDiv, Int32.reduceMod, ↓reduceIte, Option.bind_some]

theorem zo_165 (h : zCur b K D C M r ra f (t + 2) p m lt st μ) (hop : uC μ p = 165) (s0 : st (t + 1) = 3) (s1 : st (t) = 3) (hD : zDok D) {q : Nat} (hq : zto p (uC μ (p + 1)) (uC μ (p + 2)) = (q : Int)) : zQ w b N D C M r ra f m t (if (M.2 45 (12 * f + t)) = (M.2 45 (12 * f + (t + 1))) then q else p + 3) lt st := by
  have hc := h
  obtain ⟨h1, h2, h3, h4, h5, hfr, h7, h8, h9, h10, h11, h12⟩ := h
  have hl : p + 3 ≤ uLen μ := by rw [hop] at h12; exact h12
  have hl2 := h10.1
  have hd := hfr.drop (t' := t) (by omega)
  obtain ⟨a1, a2, a3, a4, a5, a6, a7, a8, a9⟩ := hfr
  have u0 := (a9 (t + 1) (by omega)).2.2.2
  rw [s0] at u0
  have n0 := u0.ref
  have u1 := (a9 (t) (by omega)).2.2.2
  rw [s1] at u1
  have n1 := u1.ref
  have hp := hd.go (if (M.2 45 (12 * f + t)) = (M.2 45 (12 * f + (t + 1))) then q else p + 3)
  refine ⟨_, _, fun M0 => ?_, fun C0 r0 => ?_, hp, zTop.rf.i2.i2, zTopM.rf.d.go⟩
  · have e0 : mX1_opcode N (b + (3 * f + 27)) (zc w b C M0 r) = some (zc w b C M0 r, 165) := ze_step0 (N := N) (w := w) hc hop M0
    have g0 : mX1_reference N (b + (3 * f + 27)) 0 (zc w b C M0 r) = some (zc w b C M0 r, C.1 (f + 140) (16 + (t + 1))) := by
      have := zf_reference (N := N) (w := w) (b := b) (r := r) (k := 0) h1 a1 a3 (by omega) M0
      rw [show 15 + (t + 2) - 0 = 16 + (t + 1) by omega] at this; exact this
    have g1 : mX1_reference N (b + (3 * f + 27)) 1 (zc w b C M0 r) = some (zc w b C M0 r, C.1 (f + 140) (16 + (t))) := by
      have := zf_reference (N := N) (w := w) (b := b) (r := r) (k := 1) h1 a1 a3 (by omega) M0
      rw [show 15 + (t + 2) - 1 = 16 + (t) by omega] at this; exact this
    have e3 : mX1_drop N (b + (3 * f + 27)) 2 (zc w b C M0 r) = some (zc w b (zI C (f + 100) 2 (Int32.ofNat (16 + t))) M0 r) := zf_drop (N := N) (w := w) (b := b) (r := r) (t := t + 2) (k := 2) h1 a1 a3 (by omega) M0
    have k1 : (zI C (f + 100) 2 (Int32.ofNat (16 + t))).2.2 15 5 = .ref (b + (3 * f + 27)) := h2
    have ep : mX1_pair N (b + (3 * f + 27)) (zc w b (zI C (f + 100) 2 (Int32.ofNat (16 + t))) M0 r) = some (zc w b (zI C (f + 100) 2 (Int32.ofNat (16 + t))) M0 r, Int32.ofInt (zsg (uC μ (p + 1)) * 256 + uC μ (p + 2))) := ze_pair (N := N) (w := w) (b := b) (C := (zI C (f + 100) 2 (Int32.ofNat (16 + t)))) h1 h8 h10 a6 (zp4_I2.trans a4) (by omega) M0
    have ej : mX4_goOn N (b + 15) (Int32.ofInt (zsg (uC μ (p + 1)) * 256 + uC μ (p + 2))) (zc w b (zI C (f + 100) 2 (Int32.ofNat (16 + t))) M0 r) = some (zc w b (zI (zI C (f + 100) 2 (Int32.ofNat (16 + t))) (f + 100) 4 (Int32.ofNat q)) M0 r, 0) := zf_goOnI (C := (zI C (f + 100) 2 (Int32.ofNat (16 + t)))) (p := p) h1 h2 (zp4_I2.trans a4) (by unfold zto at hq; omega) M0
    have en : mX4_goOn N (b + 15) 3 (zc w b (zI C (f + 100) 2 (Int32.ofNat (16 + t))) M0 r) = some (zc w b (zI (zI C (f + 100) 2 (Int32.ofNat (16 + t))) (f + 100) 4 (Int32.ofNat (p + 3))) M0 r, 0) := zf_goOn (C := (zI C (f + 100) 2 (Int32.ofNat (16 + t)))) (n := 3) (p := p) h1 h2 (zp4_I2.trans a4) M0
    by_cases c : (M.2 45 (12 * f + t)) = (M.2 45 (12 * f + (t + 1)))
    · rw [if_pos c]
      have c2 : C.1 (f + 140) (16 + (t + 1)) = C.1 (f + 140) (16 + (t)) := (zRf.e hD n0 n1).mpr c.symm
      simp (decide := true) only [mX4_step_107, mX4_step_249, mX4_step_0, mX4_step, mX4_branch_201, mX4_branch_177, mX4_branch_174, mX4_branch_166, mX4_branch_154, mX4_branch_132, mX4_branch_124, mX4_branch_112, mX4_branch_0, mX4_branch, e0, zqg_15_5 h2, zqkF h1, id, zqk_15, zqg_15_5 k1, g0, g1, e3, ep, ej, en, c2, Option.map_some, Int32.reduceLT, Int32.reduceLE, Int32.reduceAdd, Int32.reduceSub, Int32.reduceMul, Int32.reduceDiv, Int32.reduceMod, ↓reduceIte, Option.bind_some]
    · rw [if_neg c]
      have c2 : ¬ C.1 (f + 140) (16 + (t + 1)) = C.1 (f + 140) (16 + (t)) := fun e => c ((zRf.e hD n0 n1).mp e).symm
      simp (decide := true) only [mX4_step_107, mX4_step_249, mX4_step_0, mX4_step, mX4_branch_201, mX4_branch_177, mX4_branch_174, mX4_branch_166, mX4_branch_154, mX4_branch_132, mX4_branch_124, mX4_branch_112, mX4_branch_0, mX4_branch, e0, zqg_15_5 h2, zqkF h1, id, zqk_15, zqg_15_5 k1, g0, g1, e3, ep, ej, en, c2, Option.map_some, Int32.reduceLT, Int32.reduceLE, Int32.reduceAdd, Int32.reduceSub, Int32.reduceMul, Int32.reduceDiv, Int32.reduceMod, ↓reduceIte, Option.bind_some]
  · have f0 : mX9_step N (b + 75) (zc w b C0 M r0) = mX9_step_74 N (b + 75) (Int32.ofNat f) (Int32.ofNat m) (Int32.ofNat p) 165 3 (Int32.ofNat (uC μ (p + 1))) (Int32.ofNat (uC μ (p + 2))) (zc w b C0 M r0) := zn_step (N := N) (w := w) hc hop (n := 3) rfl rfl rfl C0 r0
    refine f0.trans ?_
    have f1 : mX9_popValue N (b + 75) (zc w b C0 M r0) = some (zc w b C0 (zMD M f (t + 1)) r0, M.2 45 (12 * f + (t + 1))) := by
      have := zn_pop (N := N) (w := w) (b := b) (M := M) (t := t + 1) h1 h3 a2 (by omega) C0 r0
      exact this
    have f2 : mX9_popValue N (b + 75) (zc w b C0 (zMD M f (t + 1)) r0) = some (zc w b C0 (zMD M f (t)) r0, M.2 45 (12 * f + (t))) := by
      have := zn_pop (N := N) (w := w) (b := b) (M := (zMD M f (t + 1))) (t := t) h1 h3 zmd42 (by omega) C0 r0
      rw [zMDD] at this; exact this
    have ft : mX9_to N (b + 75) (Int32.ofNat m) (Int32.ofNat p) (zc w b C0 (zMD M f (t)) r0) = some (zc w b C0 (zMD M f (t)) r0, Int32.ofNat q) := zn_to (M := (zMD M f (t))) h7 (show zMt (zMD M f (t)) m μ from zMt.md h9) h10 (by omega) hq C0 r0
    have fs : ∀ v, zm_sI (zc w b C0 (zMD M f (t)) r0) (b + 106) (Int32.ofNat f) v = some (zc w b C0 (zJ (zMD M f (t)) 41 f v) r0) := fun v => zqs_106 h1
    have fn : Int32.ofNat p + 3 = Int32.ofNat (p + 3) := zi_add p 3
    by_cases c : (M.2 45 (12 * f + t)) = (M.2 45 (12 * f + (t + 1)))
    · rw [if_pos c]
      have c2 : lg_cmp (M.2 45 (12 * f + t)) (M.2 45 (12 * f + (t + 1))) = 0 := zw_cmp.mpr c
      simp (decide := true) only [mX9_step_74, mX9_goes_130, mX9_goes_108, mX9_goes_96, mX9_goes_70, mX9_goes_62, mX9_goes_50, mX9_goes_0, mX9_goes, mX9_step_245, mX9_step_272, zqk_75, zqg_75_41, id, f1, f2, ft, fs, fn, c2, Option.map_some, Int32.reduceLT, Int32.reduceLE, Int32.reduceAdd, Int32.reduceSub, Int32.reduceMul, Int32.reduceDiv, Int32.reduceMod, ↓reduceIte, Option.bind_some]
    · rw [if_neg c]
      have c2 : ¬ lg_cmp (M.2 45 (12 * f + t)) (M.2 45 (12 * f + (t + 1))) = 0 := fun e => c (zw_cmp.mp e)
      simp (decide := true) only [mX9_step_74, mX9_goes_130, mX9_goes_108, mX9_goes_96, mX9_goes_70, mX9_goes_62, mX9_goes_50, mX9_goes_0, mX9_goes, mX9_step_245, mX9_step_272, zqk_75, zqg_75_41, id, f1, f2, ft, fs, fn, c2, Option.map_some, Int32.reduceLT, Int32.reduceLE, Int32.reduceAdd, Int32.reduceSub, Int32.reduceMul, Int32.reduceDiv, Int32.reduceMod, ↓reduceIte, Option.bind_some]

theorem zo_166 (h : zCur b K D C M r ra f (t + 2) p m lt st μ) (hop : uC μ p = 166) (s0 : st (t + 1) = 3) (s1 : st (t) = 3) (hD : zDok D) {q : Nat} (hq : zto p (uC μ (p + 1)) (uC μ (p + 2)) = (q : Int)) : zQ w b N D C M r ra f m t (if ¬ (M.2 45 (12 * f + t)) = (M.2 45 (12 * f + (t + 1))) then q else p + 3) lt st := by
  have hc := h
  obtain ⟨h1, h2, h3, h4, h5, hfr, h7, h8, h9, h10, h11, h12⟩ := h
  have hl : p + 3 ≤ uLen μ := by rw [hop] at h12; exact h12
  have hl2 := h10.1
  have hd := hfr.drop (t' := t) (by omega)
  obtain ⟨a1, a2, a3, a4, a5, a6, a7, a8, a9⟩ := hfr
  have u0 := (a9 (t + 1) (by omega)).2.2.2
  rw [s0] at u0
  have n0 := u0.ref
  have u1 := (a9 (t) (by omega)).2.2.2
  rw [s1] at u1
  have n1 := u1.ref
  have hp := hd.go (if ¬ (M.2 45 (12 * f + t)) = (M.2 45 (12 * f + (t + 1))) then q else p + 3)
  refine ⟨_, _, fun M0 => ?_, fun C0 r0 => ?_, hp, zTop.rf.i2.i2, zTopM.rf.d.go⟩
  · have e0 : mX1_opcode N (b + (3 * f + 27)) (zc w b C M0 r) = some (zc w b C M0 r, 166) := ze_step0 (N := N) (w := w) hc hop M0
    have g0 : mX1_reference N (b + (3 * f + 27)) 0 (zc w b C M0 r) = some (zc w b C M0 r, C.1 (f + 140) (16 + (t + 1))) := by
      have := zf_reference (N := N) (w := w) (b := b) (r := r) (k := 0) h1 a1 a3 (by omega) M0
      rw [show 15 + (t + 2) - 0 = 16 + (t + 1) by omega] at this; exact this
    have g1 : mX1_reference N (b + (3 * f + 27)) 1 (zc w b C M0 r) = some (zc w b C M0 r, C.1 (f + 140) (16 + (t))) := by
      have := zf_reference (N := N) (w := w) (b := b) (r := r) (k := 1) h1 a1 a3 (by omega) M0
      rw [show 15 + (t + 2) - 1 = 16 + (t) by omega] at this; exact this
    have e3 : mX1_drop N (b + (3 * f + 27)) 2 (zc w b C M0 r) = some (zc w b (zI C (f + 100) 2 (Int32.ofNat (16 + t))) M0 r) := zf_drop (N := N) (w := w) (b := b) (r := r) (t := t + 2) (k := 2) h1 a1 a3 (by omega) M0
    have k1 : (zI C (f + 100) 2 (Int32.ofNat (16 + t))).2.2 15 5 = .ref (b + (3 * f + 27)) := h2
    have ep : mX1_pair N (b + (3 * f + 27)) (zc w b (zI C (f + 100) 2 (Int32.ofNat (16 + t))) M0 r) = some (zc w b (zI C (f + 100) 2 (Int32.ofNat (16 + t))) M0 r, Int32.ofInt (zsg (uC μ (p + 1)) * 256 + uC μ (p + 2))) := ze_pair (N := N) (w := w) (b := b) (C := (zI C (f + 100) 2 (Int32.ofNat (16 + t)))) h1 h8 h10 a6 (zp4_I2.trans a4) (by omega) M0
    have ej : mX4_goOn N (b + 15) (Int32.ofInt (zsg (uC μ (p + 1)) * 256 + uC μ (p + 2))) (zc w b (zI C (f + 100) 2 (Int32.ofNat (16 + t))) M0 r) = some (zc w b (zI (zI C (f + 100) 2 (Int32.ofNat (16 + t))) (f + 100) 4 (Int32.ofNat q)) M0 r, 0) := zf_goOnI (C := (zI C (f + 100) 2 (Int32.ofNat (16 + t)))) (p := p) h1 h2 (zp4_I2.trans a4) (by unfold zto at hq; omega) M0
    have en : mX4_goOn N (b + 15) 3 (zc w b (zI C (f + 100) 2 (Int32.ofNat (16 + t))) M0 r) = some (zc w b (zI (zI C (f + 100) 2 (Int32.ofNat (16 + t))) (f + 100) 4 (Int32.ofNat (p + 3))) M0 r, 0) := zf_goOn (C := (zI C (f + 100) 2 (Int32.ofNat (16 + t)))) (n := 3) (p := p) h1 h2 (zp4_I2.trans a4) M0
    by_cases c : ¬ (M.2 45 (12 * f + t)) = (M.2 45 (12 * f + (t + 1)))
    · rw [if_pos c]
      have c2 : ¬ C.1 (f + 140) (16 + (t + 1)) = C.1 (f + 140) (16 + (t)) := fun e => c ((zRf.e hD n0 n1).mp e).symm
      simp (decide := true) only [mX4_step_107, mX4_step_249, mX4_step_0, mX4_step, mX4_branch_201, mX4_branch_177, mX4_branch_174, mX4_branch_166, mX4_branch_154, mX4_branch_132, mX4_branch_124, mX4_branch_112, mX4_branch_0, mX4_branch, e0, zqg_15_5 h2, zqkF h1, id, zqk_15, zqg_15_5 k1, g0, g1, e3, ep, ej, en, c2, Option.map_some, Int32.reduceLT, Int32.reduceLE, Int32.reduceAdd, Int32.reduceSub, Int32.reduceMul, Int32.reduceDiv, Int32.reduceMod, ↓reduceIte, Option.bind_some]
    · rw [if_neg c]
      have c2 : C.1 (f + 140) (16 + (t + 1)) = C.1 (f + 140) (16 + (t)) := (zRf.e hD n0 n1).mpr (Decidable.not_not.mp c).symm
      simp (decide := true) only [mX4_step_107, mX4_step_249, mX4_step_0, mX4_step, mX4_branch_201, mX4_branch_177, mX4_branch_174, mX4_branch_166, mX4_branch_154, mX4_branch_132, mX4_branch_124, mX4_branch_112, mX4_branch_0, mX4_branch, e0, zqg_15_5 h2, zqkF h1, id, zqk_15, zqg_15_5 k1, g0, g1, e3, ep, ej, en, c2, Option.map_some, Int32.reduceLT, Int32.reduceLE, Int32.reduceAdd, Int32.reduceSub, Int32.reduceMul, Int32.reduceDiv, Int32.reduceMod, ↓reduceIte, Option.bind_some]
  · have f0 : mX9_step N (b + 75) (zc w b C0 M r0) = mX9_step_74 N (b + 75) (Int32.ofNat f) (Int32.ofNat m) (Int32.ofNat p) 166 3 (Int32.ofNat (uC μ (p + 1))) (Int32.ofNat (uC μ (p + 2))) (zc w b C0 M r0) := zn_step (N := N) (w := w) hc hop (n := 3) rfl rfl rfl C0 r0
    refine f0.trans ?_
    have f1 : mX9_popValue N (b + 75) (zc w b C0 M r0) = some (zc w b C0 (zMD M f (t + 1)) r0, M.2 45 (12 * f + (t + 1))) := by
      have := zn_pop (N := N) (w := w) (b := b) (M := M) (t := t + 1) h1 h3 a2 (by omega) C0 r0
      exact this
    have f2 : mX9_popValue N (b + 75) (zc w b C0 (zMD M f (t + 1)) r0) = some (zc w b C0 (zMD M f (t)) r0, M.2 45 (12 * f + (t))) := by
      have := zn_pop (N := N) (w := w) (b := b) (M := (zMD M f (t + 1))) (t := t) h1 h3 zmd42 (by omega) C0 r0
      rw [zMDD] at this; exact this
    have ft : mX9_to N (b + 75) (Int32.ofNat m) (Int32.ofNat p) (zc w b C0 (zMD M f (t)) r0) = some (zc w b C0 (zMD M f (t)) r0, Int32.ofNat q) := zn_to (M := (zMD M f (t))) h7 (show zMt (zMD M f (t)) m μ from zMt.md h9) h10 (by omega) hq C0 r0
    have fs : ∀ v, zm_sI (zc w b C0 (zMD M f (t)) r0) (b + 106) (Int32.ofNat f) v = some (zc w b C0 (zJ (zMD M f (t)) 41 f v) r0) := fun v => zqs_106 h1
    have fn : Int32.ofNat p + 3 = Int32.ofNat (p + 3) := zi_add p 3
    by_cases c : ¬ (M.2 45 (12 * f + t)) = (M.2 45 (12 * f + (t + 1)))
    · rw [if_pos c]
      have c2 : ¬ lg_cmp (M.2 45 (12 * f + t)) (M.2 45 (12 * f + (t + 1))) = 0 := fun e => c (zw_cmp.mp e)
      simp (decide := true) only [mX9_step_74, mX9_goes_130, mX9_goes_108, mX9_goes_96, mX9_goes_70, mX9_goes_62, mX9_goes_50, mX9_goes_0, mX9_goes, mX9_step_245, mX9_step_272, zqk_75, zqg_75_41, id, f1, f2, ft, fs, fn, c2, Option.map_some, Int32.reduceLT, Int32.reduceLE, Int32.reduceAdd, Int32.reduceSub, Int32.reduceMul, Int32.reduceDiv, Int32.reduceMod, ↓reduceIte, Option.bind_some]
    · rw [if_neg c]
      have c2 : lg_cmp (M.2 45 (12 * f + t)) (M.2 45 (12 * f + (t + 1))) = 0 := zw_cmp.mpr (Decidable.not_not.mp c)
      simp (decide := true) only [mX9_step_74, mX9_goes_130, mX9_goes_108, mX9_goes_96, mX9_goes_70, mX9_goes_62, mX9_goes_50, mX9_goes_0, mX9_goes, mX9_step_245, mX9_step_272, zqk_75, zqg_75_41, id, f1, f2, ft, fs, fn, c2, Option.map_some, Int32.reduceLT, Int32.reduceLE, Int32.reduceAdd, Int32.reduceSub, Int32.reduceMul, Int32.reduceDiv, Int32.reduceMod, ↓reduceIte, Option.bind_some]

theorem zo_198 (h : zCur b K D C M r ra f (t + 1) p m lt st μ) (hop : uC μ p = 198) (s0 : st (t) = 3) (hD : zDok D) {q : Nat} (hq : zto p (uC μ (p + 1)) (uC μ (p + 2)) = (q : Int)) : zQ w b N D C M r ra f m t (if (M.2 45 (12 * f + t)) = 0 then q else p + 3) lt st := by
  have hc := h
  obtain ⟨h1, h2, h3, h4, h5, hfr, h7, h8, h9, h10, h11, h12⟩ := h
  have hl : p + 3 ≤ uLen μ := by rw [hop] at h12; exact h12
  have hl2 := h10.1
  have hd := hfr.drop (t' := t) (by omega)
  obtain ⟨a1, a2, a3, a4, a5, a6, a7, a8, a9⟩ := hfr
  have u0 := (a9 (t) (by omega)).2.2.2
  rw [s0] at u0
  have n0 := u0.ref
  have hp := hd.go (if (M.2 45 (12 * f + t)) = 0 then q else p + 3)
  refine ⟨_, _, fun M0 => ?_, fun C0 r0 => ?_, hp, zTop.rf.i2.i2, zTopM.rf.d.go⟩
  · have e0 : mX1_opcode N (b + (3 * f + 27)) (zc w b C M0 r) = some (zc w b C M0 r, 198) := ze_step0 (N := N) (w := w) hc hop M0
    have g0 : mX1_reference N (b + (3 * f + 27)) 0 (zc w b C M0 r) = some (zc w b C M0 r, C.1 (f + 140) (16 + (t))) := by
      have := zf_reference (N := N) (w := w) (b := b) (r := r) (k := 0) h1 a1 a3 (by omega) M0
      rw [show 15 + (t + 1) - 0 = 16 + (t) by omega] at this; exact this
    have e3 : mX1_drop N (b + (3 * f + 27)) 1 (zc w b C M0 r) = some (zc w b (zI C (f + 100) 2 (Int32.ofNat (16 + t))) M0 r) := zf_drop (N := N) (w := w) (b := b) (r := r) (t := t + 1) (k := 1) h1 a1 a3 (by omega) M0
    have k1 : (zI C (f + 100) 2 (Int32.ofNat (16 + t))).2.2 15 5 = .ref (b + (3 * f + 27)) := h2
    have ep : mX1_pair N (b + (3 * f + 27)) (zc w b (zI C (f + 100) 2 (Int32.ofNat (16 + t))) M0 r) = some (zc w b (zI C (f + 100) 2 (Int32.ofNat (16 + t))) M0 r, Int32.ofInt (zsg (uC μ (p + 1)) * 256 + uC μ (p + 2))) := ze_pair (N := N) (w := w) (b := b) (C := (zI C (f + 100) 2 (Int32.ofNat (16 + t)))) h1 h8 h10 a6 (zp4_I2.trans a4) (by omega) M0
    have ej : mX4_goOn N (b + 15) (Int32.ofInt (zsg (uC μ (p + 1)) * 256 + uC μ (p + 2))) (zc w b (zI C (f + 100) 2 (Int32.ofNat (16 + t))) M0 r) = some (zc w b (zI (zI C (f + 100) 2 (Int32.ofNat (16 + t))) (f + 100) 4 (Int32.ofNat q)) M0 r, 0) := zf_goOnI (C := (zI C (f + 100) 2 (Int32.ofNat (16 + t)))) (p := p) h1 h2 (zp4_I2.trans a4) (by unfold zto at hq; omega) M0
    have en : mX4_goOn N (b + 15) 3 (zc w b (zI C (f + 100) 2 (Int32.ofNat (16 + t))) M0 r) = some (zc w b (zI (zI C (f + 100) 2 (Int32.ofNat (16 + t))) (f + 100) 4 (Int32.ofNat (p + 3))) M0 r, 0) := zf_goOn (C := (zI C (f + 100) 2 (Int32.ofNat (16 + t)))) (n := 3) (p := p) h1 h2 (zp4_I2.trans a4) M0
    by_cases c : (M.2 45 (12 * f + t)) = 0
    · rw [if_pos c]
      have c2 : C.1 (f + 140) (16 + (t)) = 0 := (zRf.z hD n0).mpr c
      simp (decide := true) only [mX4_step_107, mX4_step_249, mX4_step_0, mX4_step, mX4_branch_201, mX4_branch_177, mX4_branch_174, mX4_branch_166, mX4_branch_154, mX4_branch_132, mX4_branch_124, mX4_branch_112, mX4_branch_0, mX4_branch, e0, zqg_15_5 h2, zqkF h1, id, zqk_15, zqg_15_5 k1, g0, e3, ep, ej, en, c2, Option.map_some, Int32.reduceLT, Int32.reduceLE, Int32.reduceAdd, Int32.reduceSub, Int32.reduceMul, Int32.reduceDiv, Int32.reduceMod, ↓reduceIte, Option.bind_some]
    · rw [if_neg c]
      have c2 : ¬ C.1 (f + 140) (16 + (t)) = 0 := fun e => c ((zRf.z hD n0).mp e)
      simp (decide := true) only [mX4_step_107, mX4_step_249, mX4_step_0, mX4_step, mX4_branch_201, mX4_branch_177, mX4_branch_174, mX4_branch_166, mX4_branch_154, mX4_branch_132, mX4_branch_124, mX4_branch_112, mX4_branch_0, mX4_branch, e0, zqg_15_5 h2, zqkF h1, id, zqk_15, zqg_15_5 k1, g0, e3, ep, ej, en, c2, Option.map_some, Int32.reduceLT, Int32.reduceLE, Int32.reduceAdd, Int32.reduceSub, Int32.reduceMul, Int32.reduceDiv, Int32.reduceMod, ↓reduceIte, Option.bind_some]
  · have f0 : mX9_step N (b + 75) (zc w b C0 M r0) = mX9_step_74 N (b + 75) (Int32.ofNat f) (Int32.ofNat m) (Int32.ofNat p) 198 3 (Int32.ofNat (uC μ (p + 1))) (Int32.ofNat (uC μ (p + 2))) (zc w b C0 M r0) := zn_step (N := N) (w := w) hc hop (n := 3) rfl rfl rfl C0 r0
    refine f0.trans ?_
    have f1 : mX9_popValue N (b + 75) (zc w b C0 M r0) = some (zc w b C0 (zMD M f (t)) r0, M.2 45 (12 * f + (t))) := by
      have := zn_pop (N := N) (w := w) (b := b) (M := M) (t := t) h1 h3 a2 (by omega) C0 r0
      exact this
    have ft : mX9_to N (b + 75) (Int32.ofNat m) (Int32.ofNat p) (zc w b C0 (zMD M f (t)) r0) = some (zc w b C0 (zMD M f (t)) r0, Int32.ofNat q) := zn_to (M := (zMD M f (t))) h7 (show zMt (zMD M f (t)) m μ from zMt.md h9) h10 (by omega) hq C0 r0
    have fs : ∀ v, zm_sI (zc w b C0 (zMD M f (t)) r0) (b + 106) (Int32.ofNat f) v = some (zc w b C0 (zJ (zMD M f (t)) 41 f v) r0) := fun v => zqs_106 h1
    have fn : Int32.ofNat p + 3 = Int32.ofNat (p + 3) := zi_add p 3
    by_cases c : (M.2 45 (12 * f + t)) = 0
    · rw [if_pos c]
      have c2 : lg_cmp (M.2 45 (12 * f + t)) 0 = 0 := zw_cmp.mpr c
      simp (decide := true) only [mX9_step_74, mX9_goes_130, mX9_goes_108, mX9_goes_96, mX9_goes_70, mX9_goes_62, mX9_goes_50, mX9_goes_0, mX9_goes, mX9_step_245, mX9_step_272, zqk_75, zqg_75_41, id, f1, ft, fs, fn, c2, Option.map_some, Int32.reduceLT, Int32.reduceLE, Int32.reduceAdd, Int32.reduceSub, Int32.reduceMul, Int32.reduceDiv, Int32.reduceMod, ↓reduceIte, Option.bind_some]
    · rw [if_neg c]
      have c2 : ¬ lg_cmp (M.2 45 (12 * f + t)) 0 = 0 := fun e => c (zw_cmp.mp e)
      simp (decide := true) only [mX9_step_74, mX9_goes_130, mX9_goes_108, mX9_goes_96, mX9_goes_70, mX9_goes_62, mX9_goes_50, mX9_goes_0, mX9_goes, mX9_step_245, mX9_step_272, zqk_75, zqg_75_41, id, f1, ft, fs, fn, c2, Option.map_some, Int32.reduceLT, Int32.reduceLE, Int32.reduceAdd, Int32.reduceSub, Int32.reduceMul, Int32.reduceDiv, Int32.reduceMod, ↓reduceIte, Option.bind_some]

theorem zo_199 (h : zCur b K D C M r ra f (t + 1) p m lt st μ) (hop : uC μ p = 199) (s0 : st (t) = 3) (hD : zDok D) {q : Nat} (hq : zto p (uC μ (p + 1)) (uC μ (p + 2)) = (q : Int)) : zQ w b N D C M r ra f m t (if ¬ (M.2 45 (12 * f + t)) = 0 then q else p + 3) lt st := by
  have hc := h
  obtain ⟨h1, h2, h3, h4, h5, hfr, h7, h8, h9, h10, h11, h12⟩ := h
  have hl : p + 3 ≤ uLen μ := by rw [hop] at h12; exact h12
  have hl2 := h10.1
  have hd := hfr.drop (t' := t) (by omega)
  obtain ⟨a1, a2, a3, a4, a5, a6, a7, a8, a9⟩ := hfr
  have u0 := (a9 (t) (by omega)).2.2.2
  rw [s0] at u0
  have n0 := u0.ref
  have hp := hd.go (if ¬ (M.2 45 (12 * f + t)) = 0 then q else p + 3)
  refine ⟨_, _, fun M0 => ?_, fun C0 r0 => ?_, hp, zTop.rf.i2.i2, zTopM.rf.d.go⟩
  · have e0 : mX1_opcode N (b + (3 * f + 27)) (zc w b C M0 r) = some (zc w b C M0 r, 199) := ze_step0 (N := N) (w := w) hc hop M0
    have g0 : mX1_reference N (b + (3 * f + 27)) 0 (zc w b C M0 r) = some (zc w b C M0 r, C.1 (f + 140) (16 + (t))) := by
      have := zf_reference (N := N) (w := w) (b := b) (r := r) (k := 0) h1 a1 a3 (by omega) M0
      rw [show 15 + (t + 1) - 0 = 16 + (t) by omega] at this; exact this
    have e3 : mX1_drop N (b + (3 * f + 27)) 1 (zc w b C M0 r) = some (zc w b (zI C (f + 100) 2 (Int32.ofNat (16 + t))) M0 r) := zf_drop (N := N) (w := w) (b := b) (r := r) (t := t + 1) (k := 1) h1 a1 a3 (by omega) M0
    have k1 : (zI C (f + 100) 2 (Int32.ofNat (16 + t))).2.2 15 5 = .ref (b + (3 * f + 27)) := h2
    have ep : mX1_pair N (b + (3 * f + 27)) (zc w b (zI C (f + 100) 2 (Int32.ofNat (16 + t))) M0 r) = some (zc w b (zI C (f + 100) 2 (Int32.ofNat (16 + t))) M0 r, Int32.ofInt (zsg (uC μ (p + 1)) * 256 + uC μ (p + 2))) := ze_pair (N := N) (w := w) (b := b) (C := (zI C (f + 100) 2 (Int32.ofNat (16 + t)))) h1 h8 h10 a6 (zp4_I2.trans a4) (by omega) M0
    have ej : mX4_goOn N (b + 15) (Int32.ofInt (zsg (uC μ (p + 1)) * 256 + uC μ (p + 2))) (zc w b (zI C (f + 100) 2 (Int32.ofNat (16 + t))) M0 r) = some (zc w b (zI (zI C (f + 100) 2 (Int32.ofNat (16 + t))) (f + 100) 4 (Int32.ofNat q)) M0 r, 0) := zf_goOnI (C := (zI C (f + 100) 2 (Int32.ofNat (16 + t)))) (p := p) h1 h2 (zp4_I2.trans a4) (by unfold zto at hq; omega) M0
    have en : mX4_goOn N (b + 15) 3 (zc w b (zI C (f + 100) 2 (Int32.ofNat (16 + t))) M0 r) = some (zc w b (zI (zI C (f + 100) 2 (Int32.ofNat (16 + t))) (f + 100) 4 (Int32.ofNat (p + 3))) M0 r, 0) := zf_goOn (C := (zI C (f + 100) 2 (Int32.ofNat (16 + t)))) (n := 3) (p := p) h1 h2 (zp4_I2.trans a4) M0
    by_cases c : ¬ (M.2 45 (12 * f + t)) = 0
    · rw [if_pos c]
      have c2 : ¬ C.1 (f + 140) (16 + (t)) = 0 := fun e => c ((zRf.z hD n0).mp e)
      simp (decide := true) only [mX4_step_107, mX4_step_249, mX4_step_0, mX4_step, mX4_branch_201, mX4_branch_177, mX4_branch_174, mX4_branch_166, mX4_branch_154, mX4_branch_132, mX4_branch_124, mX4_branch_112, mX4_branch_0, mX4_branch, e0, zqg_15_5 h2, zqkF h1, id, zqk_15, zqg_15_5 k1, g0, e3, ep, ej, en, c2, Option.map_some, Int32.reduceLT, Int32.reduceLE, Int32.reduceAdd, Int32.reduceSub, Int32.reduceMul, Int32.reduceDiv, Int32.reduceMod, ↓reduceIte, Option.bind_some]
    · rw [if_neg c]
      have c2 : C.1 (f + 140) (16 + (t)) = 0 := (zRf.z hD n0).mpr (Decidable.not_not.mp c)
      simp (decide := true) only [mX4_step_107, mX4_step_249, mX4_step_0, mX4_step, mX4_branch_201, mX4_branch_177, mX4_branch_174, mX4_branch_166, mX4_branch_154, mX4_branch_132, mX4_branch_124, mX4_branch_112, mX4_branch_0, mX4_branch, e0, zqg_15_5 h2, zqkF h1, id, zqk_15, zqg_15_5 k1, g0, e3, ep, ej, en, c2, Option.map_some, Int32.reduceLT, Int32.reduceLE, Int32.reduceAdd, Int32.reduceSub, Int32.reduceMul, Int32.reduceDiv, Int32.reduceMod, ↓reduceIte, Option.bind_some]
  · have f0 : mX9_step N (b + 75) (zc w b C0 M r0) = mX9_step_74 N (b + 75) (Int32.ofNat f) (Int32.ofNat m) (Int32.ofNat p) 199 3 (Int32.ofNat (uC μ (p + 1))) (Int32.ofNat (uC μ (p + 2))) (zc w b C0 M r0) := zn_step (N := N) (w := w) hc hop (n := 3) rfl rfl rfl C0 r0
    refine f0.trans ?_
    have f1 : mX9_popValue N (b + 75) (zc w b C0 M r0) = some (zc w b C0 (zMD M f (t)) r0, M.2 45 (12 * f + (t))) := by
      have := zn_pop (N := N) (w := w) (b := b) (M := M) (t := t) h1 h3 a2 (by omega) C0 r0
      exact this
    have ft : mX9_to N (b + 75) (Int32.ofNat m) (Int32.ofNat p) (zc w b C0 (zMD M f (t)) r0) = some (zc w b C0 (zMD M f (t)) r0, Int32.ofNat q) := zn_to (M := (zMD M f (t))) h7 (show zMt (zMD M f (t)) m μ from zMt.md h9) h10 (by omega) hq C0 r0
    have fs : ∀ v, zm_sI (zc w b C0 (zMD M f (t)) r0) (b + 106) (Int32.ofNat f) v = some (zc w b C0 (zJ (zMD M f (t)) 41 f v) r0) := fun v => zqs_106 h1
    have fn : Int32.ofNat p + 3 = Int32.ofNat (p + 3) := zi_add p 3
    by_cases c : ¬ (M.2 45 (12 * f + t)) = 0
    · rw [if_pos c]
      have c2 : ¬ lg_cmp (M.2 45 (12 * f + t)) 0 = 0 := fun e => c (zw_cmp.mp e)
      simp (decide := true) only [mX9_step_74, mX9_goes_130, mX9_goes_108, mX9_goes_96, mX9_goes_70, mX9_goes_62, mX9_goes_50, mX9_goes_0, mX9_goes, mX9_step_245, mX9_step_272, zqk_75, zqg_75_41, id, f1, ft, fs, fn, c2, Option.map_some, Int32.reduceLT, Int32.reduceLE, Int32.reduceAdd, Int32.reduceSub, Int32.reduceMul, Int32.reduceDiv, Int32.reduceMod, ↓reduceIte, Option.bind_some]
    · rw [if_neg c]
      have c2 : lg_cmp (M.2 45 (12 * f + t)) 0 = 0 := zw_cmp.mpr (Decidable.not_not.mp c)
      simp (decide := true) only [mX9_step_74, mX9_goes_130, mX9_goes_108, mX9_goes_96, mX9_goes_70, mX9_goes_62, mX9_goes_50, mX9_goes_0, mX9_goes, mX9_step_245, mX9_step_272, zqk_75, zqg_75_41, id, f1, ft, fs, fn, c2, Option.map_some, Int32.reduceLT, Int32.reduceLE, Int32.reduceAdd, Int32.reduceSub, Int32.reduceMul, Int32.reduceDiv, Int32.reduceMod, ↓reduceIte, Option.bind_some]

theorem zo_167 (h : zCur b K D C M r ra f (t) p m lt st μ) (hop : uC μ p = 167)  {q : Nat} (hq : zto p (uC μ (p + 1)) (uC μ (p + 2)) = (q : Int)) : zQ w b N D C M r ra f m t (if True then q else p + 3) lt st := by
  have hc := h
  obtain ⟨h1, h2, h3, h4, h5, hfr, h7, h8, h9, h10, h11, h12⟩ := h
  have hl : p + 3 ≤ uLen μ := by rw [hop] at h12; exact h12
  have hl2 := h10.1
  have hd := hfr
  obtain ⟨a1, a2, a3, a4, a5, a6, a7, a8, a9⟩ := hfr
  have hp := hd.go (if True then q else p + 3)
  refine ⟨_, _, fun M0 => ?_, fun C0 r0 => ?_, hp, zTop.rf.i2, zTopM.rf.go⟩
  · have e0 : mX1_opcode N (b + (3 * f + 27)) (zc w b C M0 r) = some (zc w b C M0 r, 167) := ze_step0 (N := N) (w := w) hc hop M0
    have e3 : mX1_drop N (b + (3 * f + 27)) 0 (zc w b C M0 r) = some (zc w b C M0 r) := by
      have := zf_drop (N := N) (w := w) (b := b) (r := r) (t := t) (k := 0) h1 a1 a3 (by omega) M0
      rw [show zI C (f + 100) 2 (Int32.ofNat (16 + (t - 0))) = C from zIsame a1] at this
      exact this
    have k1 := h2
    have ep : mX1_pair N (b + (3 * f + 27)) (zc w b C M0 r) = some (zc w b C M0 r, Int32.ofInt (zsg (uC μ (p + 1)) * 256 + uC μ (p + 2))) := ze_pair (N := N) (w := w) (b := b) (C := C) h1 h8 h10 a6 a4 (by omega) M0
    have ej : mX4_goOn N (b + 15) (Int32.ofInt (zsg (uC μ (p + 1)) * 256 + uC μ (p + 2))) (zc w b C M0 r) = some (zc w b (zI C (f + 100) 4 (Int32.ofNat q)) M0 r, 0) := zf_goOnI (C := C) (p := p) h1 h2 a4 (by unfold zto at hq; omega) M0
    have en : mX4_goOn N (b + 15) 3 (zc w b C M0 r) = some (zc w b (zI C (f + 100) 4 (Int32.ofNat (p + 3))) M0 r, 0) := zf_goOn (C := C) (n := 3) (p := p) h1 h2 a4 M0
    simp (decide := true) only [mX4_step_107, mX4_step_249, mX4_step_0, mX4_step, mX4_branch_201, mX4_branch_177, mX4_branch_174, mX4_branch_166, mX4_branch_154, mX4_branch_132, mX4_branch_124, mX4_branch_112, mX4_branch_0, mX4_branch, e0, zqg_15_5 h2, zqkF h1, id, zqk_15, e3, ep, ej, Option.map_some, Int32.reduceLT, Int32.reduceLE, Int32.reduceAdd, Int32.reduceSub, Int32.reduceMul, Int32.reduceDiv, Int32.reduceMod, ↓reduceIte, Option.bind_some]
  · have f0 : mX9_step N (b + 75) (zc w b C0 M r0) = mX9_step_74 N (b + 75) (Int32.ofNat f) (Int32.ofNat m) (Int32.ofNat p) 167 3 (Int32.ofNat (uC μ (p + 1))) (Int32.ofNat (uC μ (p + 2))) (zc w b C0 M r0) := zn_step (N := N) (w := w) hc hop (n := 3) rfl rfl rfl C0 r0
    refine f0.trans ?_
    have ft : mX9_to N (b + 75) (Int32.ofNat m) (Int32.ofNat p) (zc w b C0 M r0) = some (zc w b C0 M r0, Int32.ofNat q) := zn_to (M := M) h7 (show zMt M m μ from h9) h10 (by omega) hq C0 r0
    have fs : ∀ v, zm_sI (zc w b C0 M r0) (b + 106) (Int32.ofNat f) v = some (zc w b C0 (zJ M 41 f v) r0) := fun v => zqs_106 h1
    have fn : Int32.ofNat p + 3 = Int32.ofNat (p + 3) := zi_add p 3
    simp (decide := true) only [mX9_step_74, mX9_goes_130, mX9_goes_108, mX9_goes_96, mX9_goes_70, mX9_goes_62, mX9_goes_50, mX9_goes_0, mX9_goes, mX9_step_245, mX9_step_272, zqk_75, zqg_75_41, id, ft, fs, fn, Option.map_some, Int32.reduceLT, Int32.reduceLE, Int32.reduceAdd, Int32.reduceSub, Int32.reduceMul, Int32.reduceDiv, Int32.reduceMod, ↓reduceIte, Option.bind_some]

end ZQW
