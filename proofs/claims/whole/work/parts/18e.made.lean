/-! ===== things that are made (written by wip/gen/ops9.py) ===== -/
theorem zwd_0 (n : Nat) : zwd 0 n = 2 + n := by unfold zwd; rw [if_neg (by decide), if_neg (by decide), if_neg (by decide)]
theorem zk_wordsOfArray {so n : Nat} (hs : so ≤ 12) (hn : n < 2 ^ 31) : pX2_wordsOfArray (Int32.ofNat so) (Int64.ofNat n) = some (Int64.ofNat (zwd so n)) := by
  have hk : so = 0 ∨ so = 1 ∨ so = 2 ∨ so = 3 ∨ so = 4 ∨ so = 5 ∨ so = 6 ∨ so = 7 ∨ so = 8 ∨ so = 9 ∨ so = 10 ∨ so = 11 ∨ so = 12 := by omega
  rcases hk with h | h | h | h | h | h | h | h | h | h | h | h | h <;> subst h <;> simp (decide := true) (disch := omega) only [pX2_wordsOfArray, pX2_wordsOfArray_48, pX2_wordsOfArray_62, pX2_wordsOfArray_84, pX2_wordsOfArray_0, zwd, zi_lit, zi_eq, if_true, if_false, ite_true, ite_false, zl_lit, zl_add, zl_mul, zl_div, reduceIte, Nat.reduceEqDiff, or_true, true_or, or_false, or_self]
section ZMD
variable {N w b K S f0 t p m : Nat} {F ρ α π lt st : Nat → Nat} {D : Nat → Nat → Prop} {C : zC} {M : zM} {r : zv_X} {Q : zQo} {φ : Nat → zFd}
/-- the frame under way alone has changed -/
theorem zRn.top {C' : zC} {M' : zM} {t' p' : Nat} {lt' st' : Nat → Nat} (hR : zRn w b K F ρ α π r Q D C M S f0 φ) (hO : zOn C M) (hφ : φ f0 = (t, p, m, lt, st)) (q3 : zFr D C' M' Q.2.1 f0 t' p' m lt' st') (q4 : zTop f0 C C') (q5 : zTopM f0 M M') (ht : ∃ l', Q.2.2.2 m p' = some (zrv st' t', l') ∧ zLe l' lt') : zSC C C' ∧ zSM M M' ∧ ∃ φ', zRn w b K F ρ α π r Q D C' M' S f0 φ' ∧ zOn C' M' := by
  obtain ⟨r1, r2, r3, r4, r5, r6, r7, r8, r9, r10, r11, r12, t1, t2, t3⟩ := hR
  obtain ⟨n1, n2, n3, n4, n5, n6⟩ := hO
  have sc : zSC C C' := ⟨fun o k h => q4.1 o k (by omega) (by omega), fun o k h => by rw [q4.2.2], q4.1 _ _ (by omega) (by omega), q4.1 _ _ (by omega) (by omega)⟩
  have sm : zSM M M' := ⟨fun o k h => q5.1 o k (by omega) (by omega) (by omega), fun k h => q5.1 _ _ (by omega) (by omega) (by omega), fun k => q5.2 _ _ (by omega) (by omega)⟩
  have hm : (φ f0).2.2.1 = m := by rw [hφ]
  refine ⟨sc, sm, fun f => if f = f0 then (t', p', m, lt', st') else φ f, ⟨r1.sc sc sm, r2.cong (fun o k h1 h2 => q4.1 o k (by omega) (by omega)) (fun o k h1 h2 => q5.1 o k (by omega) (by omega) (by omega)) (q5.1 _ _ (by omega) (by omega) (by omega)) (q5.1 _ _ (by omega) (by omega) (by omega)) (fun k => q5.2 37 k (by omega) (by omega)), r3.sc sc sm, r4, (q4.1 _ _ (by omega) (by omega)).trans r5, by rw [q4.2.2]; exact r6, (q5.1 _ _ (by omega) (by omega) (by omega)).trans r7, (q4.1 _ _ (by omega) (by omega)).trans r8, (q5.1 _ _ (by omega) (by omega) (by omega)).trans r9, ?_, ?_, fun f hf => ?_, fun f hf => ?_, ?_, fun f hf => ?_⟩, ?_⟩
  · rw [q4.1 _ _ (by omega) (by omega), q5.1 _ _ (by omega) (by omega) (by omega)]; exact r10
  · rw [q4.1 _ _ (by omega) (by omega), q5.1 _ _ (by omega) (by omega) (by omega)]; exact r11
  · show zFa D C' M' Q.2.1 f (if f = f0 then _ else φ f)
    by_cases c : f = f0
    · rw [if_pos c, c]; exact q3
    · rw [if_neg c]
      exact (r12 f hf).low (f := f0) (by omega) r4 (fun o k h1 h2 _ => q4.1 o k h1 h2) (fun o k h _ => q4.2.1 o k h) (fun o k _ => by rw [q4.2.2]) (Or.inl q5)
  · show (if f = f0 then ((t', p', m, lt', st') : zFd) else φ f).2.2.1 < Q.1
    by_cases c : f = f0
    · rw [if_pos c]
      have := t1 f0 (Nat.le_refl _)
      rw [hm] at this
      exact this
    · rw [if_neg c]; exact t1 f hf
  · show zT0 Q (if f0 = f0 then ((t', p', m, lt', st') : zFd) else φ f0)
    rw [if_pos rfl]
    exact ht
  · show zT1 Q (if f = f0 then _ else φ f) (if f + 1 = f0 then ((t', p', m, lt', st') : zFd) else φ (f + 1)).2.2.1
    rw [if_neg (by omega)]
    have h := t3 f hf
    by_cases c : f + 1 = f0
    · rw [if_pos c]
      rw [c, hm] at h
      exact h
    · rw [if_neg c]; exact h
  · exact ⟨(q4.1 _ _ (by omega) (by omega)).trans n1, (q5.1 _ _ (by omega) (by omega) (by omega)).trans n2, (q5.1 _ _ (by omega) (by omega) (by omega)).trans n3, (q5.1 _ _ (by omega) (by omega) (by omega)).trans n4, (q4.2.1 _ _ (by omega)).trans n5, (q5.2 _ _ (by omega) (by omega)).trans n6⟩
/-- the step's end behind the end of a run -/
theorem zn_over {M' : zM} {f p n : Int32} (h49 : M'.1 100 49 = 1) (h54 : M'.1 100 54 = 0) (C0 : zC) (r0 : zv_X) : mX9_step_327 N (b + 75) f p n (zc w b C0 M' r0) = some (zc w b C0 M' r0) := by
  unfold mX9_step_327 mX9_step_351
  rw [zqg_75_49, Option.bind_some, h49, if_neg (by decide), zqp_75_54, Option.bind_some, zJsame h54]
theorem zs_187 (hN : 1700 < N) (hw : w ≤ 400) (hS : S + 1 < 2 ^ 31) (h7 : ∀ k, k < 7 → F k = 0) (hR : zRn w b K F ρ α π r Q D C M S f0 φ) (hO : zOn C M) (hφ : φ f0 = (t, p, m, lt, st)) (hop : uC (Q.2.2.1 m) p = 187) : zStp N w b K F ρ α π r Q C M S := by
  obtain ⟨hc, hm, hK, l', hl, s1, hp, s2, l2, hh, hlen, hfl⟩ := hR.ty hO hφ hop
  have hh : (if (uC (Q.2.2.1 m) (p + 1)) < K then some (s1, l') else none) = some (s2, l2) := hh
  obtain ⟨hty, hh⟩ := zg hh
  cases hh
  have hp : zpop [] (zrv st t) = some s1 := hp
  have hp := zpop0 hp
  subst hp
  have hlen : (zrv st t).length + 1 ≤ uSk (Q.2.2.1 m) := hlen
  rw [zrv_len] at hlen
  have hsk := hK.2.2.2.2.2.2.2.2.2.1
  have hc' := hc
  have hK30 := hR.1.2.2.2.1
  obtain ⟨h1, h2, h3, h4, h5, hfr, _, h8, h9, h10, h11, h12⟩ := hc
  have hfr0 := hfr
  obtain ⟨a1, a2, a3, a4, a5, a6, a7, a8, a9⟩ := hfr
  rw [hop] at h12
  have h12 : p + 2 ≤ uLen (Q.2.2.1 m) := h12
  have e0 : ∀ M0, mX1_opcode N (b + (3 * f0 + 27)) (zc w b C M0 r) = some (zc w b C M0 r, 187) := fun M0 => ze_step0 (N := N) (w := w) hc' hop M0
  have fstep : ∀ C0 r0, mX9_step N (b + 75) (zc w b C0 M r0) = mX9_step_74 N (b + 75) (Int32.ofNat f0) (Int32.ofNat m) (Int32.ofNat p) 187 2 (Int32.ofNat (uC (Q.2.2.1 m) (p + 1))) 0 (zc w b C0 M r0) := fun C0 r0 => zn_step (N := N) (w := w) hc' hop (n := 2) rfl rfl rfl C0 r0
  obtain ⟨l3, h3', h4'⟩ := (hfl lt hl).2 (by unfold zgoes; decide)
  have opd : ∀ M0, mX1_operand N (b + (3 * f0 + 27)) 1 (zc w b C M0 r) = some (zc w b C M0 r, Int32.ofNat (uC (Q.2.2.1 m) (p + 1))) := fun M0 => ze_operand (N := N) (w := w) (b := b) (C := C) (r := r) (k := 1) h1 h8 h10 a6 a4 (by omega) M0
  have eF := (hR.1.2.2.2.2.2.2.1 (uC (Q.2.2.1 m) (p + 1)) hty)
  have eF8 := eF.2.2.2.2.1
  have ew : ∀ M0, mX2_wordsOfObject N (b + 16) (Int32.ofNat (uC (Q.2.2.1 m) (p + 1))) (zc w b C M0 r) = some (zc w b C M0 r, Int32.ofNat (2 + F (uC (Q.2.2.1 m) (p + 1)))) := fun M0 => by
    unfold mX2_wordsOfObject mX2_wordsOfObject_0
    rw [zqg_16_0, Option.bind_some, zqg_1_1, Option.bind_some, zqa_3 (by omega), Option.bind_some, eF.2.1, show (2 : Int32) = Int32.ofNat 2 from rfl, zi_add]
  have e64 : (Int32.ofNat (2 + F (uC (Q.2.2.1 m) (p + 1)))).toInt64 = Int64.ofNat (zwd 0 (F (uC (Q.2.2.1 m) (p + 1)))) := by rw [zi_l64 (by omega), zwd_0]
  have em3 : ∀ C0 r0, zm_aI (zc w b C0 M r0) (b + 77) (Int32.ofNat (uC (Q.2.2.1 m) (p + 1))) = some (Int32.ofNat (F (uC (Q.2.2.1 m) (p + 1)))) := fun C0 r0 => by rw [zqa_77 (by omega), eF.2.2.2.1]
  rcases zp_mk (ty := (uC (Q.2.2.1 m) (p + 1))) (so := 0) (n := F (uC (Q.2.2.1 m) (p + 1))) hN hw hS hR hO (Or.inl rfl) hty (fun _ => rfl) (fun h => absurd rfl h) (by omega) with ⟨C', M', m1, m2, m3, m4, m5, _⟩ | ⟨C', M', D', u, tt, m1, m2, m3, m4, m5, m6, m7, m8, _⟩
  · refine ⟨C', M', fun M0 => ?_, fun C0 r0 => ?_, m3, m4, S + 1, Nat.le_refl _, Or.inr m5⟩
    · have e1 : mX4_make N (b + 15) (Int32.ofNat (uC (Q.2.2.1 m) (p + 1))) 0 (Int32.ofNat (2 + F (uC (Q.2.2.1 m) (p + 1)))).toInt64 (zc w b C M0 r) = some (zc w b C' M0 r, 0) := by rw [e64]; exact m1 M0
      unfold zcs
      simp (decide := true) only [mX4_step_107, mX4_step_249, mX4_step_0, mX4_step, mX4_makeObject_0, mX4_makeObject, e0, zqg_15_5 h2, zqkF h1, id, zqk_15, zqk_16, zqg_15_2, Option.map_some, Int32.reduceLT, Int32.reduceLE, Int32.reduceAdd, Int32.reduceSub, Int32.reduceMul, Int32.reduceDiv, Int32.reduceMod, ↓reduceIte, Option.bind_some, opd, ew, e1]
    · have e1 : mX9_make N (b + 75) (Int32.ofNat (uC (Q.2.2.1 m) (p + 1))) 0 (Int32.ofNat (F (uC (Q.2.2.1 m) (p + 1)))) (zc w b C0 M r0) = some (zc w b C0 M' r0, 0) := m2 C0 r0
      obtain ⟨o, _, _, _, h49, h54, _⟩ := m5
      have fo : mX9_step_327 N (b + 75) (Int32.ofNat f0) (Int32.ofNat p) 2 (zc w b C0 M' r0) = some (zc w b C0 M' r0) := zn_over (N := N) (w := w) (b := b) h49 h54 C0 r0
      refine (fstep C0 r0).trans ?_
      simp (decide := true) only [mX9_step_74, mX9_doThing_256, mX9_doThing_141, mX9_doThing_120, mX9_doThing_85, mX9_doThing_52, mX9_doThing_246, mX9_doThing_243, mX9_doThing_219, mX9_doThing_190, mX9_doThing_189, mX9_doThing_158, mX9_doThing_35, mX9_doThing_0, mX9_doThing, zqk_75, id, zqg_75_3, em3, e1, zqg_75_49, h49, fo, Option.map_some, Int32.reduceLT, Int32.reduceLE, Int32.reduceAdd, Int32.reduceSub, Int32.reduceMul, Int32.reduceDiv, Int32.reduceMod, ↓reduceIte, Option.bind_some]
  · have hb := m5.2.1.1.1 _ _ m7
    have fr1 := m5.2.2.2.2.2.2.2.2.2.2.2.1 f0 (Nat.le_refl _)
    rw [hφ] at fr1
    have fr1 : zFr D' C' M' Q.2.1 f0 t p m lt st := fr1
    have hp := (fr1.pushR (by omega) (v := Int64.ofNat (tt + 1)) (re := Int32.ofNat (u + 1)) (Or.inr ⟨u + 1, tt, m7, rfl, rfl⟩)).go (p + 2)
    obtain ⟨s1, s2, φ', s3, s4⟩ := m5.top (t' := t + 1) (p' := p + 2) (lt' := lt) (st' := zset st t 3) m6 hφ hp zTop.rf.pr.i2 (zTopM.rf.p (by omega)).go ⟨l3, by rw [zrv_push]; exact h3', h4'⟩
    refine ⟨_, _, fun M0 => ?_, fun C0 r0 => ?_, m3.tr s1, m4.tr s2, S + 1, Nat.le_refl _, Or.inl ⟨D', f0, φ', s3, s4⟩⟩
    · have e1 : mX4_make N (b + 15) (Int32.ofNat (uC (Q.2.2.1 m) (p + 1))) 0 (Int32.ofNat (2 + F (uC (Q.2.2.1 m) (p + 1)))).toInt64 (zc w b C M0 r) = some (zc w b C' M0 r, Int32.ofNat (u + 1)) := by rw [e64]; exact m1 M0
      have hne : ¬ Int32.ofNat (u + 1) = 0 := fun q => by
        have := zi_inj (a := u + 1) (b := 0) (by omega) (by omega) q
        omega
      have k1 : C'.2.2 15 5 = .ref (b + (3 * f0 + 27)) := m5.2.2.2.2.2.1
      have e4 : mX1_pushReference N (b + (3 * f0 + 27)) (Int32.ofNat (u + 1)) (zc w b C' M0 r) = some (zc w b (zPR C' f0 t (Int32.ofNat (u + 1))) M0 r) := zf_pushReference (t := t) h1 fr1.1 (by omega) _ M0
      have e5 : mX4_goOn N (b + 15) 2 (zc w b (zPR C' f0 t (Int32.ofNat (u + 1))) M0 r) = some (zc w b (zI (zPR C' f0 t (Int32.ofNat (u + 1))) (f0 + 100) 4 (Int32.ofNat (p + 2))) M0 r, 0) := zf_goOn (C := zPR C' f0 t (Int32.ofNat (u + 1))) (n := 2) (p := p) h1 k1 (zp4_PR.trans fr1.2.2.2.1) M0
      unfold zcs
      simp (decide := true) only [mX4_step_107, mX4_step_249, mX4_step_0, mX4_step, mX4_makeObject_0, mX4_makeObject, e0, zqg_15_5 h2, zqkF h1, id, zqk_15, zqk_16, zqg_15_2, Option.map_some, Int32.reduceLT, Int32.reduceLE, Int32.reduceAdd, Int32.reduceSub, Int32.reduceMul, Int32.reduceDiv, Int32.reduceMod, ↓reduceIte, Option.bind_some, opd, ew, e1, hne, zqg_15_5 k1, e4, e5]
    · have e1 : mX9_make N (b + 75) (Int32.ofNat (uC (Q.2.2.1 m) (p + 1))) 0 (Int32.ofNat (F (uC (Q.2.2.1 m) (p + 1)))) (zc w b C0 M r0) = some (zc w b C0 M' r0, Int64.ofNat (tt + 1)) := m2 C0 r0
      have f8 : mX9_pushValue N (b + 75) 3 (Int64.ofNat (tt + 1)) (zc w b C0 M' r0) = some (zc w b C0 (zMP M' f0 t 3 (Int64.ofNat (tt + 1))) r0) := zn_push (N := N) (w := w) (b := b) (M := M') (t := t) h1 m5.2.2.2.2.2.2.1 fr1.2.1 (by omega) 3 _ C0 r0
      have f9 : mX9_step_327 N (b + 75) (Int32.ofNat f0) (Int32.ofNat p) 2 (zc w b C0 (zMP M' f0 t 3 (Int64.ofNat (tt + 1))) r0) = some (zc w b C0 (zJ (zMP M' f0 t 3 (Int64.ofNat (tt + 1))) 41 f0 (Int32.ofNat (p + 2))) r0) := zn_on (N := N) (w := w) (b := b) (M := zMP M' f0 t 3 (Int64.ofNat (tt + 1))) (p := p) (n := 2) h1 (zmp100.trans m6.2.2.1) (zmp100.trans m6.2.2.2.1) C0 r0
      have h49 := m6.2.2.1
      refine (fstep C0 r0).trans ?_
      simp (decide := true) only [mX9_step_74, mX9_doThing_256, mX9_doThing_141, mX9_doThing_120, mX9_doThing_85, mX9_doThing_52, mX9_doThing_246, mX9_doThing_243, mX9_doThing_219, mX9_doThing_190, mX9_doThing_189, mX9_doThing_158, mX9_doThing_35, mX9_doThing_0, mX9_doThing, zqk_75, id, zqg_75_3, em3, e1, zqg_75_49, h49, f8, f9, Option.map_some, Int32.reduceLT, Int32.reduceLE, Int32.reduceAdd, Int32.reduceSub, Int32.reduceMul, Int32.reduceDiv, Int32.reduceMod, ↓reduceIte, Option.bind_some]
      rfl

theorem zs_188 (hN : 1700 < N) (hw : w ≤ 400) (hS : S + 1 < 2 ^ 31) (h7 : ∀ k, k < 7 → F k = 0) (hR : zRn w b K F ρ α π r Q D C M S f0 φ) (hO : zOn C M) (hφ : φ f0 = (t, p, m, lt, st)) (hop : uC (Q.2.2.1 m) p = 188) : zStp N w b K F ρ α π r Q C M S := by
  obtain ⟨hc, hm, hK, l', hl, s1, hp, s2, l2, hh, hlen, hfl⟩ := hR.ty hO hφ hop
  have hh : (if 4 ≤ (uC (Q.2.2.1 m) (p + 1)) ∧ (uC (Q.2.2.1 m) (p + 1)) ≤ 11 ∧ (uC (Q.2.2.1 m) (p + 1)) ≠ 6 ∧ (uC (Q.2.2.1 m) (p + 1)) ≠ 7 then some (s1, l') else none) = some (s2, l2) := hh
  obtain ⟨hsort, hh⟩ := zg hh
  cases hh
  have hp : zpop [1] (zrv st t) = some s1 := hp
  obtain ⟨t, rfl, k0, hp⟩ := zpopc hp
  have hp := zpop0 hp
  subst hp
  have hc' := hc
  have hK30 := hR.1.2.2.2.1
  obtain ⟨h1, h2, h3, h4, h5, hfr, _, h8, h9, h10, h11, h12⟩ := hc
  have hfr0 := hfr
  obtain ⟨a1, a2, a3, a4, a5, a6, a7, a8, a9⟩ := hfr
  rw [hop] at h12
  have h12 : p + 2 ≤ uLen (Q.2.2.1 m) := h12
  have e0 : ∀ M0, mX1_opcode N (b + (3 * f0 + 27)) (zc w b C M0 r) = some (zc w b C M0 r, 188) := fun M0 => ze_step0 (N := N) (w := w) hc' hop M0
  have fstep : ∀ C0 r0, mX9_step N (b + 75) (zc w b C0 M r0) = mX9_step_74 N (b + 75) (Int32.ofNat f0) (Int32.ofNat m) (Int32.ofNat p) 188 2 (Int32.ofNat (uC (Q.2.2.1 m) (p + 1))) 0 (zc w b C0 M r0) := fun C0 r0 => zn_step (N := N) (w := w) hc' hop (n := 2) rfl rfl rfl C0 r0
  obtain ⟨l3, h3', h4'⟩ := (hfl lt hl).2 (by unfold zgoes; decide)
  have opd : ∀ M0, mX1_operand N (b + (3 * f0 + 27)) 1 (zc w b C M0 r) = some (zc w b C M0 r, Int32.ofNat (uC (Q.2.2.1 m) (p + 1))) := fun M0 => ze_operand (N := N) (w := w) (b := b) (C := C) (r := r) (k := 1) h1 h8 h10 a6 a4 (by omega) M0
  have hd := hfr0.drop (t' := t) (by omega)
  have u0 := (a9 t (by omega)).2.2.2
  rw [k0] at u0
  have n0 := u0.num (Or.inl rfl)
  have hint := u0.int
  have g0 : ∀ M0, mX1_number N (b + (3 * f0 + 27)) 0 (zc w b C M0 r) = some (zc w b C M0 r, M.2 45 (12 * f0 + t)) := fun M0 => by
    have := zf_number (N := N) (w := w) (b := b) (C := C) (r := r) (t := t + 1) (k := 0) h1 a1 a3 (by omega) M0
    rw [show 15 + (t + 1) - 0 = 16 + t by omega, n0.1] at this
    exact this
  have fp : ∀ C0 r0, mX9_peek N (b + 75) 0 (zc w b C0 M r0) = some (zc w b C0 M r0, M.2 45 (12 * f0 + t)) := fun C0 r0 => zn_peek (N := N) (w := w) (b := b) (M := M) (t := t + 1) (k := 0) h1 h3 a2 a3 (by omega) C0 r0
  by_cases cn : 0 ≤ (M.2 45 (12 * f0 + t)).toInt32
  · obtain ⟨n, hn1, hn2⟩ := zi_of cn
    have hv : M.2 45 (12 * f0 + t) = Int64.ofNat n := by rw [hint, hn1, zi_l64 hn2]
    have cmp : 0 ≤ lg_cmp (M.2 45 (12 * f0 + t)) 0 := by rw [hv, lg_cmp_ge, show (0 : Int64) = Int64.ofNat 0 from rfl, zl_le (by omega) (by omega)]; omega
    have ewa : ∀ M0, mX2_wordsOfArray N (Int32.ofNat (uC (Q.2.2.1 m) (p + 1))) (Int32.ofNat n).toInt64 (zc w b C M0 r) = some (zc w b C M0 r, Int64.ofNat (zwd (uC (Q.2.2.1 m) (p + 1)) n)) := fun M0 => by
      rw [qX2_wordsOfArray, zi_l64 hn2]
      rw [show pX2_wordsOfArray (Int32.ofNat (uC (Q.2.2.1 m) (p + 1))) (Int64.ofNat n) = _ from zk_wordsOfArray (so := (uC (Q.2.2.1 m) (p + 1))) (by omega) hn2]
      rfl
    have ewm : ∀ C0 r0, mX9_wordsOf N (Int32.ofNat (uC (Q.2.2.1 m) (p + 1))) (Int64.ofNat n) (zc w b C0 M r0) = some (zc w b C0 M r0, Int64.ofNat (zwd (uC (Q.2.2.1 m) (p + 1)) n)) := fun C0 r0 => by
      rw [qX9_wordsOf]
      rw [show pX9_wordsOf (Int32.ofNat (uC (Q.2.2.1 m) (p + 1))) (Int64.ofNat n) = _ from zk_wordsOf (so := (uC (Q.2.2.1 m) (p + 1))) (by omega) hn2]
      rfl
    have hwb := zwd_sz ((uC (Q.2.2.1 m) (p + 1))) n
    have e1w : (M.1 100 1).toInt64 = Int64.ofNat w := by rw [hR.2.2.2.2.2.2.2.2.1, zi_l64 (by omega)]
    have so0 : ((uC (Q.2.2.1 m) (p + 1)) : Nat) ≠ 0 := by omega
    have etag : zTag ((uC (Q.2.2.1 m) (p + 1))) 0 = -(Int32.ofNat (uC (Q.2.2.1 m) (p + 1))) := by unfold zTag; rw [if_neg so0]
    have elen : zLen ((uC (Q.2.2.1 m) (p + 1))) n = Int32.ofNat n := by unfold zLen; rw [if_neg so0]
    have cc : ∀ M0 x h, mX4_make N (b + 15) (zTag ((uC (Q.2.2.1 m) (p + 1))) 0) (zLen ((uC (Q.2.2.1 m) (p + 1))) n) (Int64.ofNat (zwd (uC (Q.2.2.1 m) (p + 1)) n)) (zc w b C M0 r) = some (x, h) → mX4_make N (b + 15) (-(Int32.ofNat (uC (Q.2.2.1 m) (p + 1)))) (Int32.ofNat n) (Int64.ofNat (zwd (uC (Q.2.2.1 m) (p + 1)) n)) (zc w b C M0 r) = some (x, h) := fun M0 x h q => by rw [← etag, ← elen]; exact q
    rcases zp_mk (ty := 0) (so := (uC (Q.2.2.1 m) (p + 1))) (n := n) hN hw hS hR hO (by omega) (by have := hR.1.2.2.1; omega) (fun h => absurd h so0) (fun _ => rfl) hn2 with ⟨C', M', m1, m2, m3, m4, m5, m5'⟩ | ⟨C', M', D', u, tt, m1, m2, m3, m4, m5, m6, m7, m8, m9⟩
    · have cl : ∀ M0, zcs N b (zc w b C M0 r) = some (zc w b C' M0 r) := fun M0 => by
        have e1 := cc M0 _ _ (m1 M0)
        unfold zcs
        simp (decide := true) only [mX4_step_107, mX4_step_249, mX4_step_0, mX4_step, mX4_makeArray_0, mX4_makeArray, e0, zqg_15_5 h2, zqkF h1, id, zqk_15, zqk_16, zqg_15_2, Option.map_some, Int32.reduceLT, Int32.reduceLE, Int32.reduceAdd, Int32.reduceSub, Int32.reduceMul, Int32.reduceDiv, Int32.reduceMod, ↓reduceIte, Option.bind_some, opd, g0, hn1, zi_p0 hn2, ewa, e1]
      by_cases cw : zwd ((uC (Q.2.2.1 m) (p + 1))) n ≤ w
      · refine ⟨C', M', cl, fun C0 r0 => ?_, m3, m4, S + 1, Nat.le_refl _, Or.inr m5⟩
        have e1 : mX9_make N (b + 75) 0 (Int32.ofNat (uC (Q.2.2.1 m) (p + 1))) (Int32.ofNat n) (zc w b C0 M r0) = some (zc w b C0 M' r0, 0) := m2 C0 r0
        obtain ⟨o, _, _, _, h49, h54, _⟩ := m5
        have fo : mX9_step_327 N (b + 75) (Int32.ofNat f0) (Int32.ofNat p) 2 (zc w b C0 M' r0) = some (zc w b C0 M' r0) := zn_over (N := N) (w := w) (b := b) h49 h54 C0 r0
        have cw' : lg_cmp (Int64.ofNat (zwd (uC (Q.2.2.1 m) (p + 1)) n)) (Int64.ofNat w) ≤ 0 := zw_le.mpr (by rw [zl_le (by omega) (by omega)]; exact cw)
        refine (fstep C0 r0).trans ?_
        rw [hv] at cmp
        simp (decide := true) only [mX9_step_74, mX9_doThing_256, mX9_doThing_141, mX9_doThing_120, mX9_doThing_85, mX9_doThing_52, mX9_doThing_246, mX9_doThing_243, mX9_doThing_219, mX9_doThing_190, mX9_doThing_189, mX9_doThing_158, mX9_doThing_35, mX9_doThing_0, mX9_doThing, zqk_75, id, fp, hv, cmp, ewm, zqg_75_1, e1w, cw', Int64.toInt32_ofNat', e1, zqg_75_49, h49, fo, Option.map_some, Int32.reduceLT, Int32.reduceLE, Int32.reduceAdd, Int32.reduceSub, Int32.reduceMul, Int32.reduceDiv, Int32.reduceMod, ↓reduceIte, Option.bind_some]
      · have sm : zSM M (zJ (zJ M 100 48 3) 100 49 1) := ⟨fun o k h => by rw [zJ1, if_neg (by omega), zJ1, if_neg (by omega)], fun k h => by rw [zJ1, if_neg (by omega), zJ1, if_neg (by omega)], fun k => rfl⟩
        refine ⟨C', zJ (zJ M 100 48 3) 100 49 1, cl, fun C0 r0 => ?_, m3, sm, S + 1, Nat.le_refl _, Or.inr m5'⟩
        have h49 : (zJ (zJ M 100 48 3) 100 49 1).1 100 49 = 1 := by rw [zJ1, if_pos ⟨rfl, rfl⟩]
        have h54 : (zJ (zJ M 100 48 3) 100 49 1).1 100 54 = 0 := by rw [zJ1, if_neg (by decide), zJ1, if_neg (by decide)]; exact h5
        have fo : mX9_step_327 N (b + 75) (Int32.ofNat f0) (Int32.ofNat p) 2 (zc w b C0 (zJ (zJ M 100 48 3) 100 49 1) r0) = some (zc w b C0 (zJ (zJ M 100 48 3) 100 49 1) r0) := zn_over (N := N) (w := w) (b := b) h49 h54 C0 r0
        have cw' : ¬ lg_cmp (Int64.ofNat (zwd (uC (Q.2.2.1 m) (p + 1)) n)) (Int64.ofNat w) ≤ 0 := fun q => cw (by have := zw_le.mp q; rw [zl_le (by omega) (by omega)] at this; exact this)
        refine (fstep C0 r0).trans ?_
        rw [hv] at cmp
        simp (decide := true) only [mX9_step_74, mX9_doThing_256, mX9_doThing_141, mX9_doThing_120, mX9_doThing_85, mX9_doThing_52, mX9_doThing_246, mX9_doThing_243, mX9_doThing_219, mX9_doThing_190, mX9_doThing_189, mX9_doThing_158, mX9_doThing_35, mX9_doThing_0, mX9_doThing, mX9_noRoom_0, mX9_noRoom, zqk_75, id, fp, hv, cmp, ewm, zqg_75_1, e1w, cw', zqp_75_48, zqp_75_49, zqg_75_49, h49, fo, Option.map_some, Int32.reduceLT, Int32.reduceLE, Int32.reduceAdd, Int32.reduceSub, Int32.reduceMul, Int32.reduceDiv, Int32.reduceMod, ↓reduceIte, Option.bind_some]
    · have hb := m5.2.1.1.1 _ _ m7
      have fr1 := m5.2.2.2.2.2.2.2.2.2.2.2.1 f0 (Nat.le_refl _)
      rw [hφ] at fr1
      have fr1 : zFr D' C' M' Q.2.1 f0 (t + 1) p m lt st := fr1
      have hp := ((fr1.drop (t' := t) (by omega)).pushR (by omega) (v := Int64.ofNat (tt + 1)) (re := Int32.ofNat (u + 1)) (Or.inr ⟨u + 1, tt, m7, rfl, rfl⟩)).go (p + 2)
      obtain ⟨s1, s2, φ', s3, s4⟩ := m5.top (t' := t + 1) (p' := p + 2) (lt' := lt) (st' := zset st t 3) m6 hφ hp zTop.rf.i2.pr.i2 (zTopM.rf.d.p (by omega)).go ⟨l3, by rw [zrv_push]; exact h3', h4'⟩
      refine ⟨_, _, fun M0 => ?_, fun C0 r0 => ?_, m3.tr s1, m4.tr s2, S + 1, Nat.le_refl _, Or.inl ⟨D', f0, φ', s3, s4⟩⟩
      · have e1 := cc M0 _ _ (m1 M0)
        have hne : ¬ Int32.ofNat (u + 1) = 0 := fun q => by
          have := zi_inj (a := u + 1) (b := 0) (by omega) (by omega) q
          omega
        have k1 : C'.2.2 15 5 = .ref (b + (3 * f0 + 27)) := m5.2.2.2.2.2.1
        have k2 : (zI C' (f0 + 100) 2 (Int32.ofNat (16 + t))).2.2 15 5 = .ref (b + (3 * f0 + 27)) := k1
        have e3 : mX1_drop N (b + (3 * f0 + 27)) 1 (zc w b C' M0 r) = some (zc w b (zI C' (f0 + 100) 2 (Int32.ofNat (16 + t))) M0 r) := zf_drop (N := N) (w := w) (b := b) (r := r) (t := t + 1) (k := 1) h1 fr1.1 a3 (by omega) M0
        have e4 : mX1_pushReference N (b + (3 * f0 + 27)) (Int32.ofNat (u + 1)) (zc w b (zI C' (f0 + 100) 2 (Int32.ofNat (16 + t))) M0 r) = some (zc w b (zPR (zI C' (f0 + 100) 2 (Int32.ofNat (16 + t))) f0 t (Int32.ofNat (u + 1))) M0 r) := zf_pushReference (t := t) h1 zp2_I2 (by omega) _ M0
        have e5 : mX4_goOn N (b + 15) 2 (zc w b (zPR (zI C' (f0 + 100) 2 (Int32.ofNat (16 + t))) f0 t (Int32.ofNat (u + 1))) M0 r) = some (zc w b (zI (zPR (zI C' (f0 + 100) 2 (Int32.ofNat (16 + t))) f0 t (Int32.ofNat (u + 1))) (f0 + 100) 4 (Int32.ofNat (p + 2))) M0 r, 0) := zf_goOn (C := zPR (zI C' (f0 + 100) 2 (Int32.ofNat (16 + t))) f0 t (Int32.ofNat (u + 1))) (n := 2) (p := p) h1 k1 (zp4_PR.trans (zp4_I2.trans fr1.2.2.2.1)) M0
        unfold zcs
        simp (decide := true) only [mX4_step_107, mX4_step_249, mX4_step_0, mX4_step, mX4_makeArray_0, mX4_makeArray, e0, zqg_15_5 h2, zqkF h1, id, zqk_15, zqk_16, zqg_15_2, Option.map_some, Int32.reduceLT, Int32.reduceLE, Int32.reduceAdd, Int32.reduceSub, Int32.reduceMul, Int32.reduceDiv, Int32.reduceMod, ↓reduceIte, Option.bind_some, opd, g0, hn1, zi_p0 hn2, ewa, e1, hne, zqg_15_5 k1, zqg_15_5 k2, e3, e4, e5]
      · have e1 : mX9_make N (b + 75) 0 (Int32.ofNat (uC (Q.2.2.1 m) (p + 1))) (Int32.ofNat n) (zc w b C0 M r0) = some (zc w b C0 M' r0, Int64.ofNat (tt + 1)) := m2 C0 r0
        have f1 : mX9_popValue N (b + 75) (zc w b C0 M' r0) = some (zc w b C0 (zMD M' f0 t) r0, M'.2 45 (12 * f0 + t)) := zn_pop (N := N) (w := w) (b := b) (M := M') (t := t) h1 m5.2.2.2.2.2.2.1 fr1.2.1 (by omega) C0 r0
        have f8 : mX9_pushValue N (b + 75) 3 (Int64.ofNat (tt + 1)) (zc w b C0 (zMD M' f0 t) r0) = some (zc w b C0 (zMP (zMD M' f0 t) f0 t 3 (Int64.ofNat (tt + 1))) r0) := zn_push (N := N) (w := w) (b := b) (M := zMD M' f0 t) (t := t) h1 (zmd100.trans m5.2.2.2.2.2.2.1) zmd42 (by omega) 3 _ C0 r0
        have f9 : mX9_step_327 N (b + 75) (Int32.ofNat f0) (Int32.ofNat p) 2 (zc w b C0 (zMP (zMD M' f0 t) f0 t 3 (Int64.ofNat (tt + 1))) r0) = some (zc w b C0 (zJ (zMP (zMD M' f0 t) f0 t 3 (Int64.ofNat (tt + 1))) 41 f0 (Int32.ofNat (p + 2))) r0) := zn_on (N := N) (w := w) (b := b) (M := zMP (zMD M' f0 t) f0 t 3 (Int64.ofNat (tt + 1))) (p := p) (n := 2) h1 (zmp100.trans (zmd100.trans m6.2.2.1)) (zmp100.trans (zmd100.trans m6.2.2.2.1)) C0 r0
        have h49 := m6.2.2.1
        have cw' : lg_cmp (Int64.ofNat (zwd (uC (Q.2.2.1 m) (p + 1)) n)) (Int64.ofNat w) ≤ 0 := zw_le.mpr (by rw [zl_le (by omega) (by omega)]; exact m9)
        refine (fstep C0 r0).trans ?_
        rw [hv] at cmp
        simp (decide := true) only [mX9_step_74, mX9_doThing_256, mX9_doThing_141, mX9_doThing_120, mX9_doThing_85, mX9_doThing_52, mX9_doThing_246, mX9_doThing_243, mX9_doThing_219, mX9_doThing_190, mX9_doThing_189, mX9_doThing_158, mX9_doThing_35, mX9_doThing_0, mX9_doThing, zqk_75, id, fp, hv, cmp, ewm, zqg_75_1, e1w, cw', Int64.toInt32_ofNat', e1, zqg_75_49, h49, f1, f8, f9, Option.map_some, Int32.reduceLT, Int32.reduceLE, Int32.reduceAdd, Int32.reduceSub, Int32.reduceMul, Int32.reduceDiv, Int32.reduceMod, ↓reduceIte, Option.bind_some]
        rfl
  · have cmp : ¬ 0 ≤ lg_cmp (M.2 45 (12 * f0 + t)) 0 := fun q => cn (by
      rw [lg_cmp_ge, hint] at q
      have q' := Int64.le_iff_toInt_le.mp q
      rw [Int32.toInt_toInt64] at q'
      exact Int32.le_iff_toInt_le.mpr q')
    refine zStp_e (e := 4) hN hw hS h7 hR hO (by decide) (fun M0 => ?_) (Or.inl ⟨Int32.ofNat f0, Int32.ofNat p, 2, fun C0 r0 => ?_⟩)
    · simp (decide := true) only [mX4_step_107, mX4_step_249, mX4_step_0, mX4_step, mX4_makeArray_0, mX4_makeArray, e0, zqg_15_5 h2, zqkF h1, id, zqk_15, zqk_16, zqg_15_2, Option.map_some, Int32.reduceLT, Int32.reduceLE, Int32.reduceAdd, Int32.reduceSub, Int32.reduceMul, Int32.reduceDiv, Int32.reduceMod, ↓reduceIte, Option.bind_some, opd, g0, cn]
      rfl
    · refine (fstep C0 r0).trans ?_
      simp (decide := true) only [mX9_step_74, mX9_doThing_256, mX9_doThing_141, mX9_doThing_120, mX9_doThing_85, mX9_doThing_52, mX9_doThing_246, mX9_doThing_243, mX9_doThing_219, mX9_doThing_190, mX9_doThing_189, mX9_doThing_158, mX9_doThing_35, mX9_doThing_0, mX9_doThing, zqk_75, id, fp, cmp, Option.map_some, Int32.reduceLT, Int32.reduceLE, Int32.reduceAdd, Int32.reduceSub, Int32.reduceMul, Int32.reduceDiv, Int32.reduceMod, ↓reduceIte, Option.bind_some]
      show Option.bind _ _ = (mX9_fail N (b + 75) 4 (zc w b C0 M r0)).bind _
      cases mX9_fail N (b + 75) 4 (zc w b C0 M r0) <;> rfl

theorem zs_189 (hN : 1700 < N) (hw : w ≤ 400) (hS : S + 1 < 2 ^ 31) (h7 : ∀ k, k < 7 → F k = 0) (hR : zRn w b K F ρ α π r Q D C M S f0 φ) (hO : zOn C M) (hφ : φ f0 = (t, p, m, lt, st)) (hop : uC (Q.2.2.1 m) p = 189) : zStp N w b K F ρ α π r Q C M S := by
  obtain ⟨hc, hm, hK, l', hl, s1, hp, s2, l2, hh, hlen, hfl⟩ := hR.ty hO hφ hop
  have hh : some (s1, l') = some (s2, l2) := hh
  cases hh
  have hp : zpop [1] (zrv st t) = some s1 := hp
  obtain ⟨t, rfl, k0, hp⟩ := zpopc hp
  have hp := zpop0 hp
  subst hp
  have hc' := hc
  have hK30 := hR.1.2.2.2.1
  obtain ⟨h1, h2, h3, h4, h5, hfr, _, h8, h9, h10, h11, h12⟩ := hc
  have hfr0 := hfr
  obtain ⟨a1, a2, a3, a4, a5, a6, a7, a8, a9⟩ := hfr
  rw [hop] at h12
  have h12 : p + 1 ≤ uLen (Q.2.2.1 m) := h12
  have e0 : ∀ M0, mX1_opcode N (b + (3 * f0 + 27)) (zc w b C M0 r) = some (zc w b C M0 r, 189) := fun M0 => ze_step0 (N := N) (w := w) hc' hop M0
  have fstep : ∀ C0 r0, mX9_step N (b + 75) (zc w b C0 M r0) = mX9_step_74 N (b + 75) (Int32.ofNat f0) (Int32.ofNat m) (Int32.ofNat p) 189 1 0 0 (zc w b C0 M r0) := fun C0 r0 => zn_step (N := N) (w := w) hc' hop (n := 1) rfl rfl rfl C0 r0
  obtain ⟨l3, h3', h4'⟩ := (hfl lt hl).2 (by unfold zgoes; decide)
  have hd := hfr0.drop (t' := t) (by omega)
  have u0 := (a9 t (by omega)).2.2.2
  rw [k0] at u0
  have n0 := u0.num (Or.inl rfl)
  have hint := u0.int
  have g0 : ∀ M0, mX1_number N (b + (3 * f0 + 27)) 0 (zc w b C M0 r) = some (zc w b C M0 r, M.2 45 (12 * f0 + t)) := fun M0 => by
    have := zf_number (N := N) (w := w) (b := b) (C := C) (r := r) (t := t + 1) (k := 0) h1 a1 a3 (by omega) M0
    rw [show 15 + (t + 1) - 0 = 16 + t by omega, n0.1] at this
    exact this
  have fp : ∀ C0 r0, mX9_peek N (b + 75) 0 (zc w b C0 M r0) = some (zc w b C0 M r0, M.2 45 (12 * f0 + t)) := fun C0 r0 => zn_peek (N := N) (w := w) (b := b) (M := M) (t := t + 1) (k := 0) h1 h3 a2 a3 (by omega) C0 r0
  by_cases cn : 0 ≤ (M.2 45 (12 * f0 + t)).toInt32
  · obtain ⟨n, hn1, hn2⟩ := zi_of cn
    have hv : M.2 45 (12 * f0 + t) = Int64.ofNat n := by rw [hint, hn1, zi_l64 hn2]
    have cmp : 0 ≤ lg_cmp (M.2 45 (12 * f0 + t)) 0 := by rw [hv, lg_cmp_ge, show (0 : Int64) = Int64.ofNat 0 from rfl, zl_le (by omega) (by omega)]; omega
    have ewa : ∀ M0, mX2_wordsOfArray N 12 (Int32.ofNat n).toInt64 (zc w b C M0 r) = some (zc w b C M0 r, Int64.ofNat (zwd 12 n)) := fun M0 => by
      rw [qX2_wordsOfArray, zi_l64 hn2]
      rw [show pX2_wordsOfArray 12 (Int64.ofNat n) = _ from zk_wordsOfArray (so := 12) (by omega) hn2]
      rfl
    have ewm : ∀ C0 r0, mX9_wordsOf N 12 (Int64.ofNat n) (zc w b C0 M r0) = some (zc w b C0 M r0, Int64.ofNat (zwd 12 n)) := fun C0 r0 => by
      rw [qX9_wordsOf]
      rw [show pX9_wordsOf 12 (Int64.ofNat n) = _ from zk_wordsOf (so := 12) (by omega) hn2]
      rfl
    have hwb := zwd_sz (12) n
    have e1w : (M.1 100 1).toInt64 = Int64.ofNat w := by rw [hR.2.2.2.2.2.2.2.2.1, zi_l64 (by omega)]
    have so0 : (12 : Nat) ≠ 0 := by omega
    have etag : zTag (12) 0 = -12 := by unfold zTag; rw [if_neg so0]; rfl
    have elen : zLen (12) n = Int32.ofNat n := by unfold zLen; rw [if_neg so0]
    have cc : ∀ M0 x h, mX4_make N (b + 15) (zTag (12) 0) (zLen (12) n) (Int64.ofNat (zwd 12 n)) (zc w b C M0 r) = some (x, h) → mX4_make N (b + 15) (-12) (Int32.ofNat n) (Int64.ofNat (zwd 12 n)) (zc w b C M0 r) = some (x, h) := fun M0 x h q => by rw [← etag, ← elen]; exact q
    rcases zp_mk (ty := 0) (so := 12) (n := n) hN hw hS hR hO (by omega) (by have := hR.1.2.2.1; omega) (fun h => absurd h so0) (fun _ => rfl) hn2 with ⟨C', M', m1, m2, m3, m4, m5, m5'⟩ | ⟨C', M', D', u, tt, m1, m2, m3, m4, m5, m6, m7, m8, m9⟩
    · have cl : ∀ M0, zcs N b (zc w b C M0 r) = some (zc w b C' M0 r) := fun M0 => by
        have e1 := cc M0 _ _ (m1 M0)
        unfold zcs
        simp (decide := true) only [mX4_step_107, mX4_step_249, mX4_step_0, mX4_step, mX4_makeArray_0, mX4_makeArray, e0, zqg_15_5 h2, zqkF h1, id, zqk_15, zqk_16, zqg_15_2, Option.map_some, Int32.reduceLT, Int32.reduceLE, Int32.reduceAdd, Int32.reduceSub, Int32.reduceMul, Int32.reduceDiv, Int32.reduceMod, ↓reduceIte, Option.bind_some, g0, hn1, zi_p0 hn2, ewa, e1]
      by_cases cw : zwd (12) n ≤ w
      · refine ⟨C', M', cl, fun C0 r0 => ?_, m3, m4, S + 1, Nat.le_refl _, Or.inr m5⟩
        have e1 : mX9_make N (b + 75) 0 12 (Int32.ofNat n) (zc w b C0 M r0) = some (zc w b C0 M' r0, 0) := m2 C0 r0
        obtain ⟨o, _, _, _, h49, h54, _⟩ := m5
        have fo : mX9_step_327 N (b + 75) (Int32.ofNat f0) (Int32.ofNat p) 1 (zc w b C0 M' r0) = some (zc w b C0 M' r0) := zn_over (N := N) (w := w) (b := b) h49 h54 C0 r0
        have cw' : lg_cmp (Int64.ofNat (zwd 12 n)) (Int64.ofNat w) ≤ 0 := zw_le.mpr (by rw [zl_le (by omega) (by omega)]; exact cw)
        refine (fstep C0 r0).trans ?_
        rw [hv] at cmp
        simp (decide := true) only [mX9_step_74, mX9_doThing_256, mX9_doThing_141, mX9_doThing_120, mX9_doThing_85, mX9_doThing_52, mX9_doThing_246, mX9_doThing_243, mX9_doThing_219, mX9_doThing_190, mX9_doThing_189, mX9_doThing_158, mX9_doThing_35, mX9_doThing_0, mX9_doThing, zqk_75, id, fp, hv, cmp, ewm, zqg_75_1, e1w, cw', Int64.toInt32_ofNat', e1, zqg_75_49, h49, fo, Option.map_some, Int32.reduceLT, Int32.reduceLE, Int32.reduceAdd, Int32.reduceSub, Int32.reduceMul, Int32.reduceDiv, Int32.reduceMod, ↓reduceIte, Option.bind_some]
      · have sm : zSM M (zJ (zJ M 100 48 3) 100 49 1) := ⟨fun o k h => by rw [zJ1, if_neg (by omega), zJ1, if_neg (by omega)], fun k h => by rw [zJ1, if_neg (by omega), zJ1, if_neg (by omega)], fun k => rfl⟩
        refine ⟨C', zJ (zJ M 100 48 3) 100 49 1, cl, fun C0 r0 => ?_, m3, sm, S + 1, Nat.le_refl _, Or.inr m5'⟩
        have h49 : (zJ (zJ M 100 48 3) 100 49 1).1 100 49 = 1 := by rw [zJ1, if_pos ⟨rfl, rfl⟩]
        have h54 : (zJ (zJ M 100 48 3) 100 49 1).1 100 54 = 0 := by rw [zJ1, if_neg (by decide), zJ1, if_neg (by decide)]; exact h5
        have fo : mX9_step_327 N (b + 75) (Int32.ofNat f0) (Int32.ofNat p) 1 (zc w b C0 (zJ (zJ M 100 48 3) 100 49 1) r0) = some (zc w b C0 (zJ (zJ M 100 48 3) 100 49 1) r0) := zn_over (N := N) (w := w) (b := b) h49 h54 C0 r0
        have cw' : ¬ lg_cmp (Int64.ofNat (zwd 12 n)) (Int64.ofNat w) ≤ 0 := fun q => cw (by have := zw_le.mp q; rw [zl_le (by omega) (by omega)] at this; exact this)
        refine (fstep C0 r0).trans ?_
        rw [hv] at cmp
        simp (decide := true) only [mX9_step_74, mX9_doThing_256, mX9_doThing_141, mX9_doThing_120, mX9_doThing_85, mX9_doThing_52, mX9_doThing_246, mX9_doThing_243, mX9_doThing_219, mX9_doThing_190, mX9_doThing_189, mX9_doThing_158, mX9_doThing_35, mX9_doThing_0, mX9_doThing, mX9_noRoom_0, mX9_noRoom, zqk_75, id, fp, hv, cmp, ewm, zqg_75_1, e1w, cw', zqp_75_48, zqp_75_49, zqg_75_49, h49, fo, Option.map_some, Int32.reduceLT, Int32.reduceLE, Int32.reduceAdd, Int32.reduceSub, Int32.reduceMul, Int32.reduceDiv, Int32.reduceMod, ↓reduceIte, Option.bind_some]
    · have hb := m5.2.1.1.1 _ _ m7
      have fr1 := m5.2.2.2.2.2.2.2.2.2.2.2.1 f0 (Nat.le_refl _)
      rw [hφ] at fr1
      have fr1 : zFr D' C' M' Q.2.1 f0 (t + 1) p m lt st := fr1
      have hp := ((fr1.drop (t' := t) (by omega)).pushR (by omega) (v := Int64.ofNat (tt + 1)) (re := Int32.ofNat (u + 1)) (Or.inr ⟨u + 1, tt, m7, rfl, rfl⟩)).go (p + 1)
      obtain ⟨s1, s2, φ', s3, s4⟩ := m5.top (t' := t + 1) (p' := p + 1) (lt' := lt) (st' := zset st t 3) m6 hφ hp zTop.rf.i2.pr.i2 (zTopM.rf.d.p (by omega)).go ⟨l3, by rw [zrv_push]; exact h3', h4'⟩
      refine ⟨_, _, fun M0 => ?_, fun C0 r0 => ?_, m3.tr s1, m4.tr s2, S + 1, Nat.le_refl _, Or.inl ⟨D', f0, φ', s3, s4⟩⟩
      · have e1 := cc M0 _ _ (m1 M0)
        have hne : ¬ Int32.ofNat (u + 1) = 0 := fun q => by
          have := zi_inj (a := u + 1) (b := 0) (by omega) (by omega) q
          omega
        have k1 : C'.2.2 15 5 = .ref (b + (3 * f0 + 27)) := m5.2.2.2.2.2.1
        have k2 : (zI C' (f0 + 100) 2 (Int32.ofNat (16 + t))).2.2 15 5 = .ref (b + (3 * f0 + 27)) := k1
        have e3 : mX1_drop N (b + (3 * f0 + 27)) 1 (zc w b C' M0 r) = some (zc w b (zI C' (f0 + 100) 2 (Int32.ofNat (16 + t))) M0 r) := zf_drop (N := N) (w := w) (b := b) (r := r) (t := t + 1) (k := 1) h1 fr1.1 a3 (by omega) M0
        have e4 : mX1_pushReference N (b + (3 * f0 + 27)) (Int32.ofNat (u + 1)) (zc w b (zI C' (f0 + 100) 2 (Int32.ofNat (16 + t))) M0 r) = some (zc w b (zPR (zI C' (f0 + 100) 2 (Int32.ofNat (16 + t))) f0 t (Int32.ofNat (u + 1))) M0 r) := zf_pushReference (t := t) h1 zp2_I2 (by omega) _ M0
        have e5 : mX4_goOn N (b + 15) 1 (zc w b (zPR (zI C' (f0 + 100) 2 (Int32.ofNat (16 + t))) f0 t (Int32.ofNat (u + 1))) M0 r) = some (zc w b (zI (zPR (zI C' (f0 + 100) 2 (Int32.ofNat (16 + t))) f0 t (Int32.ofNat (u + 1))) (f0 + 100) 4 (Int32.ofNat (p + 1))) M0 r, 0) := zf_goOn (C := zPR (zI C' (f0 + 100) 2 (Int32.ofNat (16 + t))) f0 t (Int32.ofNat (u + 1))) (n := 1) (p := p) h1 k1 (zp4_PR.trans (zp4_I2.trans fr1.2.2.2.1)) M0
        unfold zcs
        simp (decide := true) only [mX4_step_107, mX4_step_249, mX4_step_0, mX4_step, mX4_makeArray_0, mX4_makeArray, e0, zqg_15_5 h2, zqkF h1, id, zqk_15, zqk_16, zqg_15_2, Option.map_some, Int32.reduceLT, Int32.reduceLE, Int32.reduceAdd, Int32.reduceSub, Int32.reduceMul, Int32.reduceDiv, Int32.reduceMod, ↓reduceIte, Option.bind_some, g0, hn1, zi_p0 hn2, ewa, e1, hne, zqg_15_5 k1, zqg_15_5 k2, e3, e4, e5]
      · have e1 : mX9_make N (b + 75) 0 12 (Int32.ofNat n) (zc w b C0 M r0) = some (zc w b C0 M' r0, Int64.ofNat (tt + 1)) := m2 C0 r0
        have f1 : mX9_popValue N (b + 75) (zc w b C0 M' r0) = some (zc w b C0 (zMD M' f0 t) r0, M'.2 45 (12 * f0 + t)) := zn_pop (N := N) (w := w) (b := b) (M := M') (t := t) h1 m5.2.2.2.2.2.2.1 fr1.2.1 (by omega) C0 r0
        have f8 : mX9_pushValue N (b + 75) 3 (Int64.ofNat (tt + 1)) (zc w b C0 (zMD M' f0 t) r0) = some (zc w b C0 (zMP (zMD M' f0 t) f0 t 3 (Int64.ofNat (tt + 1))) r0) := zn_push (N := N) (w := w) (b := b) (M := zMD M' f0 t) (t := t) h1 (zmd100.trans m5.2.2.2.2.2.2.1) zmd42 (by omega) 3 _ C0 r0
        have f9 : mX9_step_327 N (b + 75) (Int32.ofNat f0) (Int32.ofNat p) 1 (zc w b C0 (zMP (zMD M' f0 t) f0 t 3 (Int64.ofNat (tt + 1))) r0) = some (zc w b C0 (zJ (zMP (zMD M' f0 t) f0 t 3 (Int64.ofNat (tt + 1))) 41 f0 (Int32.ofNat (p + 1))) r0) := zn_on (N := N) (w := w) (b := b) (M := zMP (zMD M' f0 t) f0 t 3 (Int64.ofNat (tt + 1))) (p := p) (n := 1) h1 (zmp100.trans (zmd100.trans m6.2.2.1)) (zmp100.trans (zmd100.trans m6.2.2.2.1)) C0 r0
        have h49 := m6.2.2.1
        have cw' : lg_cmp (Int64.ofNat (zwd 12 n)) (Int64.ofNat w) ≤ 0 := zw_le.mpr (by rw [zl_le (by omega) (by omega)]; exact m9)
        refine (fstep C0 r0).trans ?_
        rw [hv] at cmp
        simp (decide := true) only [mX9_step_74, mX9_doThing_256, mX9_doThing_141, mX9_doThing_120, mX9_doThing_85, mX9_doThing_52, mX9_doThing_246, mX9_doThing_243, mX9_doThing_219, mX9_doThing_190, mX9_doThing_189, mX9_doThing_158, mX9_doThing_35, mX9_doThing_0, mX9_doThing, zqk_75, id, fp, hv, cmp, ewm, zqg_75_1, e1w, cw', Int64.toInt32_ofNat', e1, zqg_75_49, h49, f1, f8, f9, Option.map_some, Int32.reduceLT, Int32.reduceLE, Int32.reduceAdd, Int32.reduceSub, Int32.reduceMul, Int32.reduceDiv, Int32.reduceMod, ↓reduceIte, Option.bind_some]
        rfl
  · have cmp : ¬ 0 ≤ lg_cmp (M.2 45 (12 * f0 + t)) 0 := fun q => cn (by
      rw [lg_cmp_ge, hint] at q
      have q' := Int64.le_iff_toInt_le.mp q
      rw [Int32.toInt_toInt64] at q'
      exact Int32.le_iff_toInt_le.mpr q')
    refine zStp_e (e := 4) hN hw hS h7 hR hO (by decide) (fun M0 => ?_) (Or.inl ⟨Int32.ofNat f0, Int32.ofNat p, 1, fun C0 r0 => ?_⟩)
    · simp (decide := true) only [mX4_step_107, mX4_step_249, mX4_step_0, mX4_step, mX4_makeArray_0, mX4_makeArray, e0, zqg_15_5 h2, zqkF h1, id, zqk_15, zqk_16, zqg_15_2, Option.map_some, Int32.reduceLT, Int32.reduceLE, Int32.reduceAdd, Int32.reduceSub, Int32.reduceMul, Int32.reduceDiv, Int32.reduceMod, ↓reduceIte, Option.bind_some, g0, cn]
      rfl
    · refine (fstep C0 r0).trans ?_
      simp (decide := true) only [mX9_step_74, mX9_doThing_256, mX9_doThing_141, mX9_doThing_120, mX9_doThing_85, mX9_doThing_52, mX9_doThing_246, mX9_doThing_243, mX9_doThing_219, mX9_doThing_190, mX9_doThing_189, mX9_doThing_158, mX9_doThing_35, mX9_doThing_0, mX9_doThing, zqk_75, id, fp, cmp, Option.map_some, Int32.reduceLT, Int32.reduceLE, Int32.reduceAdd, Int32.reduceSub, Int32.reduceMul, Int32.reduceDiv, Int32.reduceMod, ↓reduceIte, Option.bind_some]
      show Option.bind _ _ = (mX9_fail N (b + 75) 4 (zc w b C0 M r0)).bind _
      cases mX9_fail N (b + 75) 4 (zc w b C0 M r0) <;> rfl

end ZMD
