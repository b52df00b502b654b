/-! ===== a call, a return, in both ===== -/
theorem zpop_args {kd : Nat → Nat} {st : Nat → Nat} : ∀ {n t : Nat} {s : List Nat}, zpop (zargs kd n) (zrv st t) = some s → ∃ T, t = T + n ∧ s = zrv st T ∧ ∀ k, k < n → st (T + k) = kd k
  | 0, t, s, h => ⟨t, rfl, zpop0 h, fun k hk => absurd hk (Nat.not_lt_zero k)⟩
  | n + 1, t, s, h => by
    obtain ⟨t', e1, e2, e3⟩ := zpopc (show zpop (kd n :: zargs kd n) (zrv st t) = some s from h)
    obtain ⟨T, f1, f2, f3⟩ := zpop_args e3
    refine ⟨T, by omega, f2, fun k hk => ?_⟩
    by_cases c : k = n
    · rw [c, ← f1]; exact e2
    · exact f3 k (by omega)
section ZCR
variable {N w b K S f0 t p m : Nat} {F ρ α π lt st : Nat → Nat} {D : Nat → Nat → Prop} {C : zC} {M : zM} {r : zv_X} {Q : zQo} {φ : Nat → zFd}
theorem zs_184 (hN : 1700 < N) (hw : w ≤ 400) (hS : S + 1 < 2 ^ 31) (h7 : ∀ k, k < 7 → F k = 0) (hR : zRn w b K F ρ α π r Q D C M S f0 φ) (hO : zOn C M) (hφ : φ f0 = (t, p, m, lt, st)) (hop : uC (Q.2.2.1 m) p = 184) : zStp N w b K F ρ α π r Q C M S := by
  obtain ⟨hc, hm, hK, l', hl, s1, hp, s2, l2, hh, hlen, hfl⟩ := hR.ty hO hφ hop
  have hp : zpop [] (zrv st t) = some s1 := hp
  have hp := zpop0 hp
  subst hp
  have hh : (if uC (Q.2.2.1 m) (p + 1) ≤ m then (zpop (zargs (uKd (Q.2.2.1 (uC (Q.2.2.1 m) (p + 1)))) (uNa (Q.2.2.1 (uC (Q.2.2.1 m) (p + 1))))) (zrv st t)).map fun st => (if uRs (Q.2.2.1 (uC (Q.2.2.1 m) (p + 1))) = 0 then st else uRs (Q.2.2.1 (uC (Q.2.2.1 m) (p + 1))) :: st, l') else none) = some (s2, l2) := hh
  obtain ⟨ha, hh⟩ := zg hh
  generalize hA : uC (Q.2.2.1 m) (p + 1) = a at *
  cases hpa : zpop (zargs (uKd (Q.2.2.1 a)) (uNa (Q.2.2.1 a))) (zrv st t) with
  | none => rw [hpa] at hh; cases hh
  | some s3 =>
    obtain ⟨T, e1, e2, e3⟩ := zpop_args hpa
    subst e1
    subst e2
    have hR' := hR
    have hc' := hc
    obtain ⟨r1, r2, r3, r4, r5, r6, r7, r8, r9, r10, r11, r12, t1, t2, t3⟩ := hR
    obtain ⟨n1, n2, n3, n4, n5, n6⟩ := hO
    obtain ⟨h1, h2, h3, h4, h5, hfr, _, h8, h9, h10, h11, h12⟩ := hc
    rw [hop] at h12
    have h12 : p + 2 ≤ uLen (Q.2.2.1 m) := h12
    obtain ⟨a1, a2, a3, a4, a5, a6, a7, a8, a9⟩ := hfr
    have hnm := r3.1
    obtain ⟨g1, g2, g3, g4⟩ := r3.2.2.2 a (by omega)
    have hna := g3.2.2.2.2.2.1
    have opd : ∀ M0, mX1_operand N (b + (3 * f0 + 27)) 1 (zc w b C M0 r) = some (zc w b C M0 r, Int32.ofNat a) := fun M0 => by
      have := ze_operand (N := N) (w := w) (b := b) (C := C) (r := r) (k := 1) h1 h8 h10 a6 a4 (by omega) M0
      rw [hA] at this
      exact this
    have e0 : ∀ M0, mX1_opcode N (b + (3 * f0 + 27)) (zc w b C M0 r) = some (zc w b C M0 r, 184) := fun M0 => ze_step0 (N := N) (w := w) hc' hop M0
    have fstep : ∀ C0 r0, mX9_step N (b + 75) (zc w b C0 M r0) = mX9_step_74 N (b + 75) (Int32.ofNat f0) (Int32.ofNat m) (Int32.ofNat p) 184 2 (Int32.ofNat a) 0 (zc w b C0 M r0) := fun C0 r0 => zn_step (N := N) (w := w) hc' hop (n := 2) (x := a) (y := 0) rfl (by rw [if_neg (by decide), hA]) rfl C0 r0
    by_cases c15 : f0 = 15
    · refine zStp_e (e := 6) hN hw hS h7 hR' ⟨n1, n2, n3, n4, n5, n6⟩ (by decide) (fun M0 => ?_) (Or.inr fun C0 r0 => ?_)
      · have e6 : C.1 15 6 + 1 = 16 := by rw [r5, c15]; decide
        simp (decide := true) only [mX4_step_107, mX4_step_249, mX4_step_0, mX4_step, mX4_call, mX4_call_0, e0, zqg_15_5 h2, zqkF h1, id, zqk_15, opd, zqg_15_6, e6, Option.map_some, Int32.reduceLT, Int32.reduceLE, Int32.reduceAdd, Int32.reduceSub, Int32.reduceMul, Int32.reduceDiv, Int32.reduceMod, ↓reduceIte, Option.bind_some]
        rfl
      · refine (fstep C0 r0).trans ?_
        have e47 : M.1 100 47 = 16 := by rw [r7, c15]; rfl
        simp (decide := true) only [mX9_step_74, mX9_doCall, mX9_doCall_0, zqk_75, zqg_75_47, e47, id, Option.map_some, Int32.reduceLT, Int32.reduceLE, Int32.reduceAdd, Int32.reduceSub, Int32.reduceMul, Int32.reduceDiv, Int32.reduceMod, ↓reduceIte, Option.bind_some]
        show ((mX9_raise N (b + 75) 6 (zc w b C0 M r0)).bind _).bind _ = mX9_raise N (b + 75) 6 (zc w b C0 M r0)
        cases mX9_raise N (b + 75) 6 (zc w b C0 M r0) <;> rfl
    · have hf1 : f0 + 1 < 16 := by omega
      -- the class's stores
      have cB : ∀ o k, o ≠ f0 + 1 + 100 → o ≠ f0 + 1 + 140 → ¬ (o = 15 ∧ k = 6) → (zBg (zV (zI C 15 6 (Int32.ofNat (f0 + 1))) 15 5 (.ref (b + (3 * (f0 + 1) + 27)))) (f0 + 1) (Q.2.1 a)).1 o k = C.1 o k := fun o k q1 q2 q3 => by
        unfold zBg
        rw [zFill_o q2, zI1, if_neg (fun q => q1 q.1), zI1, if_neg (fun q => q1 q.1), zV1, zV1, zI1, if_neg q3]
      have cB2 : (zBg (zV (zI C 15 6 (Int32.ofNat (f0 + 1))) 15 5 (.ref (b + (3 * (f0 + 1) + 27)))) (f0 + 1) (Q.2.1 a)).2.1 = C.2.1 := rfl
      have cB3 : ∀ o k, (zBg (zV (zI C 15 6 (Int32.ofNat (f0 + 1))) 15 5 (.ref (b + (3 * (f0 + 1) + 27)))) (f0 + 1) (Q.2.1 a)).2.2 o k = if o = f0 + 1 + 100 ∧ k = 3 then .ref (Q.2.1 a) else if o = 15 ∧ k = 5 then .ref (b + (3 * (f0 + 1) + 27)) else C.2.2 o k := fun o k => rfl
      have cBt : (zBg (zV (zI C 15 6 (Int32.ofNat (f0 + 1))) 15 5 (.ref (b + (3 * (f0 + 1) + 27)))) (f0 + 1) (Q.2.1 a)).1 (f0 + 1 + 100) 2 = Int32.ofNat (16 + 0) := by unfold zBg; rw [zFill_o (by omega), zI1, if_pos ⟨rfl, rfl⟩]
      have cBp : (zBg (zV (zI C 15 6 (Int32.ofNat (f0 + 1))) 15 5 (.ref (b + (3 * (f0 + 1) + 27)))) (f0 + 1) (Q.2.1 a)).1 (f0 + 1 + 100) 4 = Int32.ofNat 0 := by unfold zBg; rw [zFill_o (by omega), zI1, if_neg (by omega), zI1, if_pos ⟨rfl, rfl⟩]; rfl
      have cBr : ∀ k, k < 16 → (zBg (zV (zI C 15 6 (Int32.ofNat (f0 + 1))) 15 5 (.ref (b + (3 * (f0 + 1) + 27)))) (f0 + 1) (Q.2.1 a)).1 (f0 + 1 + 140) k = 0 := fun k hk => if_pos ⟨rfl, Nat.zero_le k, by omega⟩
      have c6 : (zBg (zV (zI C 15 6 (Int32.ofNat (f0 + 1))) 15 5 (.ref (b + (3 * (f0 + 1) + 27)))) (f0 + 1) (Q.2.1 a)).1 15 6 = Int32.ofNat (f0 + 1) := by
        unfold zBg
        rw [zFill_o (by omega), zI1, if_neg (by omega), zI1, if_neg (by omega), zV1, zV1, zI1, if_pos ⟨rfl, rfl⟩]
      generalize hCB : zBg (zV (zI C 15 6 (Int32.ofNat (f0 + 1))) 15 5 (.ref (b + (3 * (f0 + 1) + 27)))) (f0 + 1) (Q.2.1 a) = CB at *
      have ct : CB.1 (f0 + 100) 2 = Int32.ofNat (16 + (T + uNa (Q.2.2.1 a))) := (cB _ _ (by omega) (by omega) (by omega)).trans a1
      have cdrop : zHC w b (mX1_drop N (b + (3 * f0 + 27)) (Int32.ofNat (uNa (Q.2.2.1 a)))) CB r id (zI CB (f0 + 100) 2 (Int32.ofNat (16 + T))) r := by
        have := zf_drop (N := N) (w := w) (b := b) (C := CB) (r := r) (k := uNa (Q.2.2.1 a)) h1 ct a3 (by omega)
        rw [Nat.add_sub_cancel] at this
        exact this
      obtain ⟨C', k1, k2, k3, k4, k5⟩ := zd_take15 (N := N) (w := w) (b := b) (r := r) (f := f0 + 1) (g := f0) (n := uNa (Q.2.2.1 a)) (T := 16 + T) hf1 h1 (by omega) hna (by omega) (uNa (Q.2.2.1 a)) N 0 (zI CB (f0 + 100) 2 (Int32.ofNat (16 + T))) (by omega) (by omega) (by rw [zI1, if_pos ⟨rfl, rfl⟩])
      have oC : ∀ o k, o ≠ f0 + 1 + 100 → o ≠ f0 + 1 + 140 → ¬ (o = 15 ∧ k = 6) → ¬ (o = f0 + 100 ∧ k = 2) → C'.1 o k = C.1 o k := fun o k q1 q2 q3 q4 => by
        rw [k3 o k (by omega), zI1, if_neg q4]; exact cB o k q1 q2 q3
      have oL : ∀ o k, o ≠ f0 + 1 + 120 → C'.2.1 o k = C.2.1 o k := fun o k q => by
        rw [k4 o k (by omega), zI2, cB2]
      have oV : ∀ o k, C'.2.2 o k = if o = f0 + 1 + 100 ∧ k = 3 then .ref (Q.2.1 a) else if o = 15 ∧ k = 5 then .ref (b + (3 * (f0 + 1) + 27)) else C.2.2 o k := fun o k => by
        rw [k5, zI2]; exact cB3 o k
      -- the reference's stores
      have mo := zn_open (N := N) (w := w) (b := b) (M := M) (F := f0 + 1) (m := a) (by omega) r7 hf1
      have oO : ∀ o k, ¬ (k = f0 + 1 ∧ (o = 40 ∨ o = 41 ∨ o = 42)) → ¬ (o = 44 ∧ 16 * (f0 + 1) ≤ k ∧ k < 16 * (f0 + 1) + 16) → (zMo M (f0 + 1) a 16).1 o k = M.1 o k := fun o k q1 q2 => by
        show (if o = 44 ∧ 16 * (f0 + 1) ≤ k ∧ k < 16 * (f0 + 1) + 16 then 0 else (zJ (zJ (zJ M 40 (f0 + 1) (Int32.ofNat a)) 41 (f0 + 1) 0) 42 (f0 + 1) 0).1 o k) = _
        rw [if_neg q2, zJ1, if_neg (by omega), zJ1, if_neg (by omega), zJ1, if_neg (by omega)]
      have oO2 : ∀ o k, ¬ (o = 43 ∧ 16 * (f0 + 1) ≤ k ∧ k < 16 * (f0 + 1) + 16) → (zMo M (f0 + 1) a 16).2 o k = M.2 o k := fun o k q => if_neg q
      obtain ⟨M', m1, m2, m3, m4, m5, m6⟩ := zn_dc30 (N := N) (w := w) (b := b) (F := f0) (a := a) (n := uNa (Q.2.2.1 a)) (T := T) (kd := uKd (Q.2.2.1 a)) (by omega) (by omega) hna (by omega) (uNa (Q.2.2.1 a)) N (zMo M (f0 + 1) a 16) (Nat.le_refl _) (by omega) ((oO _ _ (by omega) (by omega)).trans r7) ((oO _ _ (by omega) (by omega)).trans a2) (fun i hi => (oO _ _ (by omega) (by omega)).trans (g2.2.2.2.2.2.1 i hi))
      have oM : ∀ o k, ¬ (o = 100 ∧ k = 47) → ¬ (o = 42 ∧ k = f0) → ¬ (k = f0 + 1 ∧ (o = 40 ∨ o = 41 ∨ o = 42)) → ¬ (o = 44 ∧ 16 * (f0 + 1) ≤ k ∧ k < 16 * (f0 + 1) + 16) → M'.1 o k = M.1 o k := fun o k q1 q2 q3 q4 => (m5 o k q1 q2 (by omega)).trans (oO o k q3 q4)
      have oM2 : ∀ o k, ¬ (o = 43 ∧ 16 * (f0 + 1) ≤ k ∧ k < 16 * (f0 + 1) + 16) → M'.2 o k = M.2 o k := fun o k q => (m6 o k (by omega)).trans (oO2 o k q)
      have sc : zSC C C' := ⟨fun o k h => oC o k (by omega) (by omega) (by omega) (by omega), fun o k h => by rw [oV, if_neg (by omega), if_neg (by omega)], oC _ _ (by omega) (by omega) (by omega) (by omega), oC _ _ (by omega) (by omega) (by omega) (by omega)⟩
      have sm : zSM M M' := ⟨fun o k h => oM o k (by omega) (by omega) (by omega) (by omega), fun k h => oM _ _ (by omega) (by omega) (by omega) (by omega), fun k => oM2 _ _ (by omega)⟩
      have mm : (φ f0).2.2.1 = m := by rw [hφ]
      -- the new frame
      have new : zFr D C' M' Q.2.1 (f0 + 1) 0 0 a (fun k => if k < uNa (Q.2.2.1 a) then uKd (Q.2.2.1 a) k else 0) (fun _ => 1) := by
        refine ⟨?_, ?_, by omega, ?_, ?_, ?_, ?_, fun k hk => ?_, fun k hk => absurd hk (Nat.not_lt_zero k)⟩
        · rw [k3 _ _ (by omega), zI1, if_neg (by omega)]; exact cBt
        · rw [m5 _ _ (by omega) (by omega) (by omega)]
          show (if 42 = 44 ∧ 16 * (f0 + 1) ≤ f0 + 1 ∧ f0 + 1 < 16 * (f0 + 1) + 16 then 0 else (zJ (zJ (zJ M 40 (f0 + 1) (Int32.ofNat a)) 41 (f0 + 1) 0) 42 (f0 + 1) 0).1 42 (f0 + 1)) = _
          rw [if_neg (by omega), zJ1, if_pos ⟨rfl, rfl⟩]
          rfl
        · rw [k3 _ _ (by omega), zI1, if_neg (by omega)]; exact cBp
        · rw [m5 _ _ (by omega) (by omega) (by omega)]
          show (if 41 = 44 ∧ 16 * (f0 + 1) ≤ f0 + 1 ∧ f0 + 1 < 16 * (f0 + 1) + 16 then 0 else (zJ (zJ (zJ M 40 (f0 + 1) (Int32.ofNat a)) 41 (f0 + 1) 0) 42 (f0 + 1) 0).1 41 (f0 + 1)) = _
          rw [if_neg (by omega), zJ1, if_neg (by omega), zJ1, if_pos ⟨rfl, rfl⟩]
          rfl
        · rw [oV, if_pos ⟨rfl, rfl⟩]
        · rw [m5 _ _ (by omega) (by omega) (by omega)]
          show (if 40 = 44 ∧ 16 * (f0 + 1) ≤ f0 + 1 ∧ f0 + 1 < 16 * (f0 + 1) + 16 then 0 else (zJ (zJ (zJ M 40 (f0 + 1) (Int32.ofNat a)) 41 (f0 + 1) 0) 42 (f0 + 1) 0).1 40 (f0 + 1)) = _
          rw [if_neg (by omega), zJ1, if_neg (by omega), zJ1, if_neg (by omega), zJ1, if_pos ⟨rfl, rfl⟩]
        · show M'.1 44 (16 * (f0 + 1) + k) = Int32.ofNat (if k < uNa (Q.2.2.1 a) then uKd (Q.2.2.1 a) k else 0) ∧ (if k < uNa (Q.2.2.1 a) then uKd (Q.2.2.1 a) k else 0) ≤ 3 ∧ zSl D (if k < uNa (Q.2.2.1 a) then uKd (Q.2.2.1 a) k else 0) _ _ _
          by_cases c : k < uNa (Q.2.2.1 a)
          · rw [if_pos c]
            obtain ⟨q1, q2⟩ := m4 k c
            obtain ⟨q3, q4⟩ := k2 k (Nat.zero_le k) c
            obtain ⟨b1, b2, b3, b4⟩ := a9 (T + k) (by omega)
            rw [e3 k c] at b3 b4
            refine ⟨q1, b3, ?_⟩
            rw [q2, q3, q4, oO2 _ _ (by omega), zI2, cB2, zI1, if_neg (by omega), cB _ _ (by omega) (by omega) (by omega), show 16 + T + k = 16 + (T + k) by omega]
            exact b4
          · rw [if_neg c, m5 _ _ (by omega) (by omega) (by omega)]
            have z1 : (zMo M (f0 + 1) a 16).1 44 (16 * (f0 + 1) + k) = 0 := if_pos ⟨rfl, by omega, by omega⟩
            refine ⟨z1, by omega, Or.inr ⟨by decide, ?_, fun h => absurd rfl h, fun h => absurd h (by decide)⟩⟩
            rw [k3 _ _ (by omega), zI1, if_neg (by omega)]
            exact cBr k hk
      have old : zFr D C' M' Q.2.1 f0 T p m lt st := by
        refine ⟨?_, m3, by omega, (oC _ _ (by omega) (by omega) (by omega) (by omega)).trans a4, (oM _ _ (by omega) (by omega) (by omega) (by omega)).trans a5, ?_, (oM _ _ (by omega) (by omega) (by omega) (by omega)).trans a7, fun k hk => ?_, fun k hk => ?_⟩
        · rw [k3 _ _ (by omega), zI1, if_pos ⟨rfl, rfl⟩]
        · rw [oV, if_neg (by omega), if_neg (by omega)]; exact a6
        · rw [oM _ _ (by omega) (by omega) (by omega) (by omega), oM2 _ _ (by omega), oL _ _ (by omega), oC _ _ (by omega) (by omega) (by omega) (by omega)]
          exact a8 k hk
        · rw [oM _ _ (by omega) (by omega) (by omega) (by omega), oM2 _ _ (by omega), oL _ _ (by omega), oC _ _ (by omega) (by omega) (by omega) (by omega)]
          exact a9 k (by omega)
      refine ⟨C', M', fun M0 => ?_, fun C0 r0 => ?_, sc, sm, S, Nat.le_succ S, Or.inl ⟨D, f0 + 1, fun f => if f = f0 + 1 then (0, 0, a, (fun k => if k < uNa (Q.2.2.1 a) then uKd (Q.2.2.1 a) k else 0), fun _ => 1) else if f = f0 then (T, p, m, lt, st) else φ f, ⟨r1.sc sc sm, r2.cong (fun o k q1 q2 => oC o k (by omega) (by omega) (by omega) (by omega)) (fun o k q1 q2 => oM o k (by omega) (by omega) (by omega) (by omega)) (oM _ _ (by omega) (by omega) (by omega) (by omega)) (oM _ _ (by omega) (by omega) (by omega) (by omega)) (fun k => oM2 _ _ (by omega)), r3.sc sc sm, hf1, ?_, ?_, m2, (oC _ _ (by omega) (by omega) (by omega) (by omega)).trans r8, (oM _ _ (by omega) (by omega) (by omega) (by omega)).trans r9, ?_, ?_, fun f hf => ?_, fun f hf => ?_, ?_, fun f hf => ?_⟩, ?_⟩⟩
      · -- class
        have eg : mJx4a65c_get_915e3 N (b + 8) (Int32.ofNat a) (zc w b (zV (zI C 15 6 (Int32.ofNat (f0 + 1))) 15 5 (.ref (b + (3 * (f0 + 1) + 27)))) M0 r) = some (zc w b (zV (zI C 15 6 (Int32.ofNat (f0 + 1))) 15 5 (.ref (b + (3 * (f0 + 1) + 27)))) M0 r, Q.2.1 a) := zd_get (N := N) (w := w) (b := b) (C := zV (zI C 15 6 (Int32.ofNat (f0 + 1))) 15 5 (.ref (b + (3 * (f0 + 1) + 27)))) (r := r) (nm := Q.1) (ra := Q.2.1) (i := a) (by
          have hL := r3.2.2.1
          unfold zLst at hL ⊢
          rw [zV1, zI1, if_neg (by omega), zV3, if_neg (by omega)]
          exact hL) (by omega) hnm M0
        have eb : mX1_begin N (b + (3 * (f0 + 1) + 27)) (Q.2.1 a) (zc w b (zV (zI C 15 6 (Int32.ofNat (f0 + 1))) 15 5 (.ref (b + (3 * (f0 + 1) + 27)))) M0 r) = some (zc w b CB M0 r) := by
          rw [← hCB]
          exact zd_begin (N := N) (w := w) (b := b) (C := zV (zI C 15 6 (Int32.ofNat (f0 + 1))) 15 5 (.ref (b + (3 * (f0 + 1) + 27)))) (r := r) (a := Q.2.1 a) (by omega) hf1 M0
        have er : CB.2.2 (f0 + 1 + 100) 3 = .ref (Q.2.1 a) := by rw [cB3, if_pos ⟨rfl, rfl⟩]
        have e5 : CB.2.2 15 5 = .ref (b + (3 * (f0 + 1) + 27)) := by rw [cB3, if_neg (by omega), if_pos ⟨rfl, rfl⟩]
        have eN : zm_I (zc w b CB M0 r) (Q.2.1 a) 6 2 = some (Int32.ofNat (uNa (Q.2.2.1 a))) := by
          obtain ⟨ha0, cf, hf, q1, _⟩ := g1
          unfold zm_I; rw [zo_g ((zc_o ha0).trans q1)]; rfl
        have et : mX1_takeArguments N (b + (3 * (f0 + 1) + 27)) (b + (3 * f0 + 27)) (zc w b CB M0 r) = some (zc w b C' M0 r) := by
          unfold mX1_takeArguments mX1_takeArguments_0
          rw [zqgF_3 hf1 er, Option.bind_some, eN, Option.bind_some, zqkF h1, if_pos rfl]
          have := cdrop M0
          rw [this, Option.bind_some]
          exact k1 M0
        have kR : ∀ CX : zC, zm_k (zc w b CX M0 r) (Q.2.1 a) 6 = true := fun CX => ze_kR g1
        have x6 : C.1 15 6 + 1 = Int32.ofNat (f0 + 1) := by rw [r5]; exact zi_add f0 1
        have ne16 : ¬ Int32.ofNat (f0 + 1) = 16 := fun q => by
          have := zi_inj (a := f0 + 1) (b := 16) (by omega) (by omega) q
          omega
        have y6 : (zI C 15 6 (Int32.ofNat (f0 + 1))).1 15 6 = Int32.ofNat (f0 + 1) := by rw [zI1, if_pos ⟨rfl, rfl⟩]
        have y5 : (zV (zI C 15 6 (Int32.ofNat (f0 + 1))) 15 5 (.ref (b + (3 * (f0 + 1) + 27)))).2.2 15 5 = .ref (b + (3 * (f0 + 1) + 27)) := by rw [zV3, if_pos ⟨rfl, rfl⟩]
        unfold zcs
        simp (decide := true) only [mX4_step_107, mX4_step_249, mX4_step_0, mX4_step, mX4_call, mX4_call_0, e0, zqg_15_5 h2, zqkF h1, id, zqk_15, opd, zqg_15_6, x6, ne16, zqp_15_6, zqg_15_4, y6, zqa_23 hf1, zqp_15_5, zqg_15_5 y5, zqg_15_1, zqk_8, eg, kR, zqkF hf1, eb, zqg_15_5 e5, et, Option.map_some, Int32.reduceLT, Int32.reduceLE, Int32.reduceAdd, Int32.reduceSub, Int32.reduceMul, Int32.reduceDiv, Int32.reduceMod, ↓reduceIte, Option.bind_some]
      · refine (fstep C0 r0).trans ?_
        have e47 : ¬ M.1 100 47 = 16 := fun q => by
          rw [r7] at q
          have := zi_inj (a := f0 + 1) (b := 16) (by omega) (by omega) q
          omega
        have eo : mX9_open N (b + 75) (Int32.ofNat a) (zc w b C0 M r0) = some (zc w b C0 (zMo M (f0 + 1) a 16) r0) := mo C0 r0
        have e12 : (zMo M (f0 + 1) a 16).1 12 a = Int32.ofNat (uNa (Q.2.2.1 a)) := (oO _ _ (by omega) (by omega)).trans g2.2.2.2.2.1
        have ed : mX9_doCall_30 N N (b + 75) (Int32.ofNat a) (Int32.ofNat (uNa (Q.2.2.1 a)) - 1) (zc w b C0 (zMo M (f0 + 1) a 16) r0) = some (zc w b C0 M' r0) := by
          rw [show (Int32.ofNat (uNa (Q.2.2.1 a)) - 1 : Int32) = Int32.ofNat (uNa (Q.2.2.1 a)) + (-1) from Int32.sub_eq_add_neg _ _]
          exact m1 C0 r0
        have e12' : zm_aI (zc w b C0 (zMo M (f0 + 1) a 16) r0) (b + 83) (Int32.ofNat a) = some (Int32.ofNat (uNa (Q.2.2.1 a))) := by rw [zqa_83 (by omega), e12]
        simp (decide := true) only [mX9_step_74, mX9_doCall, mX9_doCall_0, zqk_75, zqg_75_47, e47, eo, zqg_75_12, e12', ed, id, Option.map_some, Int32.reduceLT, Int32.reduceLE, Int32.reduceAdd, Int32.reduceSub, Int32.reduceMul, Int32.reduceDiv, Int32.reduceMod, ↓reduceIte, Option.bind_some]
      · rw [k3 _ _ (by omega), zI1, if_neg (by omega)]; exact c6
      · rw [oV, if_neg (by omega), if_pos ⟨rfl, rfl⟩]
      · rw [oC _ _ (by omega) (by omega) (by omega) (by omega), oM _ _ (by omega) (by omega) (by omega) (by omega)]; exact r10
      · rw [oC _ _ (by omega) (by omega) (by omega) (by omega), oM _ _ (by omega) (by omega) (by omega) (by omega)]; exact r11
      · show zFa D C' M' Q.2.1 f (if f = f0 + 1 then _ else if f = f0 then _ else φ f)
        by_cases c : f = f0 + 1
        · rw [if_pos c, c]; exact new
        · rw [if_neg c]
          by_cases d : f = f0
          · rw [if_pos d, d]; exact old
          · rw [if_neg d]
            refine zFr.mv2 (r12 f (by omega)) (oC _ _ (by omega) (by omega) (by omega) (by omega)) (oC _ _ (by omega) (by omega) (by omega) (by omega)) (by rw [oV, if_neg (by omega), if_neg (by omega)]) (fun k => oL _ _ (by omega)) (fun k => oC _ _ (by omega) (by omega) (by omega) (by omega)) (oM _ _ (by omega) (by omega) (by omega) (by omega)) (oM _ _ (by omega) (by omega) (by omega) (by omega)) (oM _ _ (by omega) (by omega) (by omega) (by omega)) (fun k hk => ⟨oM _ _ (by omega) (by omega) (by omega) (by omega), oM2 _ _ (by omega)⟩) (fun k hk => ⟨oM _ _ (by omega) (by omega) (by omega) (by omega), oM2 _ _ (by omega)⟩)
      · show (if f = f0 + 1 then ((0, 0, a, (fun k => if k < uNa (Q.2.2.1 a) then uKd (Q.2.2.1 a) k else 0), fun _ => 1) : zFd) else if f = f0 then (T, p, m, lt, st) else φ f).2.2.1 < Q.1
        by_cases c : f = f0 + 1
        · rw [if_pos c]; show a < Q.1; omega
        · rw [if_neg c]
          by_cases d : f = f0
          · rw [if_pos d]; exact hm
          · rw [if_neg d]; exact t1 f (by omega)
      · show zT0 Q (if f0 + 1 = f0 + 1 then _ else _)
        rw [if_pos rfl]
        obtain ⟨⟨l, y1, y2⟩, _⟩ := g4
        refine ⟨l, y1, fun k hk => ?_⟩
        rcases y2 k hk with q | ⟨q1, q2⟩
        · exact Or.inl q
        · refine Or.inr ?_
          show l k = if k < uNa (Q.2.2.1 a) then uKd (Q.2.2.1 a) k else 0
          rw [if_pos q1]; exact q2
      · show zT1 Q (if f = f0 + 1 then _ else if f = f0 then ((T, p, m, lt, st) : zFd) else φ f) (if f + 1 = f0 + 1 then ((0, 0, a, (fun k => if k < uNa (Q.2.2.1 a) then uKd (Q.2.2.1 a) k else 0), fun _ => 1) : zFd) else if f + 1 = f0 then ((T, p, m, lt, st) : zFd) else φ (f + 1)).2.2.1
        rw [if_neg (by omega)]
        by_cases d : f = f0
        · rw [if_pos d, if_pos (by omega)]
          obtain ⟨l0, y1, y2⟩ := t2
          rw [hφ] at y1 y2
          exact ⟨hop, hA, _, l0, y1, y2, hpa⟩
        · rw [if_neg d, if_neg (by omega)]
          have h := t3 f (by omega)
          by_cases c : f + 1 = f0
          · rw [if_pos c]
            rw [c, mm] at h
            exact h
          · rw [if_neg c]; exact h
      · exact ⟨(oC _ _ (by omega) (by omega) (by omega) (by omega)).trans n1, (oM _ _ (by omega) (by omega) (by omega) (by omega)).trans n2, (oM _ _ (by omega) (by omega) (by omega) (by omega)).trans n3, (oM _ _ (by omega) (by omega) (by omega) (by omega)).trans n4, (oL _ _ (by omega)).trans n5, (oM2 _ _ (by omega)).trans n6⟩
end ZCR
