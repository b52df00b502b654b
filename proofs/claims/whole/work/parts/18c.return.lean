/-! ===== returns (written by wip/gen/ops7.py) ===== -/
section ZRE
variable {N w b K S f0 t p m : Nat} {F ρ α π lt st : Nat → Nat} {D : Nat → Nat → Prop} {C : zC} {M : zM} {r : zv_X} {Q : zQo} {φ : Nat → zFd}
theorem zT1.ret {tg pg mg : Nat} {ltg stg : Nat → Nat} (hG : zgood (K, F, ρ, Q.2.2.1) mg (Q.2.2.1 mg) (Q.2.2.2 mg)) (hK : zMuOk K (Q.2.2.1 mg)) (h : zT1 Q (tg, pg, mg, ltg, stg) m) : ∃ l3, Q.2.2.2 mg (pg + 2) = some (if uRs (Q.2.2.1 m) = 0 then zrv stg tg else uRs (Q.2.2.1 m) :: zrv stg tg, l3) ∧ zLe l3 ltg ∧ (uRs (Q.2.2.1 m) ≠ 0 → tg < 12) := by
  obtain ⟨y0, y1, st0, l0, y2, y3, y4⟩ := h
  have y0 : uC (Q.2.2.1 mg) pg = 184 := y0
  have y1 : uC (Q.2.2.1 mg) (pg + 1) = m := y1
  have y4 : zpop (zargs (uKd (Q.2.2.1 m)) (uNa (Q.2.2.1 m))) st0 = some (zrv stg tg) := y4
  obtain ⟨e1, e2, e3, e4, ⟨s', l2, e5, e6, e7⟩, e8⟩ := hG.2.2 pg _ _ y2
  rw [y0, y1] at e5
  rw [y0] at e7
  have e5 : (if m ≤ mg then (zpop (zargs (uKd (Q.2.2.1 m)) (uNa (Q.2.2.1 m))) st0).map (fun st => (if uRs (Q.2.2.1 m) = 0 then st else uRs (Q.2.2.1 m) :: st, l0)) else none).bind (fun q => if ([] ++ q.1).length ≤ uSk (Q.2.2.1 mg) then some ([] ++ q.1, q.2) else none) = some (s', l2) := e5
  rw [y4] at e5
  by_cases c : m ≤ mg
  · rw [if_pos c, Option.map_some, Option.bind_some] at e5
    obtain ⟨hlen, e9⟩ := zg e5
    have e10 : (if uRs (Q.2.2.1 m) = 0 then zrv stg tg else uRs (Q.2.2.1 m) :: zrv stg tg) = s' := congrArg Prod.fst (Option.some.inj e9)
    have e11 : l0 = l2 := congrArg Prod.snd (Option.some.inj e9)
    obtain ⟨f1, f2, l3, f3, f4⟩ := e7 (by unfold zgoes; decide)
    refine ⟨l3, ?_, ?_, fun h0 => ?_⟩
    · rw [e10]; exact f3
    · rw [← e11] at f4; exact zLe.tr f4 y3
    · have hlen : ([] ++ (if uRs (Q.2.2.1 m) = 0 then zrv stg tg else uRs (Q.2.2.1 m) :: zrv stg tg)).length ≤ uSk (Q.2.2.1 mg) := hlen
      rw [if_neg h0] at hlen
      have hlen : (zrv stg tg).length + 1 ≤ uSk (Q.2.2.1 mg) := hlen
      rw [zrv_len] at hlen
      have := hK.2.2.2.2.2.2.2.2.2.1
      omega
  · rw [if_neg c] at e5; cases e5
theorem zs_172 (hR : zRn w b K F ρ α π r Q D C M S f0 φ) (hO : zOn C M) (hφ : φ f0 = (t, p, m, lt, st)) (hop : uC (Q.2.2.1 m) p = 172) : zStp N w b K F ρ α π r Q C M S := by
  obtain ⟨hc, hm, hK, l', hl, s1, hp, s2, l2, hh, hlen, hfl⟩ := hR.ty hO hφ hop
  have hh : (if uRs (Q.2.2.1 m) = 1 then some (s1, l') else none) = some (s2, l2) := hh
  obtain ⟨hrs, hh⟩ := zg hh
  clear hh
  have hp : zpop [1] (zrv st t) = some s1 := hp
  obtain ⟨t, rfl, k0, hp⟩ := zpopc hp
  have hc' := hc
  obtain ⟨r1, r2, r3, r4, r5, r6, r7, r8, r9, r10, r11, r12, t1, t2, t3⟩ := hR
  obtain ⟨n1, n2, n3, n4, n5, n6⟩ := hO
  obtain ⟨h1, h2, h3, h4, h5, hfr, _, h8, h9, h10, h11, h12⟩ := hc
  obtain ⟨a1, a2, a3, a4, a5, a6, a7, a8, a9⟩ := hfr
  have u0 := (a9 t (by omega)).2.2.2
  rw [k0] at u0
  have n0 := u0.num (Or.inl rfl)
  have e0 : ∀ M0, mX1_opcode N (b + (3 * f0 + 27)) (zc w b C M0 r) = some (zc w b C M0 r, 172) := fun M0 => ze_step0 (N := N) (w := w) hc' hop M0
  have fstep : ∀ C0 r0, mX9_step N (b + 75) (zc w b C0 M r0) = mX9_step_74 N (b + 75) (Int32.ofNat f0) (Int32.ofNat m) (Int32.ofNat p) 172 1 0 0 (zc w b C0 M r0) := fun C0 r0 => zn_step (N := N) (w := w) hc' hop (n := 1) rfl rfl rfl C0 r0
  have f1 : ∀ C0 r0, mX9_popValue N (b + 75) (zc w b C0 M r0) = some (zc w b C0 (zMD M f0 t) r0, M.2 45 (12 * f0 + t)) := fun C0 r0 => zn_pop (N := N) (w := w) (b := b) (M := M) (t := t) h1 h3 a2 (by omega) C0 r0
  have x47 : (zMD M f0 t).1 100 47 = Int32.ofNat (f0 + 1) := by unfold zMD; rw [zJ1, if_neg (by omega)]; exact r7
  have xs : (Int32.ofNat (f0 + 1) - 1 : Int32) = Int32.ofNat f0 := zi_sub (a := f0 + 1) (b := 1) (by omega)
  have y47 : (zJ (zMD M f0 t) 100 47 (Int32.ofNat f0)).1 100 47 = Int32.ofNat f0 := by rw [zJ1, if_pos ⟨rfl, rfl⟩]
  cases f0 with
  | zero =>
    refine ⟨(zL (zI C 15 7 0) 15 8 (M.2 45 (12 * 0 + t))), (zJ (zK (zJ (zMD M 0 t) 100 47 (Int32.ofNat 0)) 100 50 (M.2 45 (12 * 0 + t))) 100 49 1), fun M0 => ?_, fun C0 r0 => ?_, ⟨fun o k h => ?_, fun o k h => rfl, ?_, ?_⟩, ⟨fun o k h => ?_, fun k h => ?_, fun k => ?_⟩, S, Nat.le_succ S, Or.inr ⟨0, Or.inl rfl, ?_, ?_, ?_, ?_, ?_, ?_, ?_, r2.rest.cong fun o k h1 h2 => ?_⟩⟩
    · have z6 : C.1 15 6 = 0 := r5
      have g0 : mX1_number N (b + (3 * 0 + 27)) 0 (zc w b (zI C 15 7 0) M0 r) = some (zc w b (zI C 15 7 0) M0 r, (M.2 45 (12 * 0 + t))) := by
        have := zf_number (N := N) (w := w) (b := b) (C := zI C 15 7 0) (r := r) (f := 0) (t := t + 1) (k := 0) h1 (by rw [zI1, if_neg (by omega)]; exact a1) a3 (by omega) M0
        rw [show 15 + (t + 1) - 0 = 16 + t by omega, zI2, n0.1] at this
        exact this
      have k1 : (zI C 15 7 0).2.2 15 5 = .ref (b + (3 * 0 + 27)) := h2
      unfold zcs
      simp (decide := true) only [mX4_step_107, mX4_step_249, mX4_step_0, mX4_step, mX4_leave_132, mX4_leave_61, mX4_leave_36, mX4_leave_0, mX4_leave, e0, zqg_15_5 h2, zqg_15_5 k1, zqkF h1, id, zqk_15, zqg_15_6, z6, zqp_15_7, zqp_15_8, g0, Option.map_some, Int32.reduceLT, Int32.reduceLE, Int32.reduceAdd, Int32.reduceSub, Int32.reduceMul, Int32.reduceDiv, Int32.reduceMod, ↓reduceIte, Option.bind_some]
    · refine (fstep C0 r0).trans ?_
      simp (decide := true) only [mX9_step_74, mX9_doEnd_100, mX9_doEnd_96, mX9_doEnd_56, mX9_doEnd_15, mX9_doEnd_0, mX9_doEnd, zqk_75, f1, zqg_75_47, x47, xs, zqp_75_47, y47, zqp_75_50, zqp_75_49, id, Option.map_some, show (Int32.ofNat 0 = 0) = True from propext ⟨fun _ => trivial, fun _ => rfl⟩, Int32.reduceLT, Int32.reduceLE, Int32.reduceAdd, Int32.reduceSub, Int32.reduceMul, Int32.reduceDiv, Int32.reduceMod, ↓reduceIte, Option.bind_some]
    · show (zI C 15 7 0).1 o k = _
      rw [zI1, if_neg (by omega)]
    · show (zI C 15 7 0).1 15 3 = _
      rw [zI1, if_neg (by decide)]
    · show (zI C 15 7 0).1 15 9 = _
      rw [zI1, if_neg (by decide)]
    · unfold zMD; simp (disch := omega) only [zJ1, zK1, if_neg]
    · unfold zMD; simp (disch := omega) only [zJ1, zK1, if_neg]
    · unfold zMD; simp (disch := omega) only [zJ2, zK2, if_neg]
    · show (zI C 15 7 0).1 15 7 = _
      rw [zI1, if_pos ⟨rfl, rfl⟩]; rfl
    · unfold zMD; simp (disch := omega) only [zJ1, zK1, if_neg]; exact n2
    · rw [zJ1, if_pos ⟨rfl, rfl⟩]
    · unfold zMD; simp (disch := omega) only [zJ1, zK1, if_neg]; exact n4
    · rw [if_neg (show ¬ (0 = 3) by decide), zJ2, zK2, if_pos (show (100 = 100 ∧ 50 = 50) from ⟨rfl, rfl⟩)]
      rw [zL2, if_pos (show (15 = 15 ∧ 8 = 8) from ⟨rfl, rfl⟩)]
    · unfold zMD; simp (disch := omega) only [zJ1, zK1, if_neg]
      show (zI C 15 7 0).1 15 10 = _
      rw [zI1, if_neg (by decide)]; exact r10
    · unfold zMD; simp (disch := omega) only [zJ1, zK1, if_neg]
      show (zI C 15 7 0).1 15 11 = _
      rw [zI1, if_neg (by decide)]; exact r11
    · show (zI C 15 7 0).1 o k = _
      rw [zI1, if_neg (by omega)]
  | succ g =>
    have mm : (φ (g + 1)).2.2.1 = m := by rw [hφ]
    rcases hg : φ g with ⟨tg, pg, mg, ltg, stg⟩
    have tr := t3 g (by omega)
    rw [hg, mm] at tr
    have hmg : mg < Q.1 := by
      have := t1 g (by omega)
      rw [hg] at this
      exact this
    obtain ⟨_, _, gK, gG⟩ := r3.2.2.2 mg hmg
    obtain ⟨l3, w1, w2, w3⟩ := tr.ret gG gK
    rw [hrs] at w1 w3
    have frg := r12 g (by omega)
    rw [hg] at frg
    have frg : zFr D C M Q.2.1 g tg pg mg ltg stg := frg
    have b4 := frg.2.2.2.1
    have b2 := frg.2.1
    have b5 := frg.2.2.2.2.1
    have hg16 : g < 16 := by omega
    have o1 : ∀ o k, o ≠ 15 → (zV (zI C 15 6 (Int32.ofNat g)) 15 5 (.ref (b + (3 * g + 27)))).1 o k = C.1 o k := fun o k h => by rw [zV1, zI1, if_neg (by omega)]
    have o15 : ∀ k, k ≠ 6 → (zV (zI C 15 6 (Int32.ofNat g)) 15 5 (.ref (b + (3 * g + 27)))).1 15 k = C.1 15 k := fun k h => by rw [zV1, zI1, if_neg (by omega)]
    have o6 : (zV (zI C 15 6 (Int32.ofNat g)) 15 5 (.ref (b + (3 * g + 27)))).1 15 6 = Int32.ofNat g := by rw [zV1, zI1, if_pos ⟨rfl, rfl⟩]
    have o2 : (zV (zI C 15 6 (Int32.ofNat g)) 15 5 (.ref (b + (3 * g + 27)))).2.1 = C.2.1 := rfl
    have o3 : ∀ o k, ¬ (o = 15 ∧ k = 5) → (zV (zI C 15 6 (Int32.ofNat g)) 15 5 (.ref (b + (3 * g + 27)))).2.2 o k = C.2.2 o k := fun o k h => by rw [zV3, if_neg h]; rfl
    have o5 : (zV (zI C 15 6 (Int32.ofNat g)) 15 5 (.ref (b + (3 * g + 27)))).2.2 15 5 = .ref (b + (3 * g + 27)) := by rw [zV3, if_pos ⟨rfl, rfl⟩]
    have p1 : ∀ o k, ¬ (o = 100 ∧ k = 47) → ¬ (o = 42 ∧ k = g + 1) → (zJ (zMD M (g + 1) t) 100 47 (Int32.ofNat (g + 1))).1 o k = M.1 o k := fun o k q1 q2 => by unfold zMD; simp (disch := omega) only [zJ1, if_neg]
    have p47 : (zJ (zMD M (g + 1) t) 100 47 (Int32.ofNat (g + 1))).1 100 47 = Int32.ofNat (g + 1) := by rw [zJ1, if_pos ⟨rfl, rfl⟩]
    have p2 : (zJ (zMD M (g + 1) t) 100 47 (Int32.ofNat (g + 1))).2 = M.2 := rfl
    generalize hC1 : (zV (zI C 15 6 (Int32.ofNat g)) 15 5 (.ref (b + (3 * g + 27)))) = C1 at *
    generalize hM1 : (zJ (zMD M (g + 1) t) 100 47 (Int32.ofNat (g + 1))) = M1 at *
    have fr1 : zFr D C1 M1 Q.2.1 g tg pg mg ltg stg := frg.mv2 (o1 _ _ (by omega)) (o1 _ _ (by omega)) (o3 _ _ (by omega)) (fun k => by rw [o2]) (fun k => o1 _ _ (by omega)) (p1 _ _ (by omega) (by omega)) (p1 _ _ (by omega) (by omega)) (p1 _ _ (by omega) (by omega)) (fun k hk => ⟨p1 _ _ (by omega) (by omega), by rw [p2]⟩) (fun k hk => ⟨p1 _ _ (by omega) (by omega), by rw [p2]⟩)
    have h12 : tg < 12 := w3 (by decide)
    have fr2 := (fr1.pushN h12 (zSl.mk1 (M.2 45 (12 * (g + 1) + t)).toInt32) (Or.inl rfl)).go (pg + 2)
    have hint : (M.2 45 (12 * (g + 1) + t)).toInt32.toInt64 = (M.2 45 (12 * (g + 1) + t)) := u0.int.symm
    rw [hint] at fr2
    have oC : ∀ o k, o ≠ 15 → o ≠ g + 100 → o ≠ g + 140 → (zI (zPN C1 g tg (M.2 45 (12 * (g + 1) + t))) (g + 100) 4 (Int32.ofNat (pg + 2))).1 o k = C.1 o k := fun o k q1 q2 q3 => by
      rw [← o1 o k q1]
      unfold zPN zSN; simp (disch := omega) only [zI1, zL1, if_neg]
    have oC15 : ∀ k, (zI (zPN C1 g tg (M.2 45 (12 * (g + 1) + t))) (g + 100) 4 (Int32.ofNat (pg + 2))).1 15 k = C1.1 15 k := fun k => by
      unfold zPN zSN; simp (disch := omega) only [zI1, zL1, if_neg]
    have oL : ∀ o k, o ≠ g + 120 → (zI (zPN C1 g tg (M.2 45 (12 * (g + 1) + t))) (g + 100) 4 (Int32.ofNat (pg + 2))).2.1 o k = C.2.1 o k := fun o k q => by
      rw [← o2]
      unfold zPN zSN; simp (disch := omega) only [zI2, zL2, if_neg]
    have oV : (zI (zPN C1 g tg (M.2 45 (12 * (g + 1) + t))) (g + 100) 4 (Int32.ofNat (pg + 2))).2.2 = C1.2.2 := rfl
    have oM : ∀ o k, ¬ (o = 100 ∧ k = 47) → ¬ (o = 42 ∧ k = g + 1) → ¬ (k = g ∧ (o = 41 ∨ o = 42)) → ¬ (o = 46 ∧ 12 * g ≤ k ∧ k < 12 * g + 12) → (zJ (zMP M1 g tg 1 (M.2 45 (12 * (g + 1) + t))) 41 g (Int32.ofNat (pg + 2))).1 o k = M.1 o k := fun o k q1 q2 q3 q4 => by
      rw [← p1 o k q1 q2]
      unfold zMP; simp (disch := omega) only [zJ1, zK1, if_neg]
    have oM47 : (zJ (zMP M1 g tg 1 (M.2 45 (12 * (g + 1) + t))) 41 g (Int32.ofNat (pg + 2))).1 100 47 = Int32.ofNat (g + 1) := by
      rw [← p47]
      unfold zMP; simp (disch := omega) only [zJ1, zK1, if_neg]
    have oM2 : ∀ o k, ¬ (o = 45 ∧ 12 * g ≤ k ∧ k < 12 * g + 12) → (zJ (zMP M1 g tg 1 (M.2 45 (12 * (g + 1) + t))) 41 g (Int32.ofNat (pg + 2))).2 o k = M.2 o k := fun o k q => by
      rw [← p2]
      unfold zMP; simp (disch := omega) only [zJ2, zK2, if_neg]
    have sc : zSC C (zI (zPN C1 g tg (M.2 45 (12 * (g + 1) + t))) (g + 100) 4 (Int32.ofNat (pg + 2))) := ⟨fun o k h => oC o k (by omega) (by omega) (by omega), fun o k h => by rw [oV, o3 _ _ (by omega)], by rw [oC15, o15 3 (by decide)], by rw [oC15, o15 9 (by decide)]⟩
    have sm : zSM M (zJ (zMP M1 g tg 1 (M.2 45 (12 * (g + 1) + t))) 41 g (Int32.ofNat (pg + 2))) := ⟨fun o k h => oM o k (by omega) (by omega) (by omega) (by omega), fun k h => oM _ _ (by omega) (by omega) (by omega) (by omega), fun k => oM2 _ _ (by omega)⟩
    refine ⟨_, _, fun M0 => ?_, fun C0 r0 => ?_, sc, sm, S, Nat.le_succ S, Or.inl ⟨D, g, fun f => if f = g then (tg + 1, pg + 2, mg, ltg, zset stg tg 1) else φ f, ⟨r1.sc sc sm, r2.cong (fun o k q1 q2 => oC o k (by omega) (by omega) (by omega)) (fun o k q1 q2 => oM o k (by omega) (by omega) (by omega) (by omega)) (oM _ _ (by omega) (by omega) (by omega) (by omega)) (oM _ _ (by omega) (by omega) (by omega) (by omega)) (fun k => oM2 _ _ (by omega)), r3.sc sc sm, hg16, (oC15 6).trans o6, by rw [oV]; exact o5, oM47, by rw [oC15, o15 3 (by decide)]; exact r8, (oM _ _ (by omega) (by omega) (by omega) (by omega)).trans r9, ?_, ?_, fun f hf => ?_, fun f hf => ?_, ?_, fun f hf => ?_⟩, ?_⟩⟩
    · have z6 : ¬ C.1 15 6 = 0 := fun q => by
        rw [r5] at q
        have := zi_inj (a := g + 1) (b := 0) (by omega) (by omega) q
        omega
      have z6s : C.1 15 6 - 1 = Int32.ofNat g := by rw [r5]; exact zi_sub (a := g + 1) (b := 1) (by omega)
      have y6 : (zI C 15 6 (Int32.ofNat g)).1 15 6 = Int32.ofNat g := by rw [zI1, if_pos ⟨rfl, rfl⟩]
      have zc1 : ∀ x, zc w b (zV (zI C 15 6 (Int32.ofNat g)) 15 5 (.ref (b + (3 * g + 27)))) x r = zc w b C1 x r := fun x => by rw [hC1]
      have g0 : mX1_number N (b + (3 * (g + 1) + 27)) 0 (zc w b C1 M0 r) = some (zc w b C1 M0 r, (M.2 45 (12 * (g + 1) + t))) := by
        have := zf_number (N := N) (w := w) (b := b) (C := C1) (r := r) (f := g + 1) (t := t + 1) (k := 0) h1 ((o1 _ _ (by omega)).trans a1) a3 (by omega) M0
        rw [show 15 + (t + 1) - 0 = 16 + t by omega, o2, n0.1] at this
        exact this
      have e4 : mX1_pushNumber N (b + (3 * g + 27)) (M.2 45 (12 * (g + 1) + t)) (zc w b C1 M0 r) = some (zc w b (zPN C1 g tg (M.2 45 (12 * (g + 1) + t))) M0 r) := zf_pushNumber (t := tg) hg16 fr1.1 h12 (M.2 45 (12 * (g + 1) + t)) M0
      have e5 : mX4_goOn N (b + 15) 2 (zc w b (zPN C1 g tg (M.2 45 (12 * (g + 1) + t))) M0 r) = some (zc w b (zI (zPN C1 g tg (M.2 45 (12 * (g + 1) + t))) (g + 100) 4 (Int32.ofNat (pg + 2))) M0 r, 0) := zf_goOn (C := (zPN C1 g tg (M.2 45 (12 * (g + 1) + t)))) (n := 2) (p := pg) hg16 o5 (zp4_PN.trans fr1.2.2.2.1) M0
      unfold zcs
      simp (decide := true) only [mX4_step_107, mX4_step_249, mX4_step_0, mX4_step, mX4_leave_132, mX4_leave_61, mX4_leave_36, mX4_leave_0, mX4_leave, e0, zqg_15_5 h2, zqkF h1, id, zqk_15, zqg_15_6, z6, z6s, zqp_15_6, zqg_15_4, y6, zqa_23 hg16, zqp_15_5, zc1, zqg_15_5 o5, zqkF hg16, g0, e4, e5, Option.map_some, Int32.reduceLT, Int32.reduceLE, Int32.reduceAdd, Int32.reduceSub, Int32.reduceMul, Int32.reduceDiv, Int32.reduceMod, ↓reduceIte, Option.bind_some]
    · refine (fstep C0 r0).trans ?_
      have ne0 : ¬ Int32.ofNat (g + 1) = 0 := fun q => by
        have := zi_inj (a := g + 1) (b := 0) (by omega) (by omega) q
        omega
      have zc1 : zc w b C0 (zJ (zMD M (g + 1) t) 100 47 (Int32.ofNat (g + 1))) r0 = zc w b C0 M1 r0 := by rw [hM1]
      have y47b : (zJ (zMD M (g + 1) t) 100 47 (Int32.ofNat (g + 1))).1 100 47 = Int32.ofNat (g + 1) := by rw [zJ1, if_pos ⟨rfl, rfl⟩]
      have xg : (Int32.ofNat (g + 1) - 1 : Int32) = Int32.ofNat g := zi_sub (a := g + 1) (b := 1) (by omega)
      have f8 : mX9_pushValue N (b + 75) 1 (M.2 45 (12 * (g + 1) + t)) (zc w b C0 M1 r0) = some (zc w b C0 (zMP M1 g tg 1 (M.2 45 (12 * (g + 1) + t))) r0) := zn_push (N := N) (w := w) (b := b) (M := M1) (t := tg) hg16 p47 fr1.2.1 h12 1 (M.2 45 (12 * (g + 1) + t)) C0 r0
      have q47 : (zMP M1 g tg 1 (M.2 45 (12 * (g + 1) + t))).1 100 47 = Int32.ofNat (g + 1) := zmp100.trans p47
      have q41 : (zMP M1 g tg 1 (M.2 45 (12 * (g + 1) + t))).1 41 g = Int32.ofNat pg := by unfold zMP; simp (disch := omega) only [zJ1, zK1, if_neg]; exact fr1.2.2.2.2.1
      have e41 : zm_aI (zc w b C0 (zMP M1 g tg 1 (M.2 45 (12 * (g + 1) + t))) r0) (b + 106) (Int32.ofNat g) = some (Int32.ofNat pg) := by rw [zqa_106 hg16, q41]
      have e41s : zm_sI (zc w b C0 (zMP M1 g tg 1 (M.2 45 (12 * (g + 1) + t))) r0) (b + 106) (Int32.ofNat g) (Int32.ofNat pg + 2) = some (zc w b C0 (zJ (zMP M1 g tg 1 (M.2 45 (12 * (g + 1) + t))) 41 g (Int32.ofNat (pg + 2))) r0) := by rw [zqs_106 hg16, show (Int32.ofNat pg + 2 : Int32) = Int32.ofNat (pg + 2) from zi_add pg 2]
      simp (decide := true) only [mX9_step_74, mX9_doEnd_100, mX9_doEnd_96, mX9_doEnd_56, mX9_doEnd_15, mX9_doEnd_0, mX9_doEnd, zqk_75, f1, zqg_75_47, x47, xs, zqp_75_47, y47b, zc1, p47, ne0, f8, zqg_75_41, q47, xg, e41, e41s, id, Option.map_some, Int32.reduceLT, Int32.reduceLE, Int32.reduceAdd, Int32.reduceSub, Int32.reduceMul, Int32.reduceDiv, Int32.reduceMod, ↓reduceIte, Option.bind_some]
    · rw [oC15, o15 10 (by decide), oM _ _ (by omega) (by omega) (by omega) (by omega)]; exact r10
    · rw [oC15, o15 11 (by decide), oM _ _ (by omega) (by omega) (by omega) (by omega)]; exact r11
    · show zFa D _ _ Q.2.1 f (if f = g then _ else φ f)
      by_cases c : f = g
      · rw [if_pos c, c]; exact fr2
      · rw [if_neg c]
        refine zFr.mv2 (r12 f (by omega)) (oC _ _ (by omega) (by omega) (by omega)) (oC _ _ (by omega) (by omega) (by omega)) (by rw [oV, o3 _ _ (by omega)]) (fun k => oL _ _ (by omega)) (fun k => oC _ _ (by omega) (by omega) (by omega)) (oM _ _ (by omega) (by omega) (by omega) (by omega)) (oM _ _ (by omega) (by omega) (by omega) (by omega)) (oM _ _ (by omega) (by omega) (by omega) (by omega)) (fun k hk => ⟨oM _ _ (by omega) (by omega) (by omega) (by omega), oM2 _ _ (by omega)⟩) (fun k hk => ⟨oM _ _ (by omega) (by omega) (by omega) (by omega), oM2 _ _ (by omega)⟩)
    · show (if f = g then ((tg + 1, pg + 2, mg, ltg, zset stg tg 1) : zFd) else φ f).2.2.1 < Q.1
      by_cases c : f = g
      · rw [if_pos c]; exact hmg
      · rw [if_neg c]; exact t1 f (by omega)
    · show zT0 Q (if g = g then _ else φ g)
      rw [if_pos rfl]
      refine ⟨l3, ?_, w2⟩
      rw [if_neg (by decide)] at w1
      show Q.2.2.2 mg (pg + 2) = some (zrv (zset stg tg 1) (tg + 1), l3)
      rw [zrv_push]; exact w1
    · show zT1 Q (if f = g then _ else φ f) (if f + 1 = g then ((tg + 1, pg + 2, mg, ltg, zset stg tg 1) : zFd) else φ (f + 1)).2.2.1
      rw [if_neg (by omega)]
      have h := t3 f (by omega)
      by_cases c : f + 1 = g
      · rw [if_pos c]
        rw [c, hg] at h
        exact h
      · rw [if_neg c]; exact h
    · exact ⟨by rw [oC15, o15 7 (by decide)]; exact n1, (oM _ _ (by omega) (by omega) (by omega) (by omega)).trans n2, (oM _ _ (by omega) (by omega) (by omega) (by omega)).trans n3, (oM _ _ (by omega) (by omega) (by omega) (by omega)).trans n4, (oL _ _ (by omega)).trans n5, (oM2 _ _ (by omega)).trans n6⟩

theorem zs_173 (hR : zRn w b K F ρ α π r Q D C M S f0 φ) (hO : zOn C M) (hφ : φ f0 = (t, p, m, lt, st)) (hop : uC (Q.2.2.1 m) p = 173) : zStp N w b K F ρ α π r Q C M S := by
  obtain ⟨hc, hm, hK, l', hl, s1, hp, s2, l2, hh, hlen, hfl⟩ := hR.ty hO hφ hop
  have hh : (if uRs (Q.2.2.1 m) = 2 then some (s1, l') else none) = some (s2, l2) := hh
  obtain ⟨hrs, hh⟩ := zg hh
  clear hh
  have hp : zpop [2] (zrv st t) = some s1 := hp
  obtain ⟨t, rfl, k0, hp⟩ := zpopc hp
  have hc' := hc
  obtain ⟨r1, r2, r3, r4, r5, r6, r7, r8, r9, r10, r11, r12, t1, t2, t3⟩ := hR
  obtain ⟨n1, n2, n3, n4, n5, n6⟩ := hO
  obtain ⟨h1, h2, h3, h4, h5, hfr, _, h8, h9, h10, h11, h12⟩ := hc
  obtain ⟨a1, a2, a3, a4, a5, a6, a7, a8, a9⟩ := hfr
  have u0 := (a9 t (by omega)).2.2.2
  rw [k0] at u0
  have n0 := u0.num (Or.inr rfl)
  have e0 : ∀ M0, mX1_opcode N (b + (3 * f0 + 27)) (zc w b C M0 r) = some (zc w b C M0 r, 173) := fun M0 => ze_step0 (N := N) (w := w) hc' hop M0
  have fstep : ∀ C0 r0, mX9_step N (b + 75) (zc w b C0 M r0) = mX9_step_74 N (b + 75) (Int32.ofNat f0) (Int32.ofNat m) (Int32.ofNat p) 173 1 0 0 (zc w b C0 M r0) := fun C0 r0 => zn_step (N := N) (w := w) hc' hop (n := 1) rfl rfl rfl C0 r0
  have f1 : ∀ C0 r0, mX9_popValue N (b + 75) (zc w b C0 M r0) = some (zc w b C0 (zMD M f0 t) r0, M.2 45 (12 * f0 + t)) := fun C0 r0 => zn_pop (N := N) (w := w) (b := b) (M := M) (t := t) h1 h3 a2 (by omega) C0 r0
  have x47 : (zMD M f0 t).1 100 47 = Int32.ofNat (f0 + 1) := by unfold zMD; rw [zJ1, if_neg (by omega)]; exact r7
  have xs : (Int32.ofNat (f0 + 1) - 1 : Int32) = Int32.ofNat f0 := zi_sub (a := f0 + 1) (b := 1) (by omega)
  have y47 : (zJ (zMD M f0 t) 100 47 (Int32.ofNat f0)).1 100 47 = Int32.ofNat f0 := by rw [zJ1, if_pos ⟨rfl, rfl⟩]
  cases f0 with
  | zero =>
    refine ⟨(zL (zI C 15 7 0) 15 8 (M.2 45 (12 * 0 + t))), (zJ (zK (zJ (zMD M 0 t) 100 47 (Int32.ofNat 0)) 100 50 (M.2 45 (12 * 0 + t))) 100 49 1), fun M0 => ?_, fun C0 r0 => ?_, ⟨fun o k h => ?_, fun o k h => rfl, ?_, ?_⟩, ⟨fun o k h => ?_, fun k h => ?_, fun k => ?_⟩, S, Nat.le_succ S, Or.inr ⟨0, Or.inl rfl, ?_, ?_, ?_, ?_, ?_, ?_, ?_, r2.rest.cong fun o k h1 h2 => ?_⟩⟩
    · have z6 : C.1 15 6 = 0 := r5
      have g0 : mX1_number N (b + (3 * 0 + 27)) 0 (zc w b (zI C 15 7 0) M0 r) = some (zc w b (zI C 15 7 0) M0 r, (M.2 45 (12 * 0 + t))) := by
        have := zf_number (N := N) (w := w) (b := b) (C := zI C 15 7 0) (r := r) (f := 0) (t := t + 1) (k := 0) h1 (by rw [zI1, if_neg (by omega)]; exact a1) a3 (by omega) M0
        rw [show 15 + (t + 1) - 0 = 16 + t by omega, zI2, n0.1] at this
        exact this
      have k1 : (zI C 15 7 0).2.2 15 5 = .ref (b + (3 * 0 + 27)) := h2
      unfold zcs
      simp (decide := true) only [mX4_step_107, mX4_step_249, mX4_step_0, mX4_step, mX4_leave_132, mX4_leave_61, mX4_leave_36, mX4_leave_0, mX4_leave, e0, zqg_15_5 h2, zqg_15_5 k1, zqkF h1, id, zqk_15, zqg_15_6, z6, zqp_15_7, zqp_15_8, g0, Option.map_some, Int32.reduceLT, Int32.reduceLE, Int32.reduceAdd, Int32.reduceSub, Int32.reduceMul, Int32.reduceDiv, Int32.reduceMod, ↓reduceIte, Option.bind_some]
    · refine (fstep C0 r0).trans ?_
      simp (decide := true) only [mX9_step_74, mX9_doEnd_100, mX9_doEnd_96, mX9_doEnd_56, mX9_doEnd_15, mX9_doEnd_0, mX9_doEnd, zqk_75, f1, zqg_75_47, x47, xs, zqp_75_47, y47, zqp_75_50, zqp_75_49, id, Option.map_some, show (Int32.ofNat 0 = 0) = True from propext ⟨fun _ => trivial, fun _ => rfl⟩, Int32.reduceLT, Int32.reduceLE, Int32.reduceAdd, Int32.reduceSub, Int32.reduceMul, Int32.reduceDiv, Int32.reduceMod, ↓reduceIte, Option.bind_some]
    · show (zI C 15 7 0).1 o k = _
      rw [zI1, if_neg (by omega)]
    · show (zI C 15 7 0).1 15 3 = _
      rw [zI1, if_neg (by decide)]
    · show (zI C 15 7 0).1 15 9 = _
      rw [zI1, if_neg (by decide)]
    · unfold zMD; simp (disch := omega) only [zJ1, zK1, if_neg]
    · unfold zMD; simp (disch := omega) only [zJ1, zK1, if_neg]
    · unfold zMD; simp (disch := omega) only [zJ2, zK2, if_neg]
    · show (zI C 15 7 0).1 15 7 = _
      rw [zI1, if_pos ⟨rfl, rfl⟩]; rfl
    · unfold zMD; simp (disch := omega) only [zJ1, zK1, if_neg]; exact n2
    · rw [zJ1, if_pos ⟨rfl, rfl⟩]
    · unfold zMD; simp (disch := omega) only [zJ1, zK1, if_neg]; exact n4
    · rw [if_neg (show ¬ (0 = 3) by decide), zJ2, zK2, if_pos (show (100 = 100 ∧ 50 = 50) from ⟨rfl, rfl⟩)]
      rw [zL2, if_pos (show (15 = 15 ∧ 8 = 8) from ⟨rfl, rfl⟩)]
    · unfold zMD; simp (disch := omega) only [zJ1, zK1, if_neg]
      show (zI C 15 7 0).1 15 10 = _
      rw [zI1, if_neg (by decide)]; exact r10
    · unfold zMD; simp (disch := omega) only [zJ1, zK1, if_neg]
      show (zI C 15 7 0).1 15 11 = _
      rw [zI1, if_neg (by decide)]; exact r11
    · show (zI C 15 7 0).1 o k = _
      rw [zI1, if_neg (by omega)]
  | succ g =>
    have mm : (φ (g + 1)).2.2.1 = m := by rw [hφ]
    rcases hg : φ g with ⟨tg, pg, mg, ltg, stg⟩
    have tr := t3 g (by omega)
    rw [hg, mm] at tr
    have hmg : mg < Q.1 := by
      have := t1 g (by omega)
      rw [hg] at this
      exact this
    obtain ⟨_, _, gK, gG⟩ := r3.2.2.2 mg hmg
    obtain ⟨l3, w1, w2, w3⟩ := tr.ret gG gK
    rw [hrs] at w1 w3
    have frg := r12 g (by omega)
    rw [hg] at frg
    have frg : zFr D C M Q.2.1 g tg pg mg ltg stg := frg
    have b4 := frg.2.2.2.1
    have b2 := frg.2.1
    have b5 := frg.2.2.2.2.1
    have hg16 : g < 16 := by omega
    have o1 : ∀ o k, o ≠ 15 → (zV (zI C 15 6 (Int32.ofNat g)) 15 5 (.ref (b + (3 * g + 27)))).1 o k = C.1 o k := fun o k h => by rw [zV1, zI1, if_neg (by omega)]
    have o15 : ∀ k, k ≠ 6 → (zV (zI C 15 6 (Int32.ofNat g)) 15 5 (.ref (b + (3 * g + 27)))).1 15 k = C.1 15 k := fun k h => by rw [zV1, zI1, if_neg (by omega)]
    have o6 : (zV (zI C 15 6 (Int32.ofNat g)) 15 5 (.ref (b + (3 * g + 27)))).1 15 6 = Int32.ofNat g := by rw [zV1, zI1, if_pos ⟨rfl, rfl⟩]
    have o2 : (zV (zI C 15 6 (Int32.ofNat g)) 15 5 (.ref (b + (3 * g + 27)))).2.1 = C.2.1 := rfl
    have o3 : ∀ o k, ¬ (o = 15 ∧ k = 5) → (zV (zI C 15 6 (Int32.ofNat g)) 15 5 (.ref (b + (3 * g + 27)))).2.2 o k = C.2.2 o k := fun o k h => by rw [zV3, if_neg h]; rfl
    have o5 : (zV (zI C 15 6 (Int32.ofNat g)) 15 5 (.ref (b + (3 * g + 27)))).2.2 15 5 = .ref (b + (3 * g + 27)) := by rw [zV3, if_pos ⟨rfl, rfl⟩]
    have p1 : ∀ o k, ¬ (o = 100 ∧ k = 47) → ¬ (o = 42 ∧ k = g + 1) → (zJ (zMD M (g + 1) t) 100 47 (Int32.ofNat (g + 1))).1 o k = M.1 o k := fun o k q1 q2 => by unfold zMD; simp (disch := omega) only [zJ1, if_neg]
    have p47 : (zJ (zMD M (g + 1) t) 100 47 (Int32.ofNat (g + 1))).1 100 47 = Int32.ofNat (g + 1) := by rw [zJ1, if_pos ⟨rfl, rfl⟩]
    have p2 : (zJ (zMD M (g + 1) t) 100 47 (Int32.ofNat (g + 1))).2 = M.2 := rfl
    generalize hC1 : (zV (zI C 15 6 (Int32.ofNat g)) 15 5 (.ref (b + (3 * g + 27)))) = C1 at *
    generalize hM1 : (zJ (zMD M (g + 1) t) 100 47 (Int32.ofNat (g + 1))) = M1 at *
    have fr1 : zFr D C1 M1 Q.2.1 g tg pg mg ltg stg := frg.mv2 (o1 _ _ (by omega)) (o1 _ _ (by omega)) (o3 _ _ (by omega)) (fun k => by rw [o2]) (fun k => o1 _ _ (by omega)) (p1 _ _ (by omega) (by omega)) (p1 _ _ (by omega) (by omega)) (p1 _ _ (by omega) (by omega)) (fun k hk => ⟨p1 _ _ (by omega) (by omega), by rw [p2]⟩) (fun k hk => ⟨p1 _ _ (by omega) (by omega), by rw [p2]⟩)
    have h12 : tg < 12 := w3 (by decide)
    have fr2 := (fr1.pushN h12 (zSl.mk2 (M.2 45 (12 * (g + 1) + t))) (Or.inr rfl)).go (pg + 2)
    have oC : ∀ o k, o ≠ 15 → o ≠ g + 100 → o ≠ g + 140 → (zI (zPN C1 g tg (M.2 45 (12 * (g + 1) + t))) (g + 100) 4 (Int32.ofNat (pg + 2))).1 o k = C.1 o k := fun o k q1 q2 q3 => by
      rw [← o1 o k q1]
      unfold zPN zSN; simp (disch := omega) only [zI1, zL1, if_neg]
    have oC15 : ∀ k, (zI (zPN C1 g tg (M.2 45 (12 * (g + 1) + t))) (g + 100) 4 (Int32.ofNat (pg + 2))).1 15 k = C1.1 15 k := fun k => by
      unfold zPN zSN; simp (disch := omega) only [zI1, zL1, if_neg]
    have oL : ∀ o k, o ≠ g + 120 → (zI (zPN C1 g tg (M.2 45 (12 * (g + 1) + t))) (g + 100) 4 (Int32.ofNat (pg + 2))).2.1 o k = C.2.1 o k := fun o k q => by
      rw [← o2]
      unfold zPN zSN; simp (disch := omega) only [zI2, zL2, if_neg]
    have oV : (zI (zPN C1 g tg (M.2 45 (12 * (g + 1) + t))) (g + 100) 4 (Int32.ofNat (pg + 2))).2.2 = C1.2.2 := rfl
    have oM : ∀ o k, ¬ (o = 100 ∧ k = 47) → ¬ (o = 42 ∧ k = g + 1) → ¬ (k = g ∧ (o = 41 ∨ o = 42)) → ¬ (o = 46 ∧ 12 * g ≤ k ∧ k < 12 * g + 12) → (zJ (zMP M1 g tg 2 (M.2 45 (12 * (g + 1) + t))) 41 g (Int32.ofNat (pg + 2))).1 o k = M.1 o k := fun o k q1 q2 q3 q4 => by
      rw [← p1 o k q1 q2]
      unfold zMP; simp (disch := omega) only [zJ1, zK1, if_neg]
    have oM47 : (zJ (zMP M1 g tg 2 (M.2 45 (12 * (g + 1) + t))) 41 g (Int32.ofNat (pg + 2))).1 100 47 = Int32.ofNat (g + 1) := by
      rw [← p47]
      unfold zMP; simp (disch := omega) only [zJ1, zK1, if_neg]
    have oM2 : ∀ o k, ¬ (o = 45 ∧ 12 * g ≤ k ∧ k < 12 * g + 12) → (zJ (zMP M1 g tg 2 (M.2 45 (12 * (g + 1) + t))) 41 g (Int32.ofNat (pg + 2))).2 o k = M.2 o k := fun o k q => by
      rw [← p2]
      unfold zMP; simp (disch := omega) only [zJ2, zK2, if_neg]
    have sc : zSC C (zI (zPN C1 g tg (M.2 45 (12 * (g + 1) + t))) (g + 100) 4 (Int32.ofNat (pg + 2))) := ⟨fun o k h => oC o k (by omega) (by omega) (by omega), fun o k h => by rw [oV, o3 _ _ (by omega)], by rw [oC15, o15 3 (by decide)], by rw [oC15, o15 9 (by decide)]⟩
    have sm : zSM M (zJ (zMP M1 g tg 2 (M.2 45 (12 * (g + 1) + t))) 41 g (Int32.ofNat (pg + 2))) := ⟨fun o k h => oM o k (by omega) (by omega) (by omega) (by omega), fun k h => oM _ _ (by omega) (by omega) (by omega) (by omega), fun k => oM2 _ _ (by omega)⟩
    refine ⟨_, _, fun M0 => ?_, fun C0 r0 => ?_, sc, sm, S, Nat.le_succ S, Or.inl ⟨D, g, fun f => if f = g then (tg + 1, pg + 2, mg, ltg, zset stg tg 2) else φ f, ⟨r1.sc sc sm, r2.cong (fun o k q1 q2 => oC o k (by omega) (by omega) (by omega)) (fun o k q1 q2 => oM o k (by omega) (by omega) (by omega) (by omega)) (oM _ _ (by omega) (by omega) (by omega) (by omega)) (oM _ _ (by omega) (by omega) (by omega) (by omega)) (fun k => oM2 _ _ (by omega)), r3.sc sc sm, hg16, (oC15 6).trans o6, by rw [oV]; exact o5, oM47, by rw [oC15, o15 3 (by decide)]; exact r8, (oM _ _ (by omega) (by omega) (by omega) (by omega)).trans r9, ?_, ?_, fun f hf => ?_, fun f hf => ?_, ?_, fun f hf => ?_⟩, ?_⟩⟩
    · have z6 : ¬ C.1 15 6 = 0 := fun q => by
        rw [r5] at q
        have := zi_inj (a := g + 1) (b := 0) (by omega) (by omega) q
        omega
      have z6s : C.1 15 6 - 1 = Int32.ofNat g := by rw [r5]; exact zi_sub (a := g + 1) (b := 1) (by omega)
      have y6 : (zI C 15 6 (Int32.ofNat g)).1 15 6 = Int32.ofNat g := by rw [zI1, if_pos ⟨rfl, rfl⟩]
      have zc1 : ∀ x, zc w b (zV (zI C 15 6 (Int32.ofNat g)) 15 5 (.ref (b + (3 * g + 27)))) x r = zc w b C1 x r := fun x => by rw [hC1]
      have g0 : mX1_number N (b + (3 * (g + 1) + 27)) 0 (zc w b C1 M0 r) = some (zc w b C1 M0 r, (M.2 45 (12 * (g + 1) + t))) := by
        have := zf_number (N := N) (w := w) (b := b) (C := C1) (r := r) (f := g + 1) (t := t + 1) (k := 0) h1 ((o1 _ _ (by omega)).trans a1) a3 (by omega) M0
        rw [show 15 + (t + 1) - 0 = 16 + t by omega, o2, n0.1] at this
        exact this
      have e4 : mX1_pushNumber N (b + (3 * g + 27)) (M.2 45 (12 * (g + 1) + t)) (zc w b C1 M0 r) = some (zc w b (zPN C1 g tg (M.2 45 (12 * (g + 1) + t))) M0 r) := zf_pushNumber (t := tg) hg16 fr1.1 h12 (M.2 45 (12 * (g + 1) + t)) M0
      have e5 : mX4_goOn N (b + 15) 2 (zc w b (zPN C1 g tg (M.2 45 (12 * (g + 1) + t))) M0 r) = some (zc w b (zI (zPN C1 g tg (M.2 45 (12 * (g + 1) + t))) (g + 100) 4 (Int32.ofNat (pg + 2))) M0 r, 0) := zf_goOn (C := (zPN C1 g tg (M.2 45 (12 * (g + 1) + t)))) (n := 2) (p := pg) hg16 o5 (zp4_PN.trans fr1.2.2.2.1) M0
      unfold zcs
      simp (decide := true) only [mX4_step_107, mX4_step_249, mX4_step_0, mX4_step, mX4_leave_132, mX4_leave_61, mX4_leave_36, mX4_leave_0, mX4_leave, e0, zqg_15_5 h2, zqkF h1, id, zqk_15, zqg_15_6, z6, z6s, zqp_15_6, zqg_15_4, y6, zqa_23 hg16, zqp_15_5, zc1, zqg_15_5 o5, zqkF hg16, g0, e4, e5, Option.map_some, Int32.reduceLT, Int32.reduceLE, Int32.reduceAdd, Int32.reduceSub, Int32.reduceMul, Int32.reduceDiv, Int32.reduceMod, ↓reduceIte, Option.bind_some]
    · refine (fstep C0 r0).trans ?_
      have ne0 : ¬ Int32.ofNat (g + 1) = 0 := fun q => by
        have := zi_inj (a := g + 1) (b := 0) (by omega) (by omega) q
        omega
      have zc1 : zc w b C0 (zJ (zMD M (g + 1) t) 100 47 (Int32.ofNat (g + 1))) r0 = zc w b C0 M1 r0 := by rw [hM1]
      have y47b : (zJ (zMD M (g + 1) t) 100 47 (Int32.ofNat (g + 1))).1 100 47 = Int32.ofNat (g + 1) := by rw [zJ1, if_pos ⟨rfl, rfl⟩]
      have xg : (Int32.ofNat (g + 1) - 1 : Int32) = Int32.ofNat g := zi_sub (a := g + 1) (b := 1) (by omega)
      have f8 : mX9_pushValue N (b + 75) 2 (M.2 45 (12 * (g + 1) + t)) (zc w b C0 M1 r0) = some (zc w b C0 (zMP M1 g tg 2 (M.2 45 (12 * (g + 1) + t))) r0) := zn_push (N := N) (w := w) (b := b) (M := M1) (t := tg) hg16 p47 fr1.2.1 h12 2 (M.2 45 (12 * (g + 1) + t)) C0 r0
      have q47 : (zMP M1 g tg 2 (M.2 45 (12 * (g + 1) + t))).1 100 47 = Int32.ofNat (g + 1) := zmp100.trans p47
      have q41 : (zMP M1 g tg 2 (M.2 45 (12 * (g + 1) + t))).1 41 g = Int32.ofNat pg := by unfold zMP; simp (disch := omega) only [zJ1, zK1, if_neg]; exact fr1.2.2.2.2.1
      have e41 : zm_aI (zc w b C0 (zMP M1 g tg 2 (M.2 45 (12 * (g + 1) + t))) r0) (b + 106) (Int32.ofNat g) = some (Int32.ofNat pg) := by rw [zqa_106 hg16, q41]
      have e41s : zm_sI (zc w b C0 (zMP M1 g tg 2 (M.2 45 (12 * (g + 1) + t))) r0) (b + 106) (Int32.ofNat g) (Int32.ofNat pg + 2) = some (zc w b C0 (zJ (zMP M1 g tg 2 (M.2 45 (12 * (g + 1) + t))) 41 g (Int32.ofNat (pg + 2))) r0) := by rw [zqs_106 hg16, show (Int32.ofNat pg + 2 : Int32) = Int32.ofNat (pg + 2) from zi_add pg 2]
      simp (decide := true) only [mX9_step_74, mX9_doEnd_100, mX9_doEnd_96, mX9_doEnd_56, mX9_doEnd_15, mX9_doEnd_0, mX9_doEnd, zqk_75, f1, zqg_75_47, x47, xs, zqp_75_47, y47b, zc1, p47, ne0, f8, zqg_75_41, q47, xg, e41, e41s, id, Option.map_some, Int32.reduceLT, Int32.reduceLE, Int32.reduceAdd, Int32.reduceSub, Int32.reduceMul, Int32.reduceDiv, Int32.reduceMod, ↓reduceIte, Option.bind_some]
    · rw [oC15, o15 10 (by decide), oM _ _ (by omega) (by omega) (by omega) (by omega)]; exact r10
    · rw [oC15, o15 11 (by decide), oM _ _ (by omega) (by omega) (by omega) (by omega)]; exact r11
    · show zFa D _ _ Q.2.1 f (if f = g then _ else φ f)
      by_cases c : f = g
      · rw [if_pos c, c]; exact fr2
      · rw [if_neg c]
        refine zFr.mv2 (r12 f (by omega)) (oC _ _ (by omega) (by omega) (by omega)) (oC _ _ (by omega) (by omega) (by omega)) (by rw [oV, o3 _ _ (by omega)]) (fun k => oL _ _ (by omega)) (fun k => oC _ _ (by omega) (by omega) (by omega)) (oM _ _ (by omega) (by omega) (by omega) (by omega)) (oM _ _ (by omega) (by omega) (by omega) (by omega)) (oM _ _ (by omega) (by omega) (by omega) (by omega)) (fun k hk => ⟨oM _ _ (by omega) (by omega) (by omega) (by omega), oM2 _ _ (by omega)⟩) (fun k hk => ⟨oM _ _ (by omega) (by omega) (by omega) (by omega), oM2 _ _ (by omega)⟩)
    · show (if f = g then ((tg + 1, pg + 2, mg, ltg, zset stg tg 2) : zFd) else φ f).2.2.1 < Q.1
      by_cases c : f = g
      · rw [if_pos c]; exact hmg
      · rw [if_neg c]; exact t1 f (by omega)
    · show zT0 Q (if g = g then _ else φ g)
      rw [if_pos rfl]
      refine ⟨l3, ?_, w2⟩
      rw [if_neg (by decide)] at w1
      show Q.2.2.2 mg (pg + 2) = some (zrv (zset stg tg 2) (tg + 1), l3)
      rw [zrv_push]; exact w1
    · show zT1 Q (if f = g then _ else φ f) (if f + 1 = g then ((tg + 1, pg + 2, mg, ltg, zset stg tg 2) : zFd) else φ (f + 1)).2.2.1
      rw [if_neg (by omega)]
      have h := t3 f (by omega)
      by_cases c : f + 1 = g
      · rw [if_pos c]
        rw [c, hg] at h
        exact h
      · rw [if_neg c]; exact h
    · exact ⟨by rw [oC15, o15 7 (by decide)]; exact n1, (oM _ _ (by omega) (by omega) (by omega) (by omega)).trans n2, (oM _ _ (by omega) (by omega) (by omega) (by omega)).trans n3, (oM _ _ (by omega) (by omega) (by omega) (by omega)).trans n4, (oL _ _ (by omega)).trans n5, (oM2 _ _ (by omega)).trans n6⟩

theorem zs_176 (hR : zRn w b K F ρ α π r Q D C M S f0 φ) (hO : zOn C M) (hφ : φ f0 = (t, p, m, lt, st)) (hop : uC (Q.2.2.1 m) p = 176) : zStp N w b K F ρ α π r Q C M S := by
  obtain ⟨hc, hm, hK, l', hl, s1, hp, s2, l2, hh, hlen, hfl⟩ := hR.ty hO hφ hop
  have hh : (if uRs (Q.2.2.1 m) = 3 then some (s1, l') else none) = some (s2, l2) := hh
  obtain ⟨hrs, hh⟩ := zg hh
  clear hh
  have hp : zpop [3] (zrv st t) = some s1 := hp
  obtain ⟨t, rfl, k0, hp⟩ := zpopc hp
  have hc' := hc
  obtain ⟨r1, r2, r3, r4, r5, r6, r7, r8, r9, r10, r11, r12, t1, t2, t3⟩ := hR
  obtain ⟨n1, n2, n3, n4, n5, n6⟩ := hO
  obtain ⟨h1, h2, h3, h4, h5, hfr, _, h8, h9, h10, h11, h12⟩ := hc
  obtain ⟨a1, a2, a3, a4, a5, a6, a7, a8, a9⟩ := hfr
  have u0 := (a9 t (by omega)).2.2.2
  rw [k0] at u0
  have n0 := u0.ref
  have e0 : ∀ M0, mX1_opcode N (b + (3 * f0 + 27)) (zc w b C M0 r) = some (zc w b C M0 r, 176) := fun M0 => ze_step0 (N := N) (w := w) hc' hop M0
  have fstep : ∀ C0 r0, mX9_step N (b + 75) (zc w b C0 M r0) = mX9_step_74 N (b + 75) (Int32.ofNat f0) (Int32.ofNat m) (Int32.ofNat p) 176 1 0 0 (zc w b C0 M r0) := fun C0 r0 => zn_step (N := N) (w := w) hc' hop (n := 1) rfl rfl rfl C0 r0
  have f1 : ∀ C0 r0, mX9_popValue N (b + 75) (zc w b C0 M r0) = some (zc w b C0 (zMD M f0 t) r0, M.2 45 (12 * f0 + t)) := fun C0 r0 => zn_pop (N := N) (w := w) (b := b) (M := M) (t := t) h1 h3 a2 (by omega) C0 r0
  have x47 : (zMD M f0 t).1 100 47 = Int32.ofNat (f0 + 1) := by unfold zMD; rw [zJ1, if_neg (by omega)]; exact r7
  have xs : (Int32.ofNat (f0 + 1) - 1 : Int32) = Int32.ofNat f0 := zi_sub (a := f0 + 1) (b := 1) (by omega)
  have y47 : (zJ (zMD M f0 t) 100 47 (Int32.ofNat f0)).1 100 47 = Int32.ofNat f0 := by rw [zJ1, if_pos ⟨rfl, rfl⟩]
  cases f0 with
  | zero =>
    refine ⟨(zL (zI C 15 7 0) 15 8 (if (M.2 45 (12 * 0 + t)) = 0 then 0 else 1)), (zJ (zK (zJ (zMD M 0 t) 100 47 (Int32.ofNat 0)) 100 50 (if (M.2 45 (12 * 0 + t)) = 0 then 0 else 1)) 100 49 1), fun M0 => ?_, fun C0 r0 => ?_, ⟨fun o k h => ?_, fun o k h => rfl, ?_, ?_⟩, ⟨fun o k h => ?_, fun k h => ?_, fun k => ?_⟩, S, Nat.le_succ S, Or.inr ⟨0, Or.inl rfl, ?_, ?_, ?_, ?_, ?_, ?_, ?_, r2.rest.cong fun o k h1 h2 => ?_⟩⟩
    · have z6 : C.1 15 6 = 0 := r5
      have g0 : mX1_reference N (b + (3 * 0 + 27)) 0 (zc w b (zI C 15 7 0) M0 r) = some (zc w b (zI C 15 7 0) M0 r, C.1 (0 + 140) (16 + t)) := by
        have := zf_reference (N := N) (w := w) (b := b) (C := zI C 15 7 0) (r := r) (f := 0) (t := t + 1) (k := 0) h1 (by rw [zI1, if_neg (by omega)]; exact a1) a3 (by omega) M0
        rw [show 15 + (t + 1) - 0 = 16 + t by omega, zI1, if_neg (by omega)] at this
        exact this
      have k1 : (zI C 15 7 0).2.2 15 5 = .ref (b + (3 * 0 + 27)) := h2
      unfold zcs
      by_cases hz : (M.2 45 (12 * 0 + t)) = 0
      · have hz' : C.1 (0 + 140) (16 + t) = 0 := (n0.z r2.1).mpr hz
        simp (decide := true) only [mX4_step_107, mX4_step_249, mX4_step_0, mX4_step, mX4_leave_132, mX4_leave_61, mX4_leave_36, mX4_leave_0, mX4_leave, e0, zqg_15_5 h2, zqg_15_5 k1, zqkF h1, id, zqk_15, zqg_15_6, z6, zqp_15_7, zqp_15_8, g0, Option.map_some, Int32.reduceLT, Int32.reduceLE, Int32.reduceAdd, Int32.reduceSub, Int32.reduceMul, Int32.reduceDiv, Int32.reduceMod, ↓reduceIte, Option.bind_some, hz, hz']
      · have hz' : ¬ C.1 (0 + 140) (16 + t) = 0 := fun e => hz ((n0.z r2.1).mp e)
        simp (decide := true) only [mX4_step_107, mX4_step_249, mX4_step_0, mX4_step, mX4_leave_132, mX4_leave_61, mX4_leave_36, mX4_leave_0, mX4_leave, e0, zqg_15_5 h2, zqg_15_5 k1, zqkF h1, id, zqk_15, zqg_15_6, z6, zqp_15_7, zqp_15_8, g0, Option.map_some, Int32.reduceLT, Int32.reduceLE, Int32.reduceAdd, Int32.reduceSub, Int32.reduceMul, Int32.reduceDiv, Int32.reduceMod, ↓reduceIte, Option.bind_some, hz, hz']
    · refine (fstep C0 r0).trans ?_
      by_cases hz : (M.2 45 (12 * 0 + t)) = 0
      · have hz' : lg_cmp (M.2 45 (12 * 0 + t)) 0 = 0 := zw_cmp.mpr hz
        simp (decide := true) only [mX9_step_74, mX9_doEnd_100, mX9_doEnd_96, mX9_doEnd_56, mX9_doEnd_15, mX9_doEnd_0, mX9_doEnd, zqk_75, f1, zqg_75_47, x47, xs, zqp_75_47, y47, zqp_75_50, zqp_75_49, id, Option.map_some, show (Int32.ofNat 0 = 0) = True from propext ⟨fun _ => trivial, fun _ => rfl⟩, Int32.reduceLT, Int32.reduceLE, Int32.reduceAdd, Int32.reduceSub, Int32.reduceMul, Int32.reduceDiv, Int32.reduceMod, ↓reduceIte, Option.bind_some, hz', if_pos hz]
      · have hz' : ¬ lg_cmp (M.2 45 (12 * 0 + t)) 0 = 0 := fun e => hz (zw_cmp.mp e)
        simp (decide := true) only [mX9_step_74, mX9_doEnd_100, mX9_doEnd_96, mX9_doEnd_56, mX9_doEnd_15, mX9_doEnd_0, mX9_doEnd, zqk_75, f1, zqg_75_47, x47, xs, zqp_75_47, y47, zqp_75_50, zqp_75_49, id, Option.map_some, show (Int32.ofNat 0 = 0) = True from propext ⟨fun _ => trivial, fun _ => rfl⟩, Int32.reduceLT, Int32.reduceLE, Int32.reduceAdd, Int32.reduceSub, Int32.reduceMul, Int32.reduceDiv, Int32.reduceMod, ↓reduceIte, Option.bind_some, hz', if_neg hz]
    · show (zI C 15 7 0).1 o k = _
      rw [zI1, if_neg (by omega)]
    · show (zI C 15 7 0).1 15 3 = _
      rw [zI1, if_neg (by decide)]
    · show (zI C 15 7 0).1 15 9 = _
      rw [zI1, if_neg (by decide)]
    · unfold zMD; simp (disch := omega) only [zJ1, zK1, if_neg]
    · unfold zMD; simp (disch := omega) only [zJ1, zK1, if_neg]
    · unfold zMD; simp (disch := omega) only [zJ2, zK2, if_neg]
    · show (zI C 15 7 0).1 15 7 = _
      rw [zI1, if_pos ⟨rfl, rfl⟩]; rfl
    · unfold zMD; simp (disch := omega) only [zJ1, zK1, if_neg]; exact n2
    · rw [zJ1, if_pos ⟨rfl, rfl⟩]
    · unfold zMD; simp (disch := omega) only [zJ1, zK1, if_neg]; exact n4
    · rw [if_neg (show ¬ (0 = 3) by decide), zJ2, zK2, if_pos (show (100 = 100 ∧ 50 = 50) from ⟨rfl, rfl⟩)]
      rw [zL2, if_pos (show (15 = 15 ∧ 8 = 8) from ⟨rfl, rfl⟩)]
    · unfold zMD; simp (disch := omega) only [zJ1, zK1, if_neg]
      show (zI C 15 7 0).1 15 10 = _
      rw [zI1, if_neg (by decide)]; exact r10
    · unfold zMD; simp (disch := omega) only [zJ1, zK1, if_neg]
      show (zI C 15 7 0).1 15 11 = _
      rw [zI1, if_neg (by decide)]; exact r11
    · show (zI C 15 7 0).1 o k = _
      rw [zI1, if_neg (by omega)]
  | succ g =>
    have mm : (φ (g + 1)).2.2.1 = m := by rw [hφ]
    rcases hg : φ g with ⟨tg, pg, mg, ltg, stg⟩
    have tr := t3 g (by omega)
    rw [hg, mm] at tr
    have hmg : mg < Q.1 := by
      have := t1 g (by omega)
      rw [hg] at this
      exact this
    obtain ⟨_, _, gK, gG⟩ := r3.2.2.2 mg hmg
    obtain ⟨l3, w1, w2, w3⟩ := tr.ret gG gK
    rw [hrs] at w1 w3
    have frg := r12 g (by omega)
    rw [hg] at frg
    have frg : zFr D C M Q.2.1 g tg pg mg ltg stg := frg
    have b4 := frg.2.2.2.1
    have b2 := frg.2.1
    have b5 := frg.2.2.2.2.1
    have hg16 : g < 16 := by omega
    have o1 : ∀ o k, o ≠ 15 → (zV (zI C 15 6 (Int32.ofNat g)) 15 5 (.ref (b + (3 * g + 27)))).1 o k = C.1 o k := fun o k h => by rw [zV1, zI1, if_neg (by omega)]
    have o15 : ∀ k, k ≠ 6 → (zV (zI C 15 6 (Int32.ofNat g)) 15 5 (.ref (b + (3 * g + 27)))).1 15 k = C.1 15 k := fun k h => by rw [zV1, zI1, if_neg (by omega)]
    have o6 : (zV (zI C 15 6 (Int32.ofNat g)) 15 5 (.ref (b + (3 * g + 27)))).1 15 6 = Int32.ofNat g := by rw [zV1, zI1, if_pos ⟨rfl, rfl⟩]
    have o2 : (zV (zI C 15 6 (Int32.ofNat g)) 15 5 (.ref (b + (3 * g + 27)))).2.1 = C.2.1 := rfl
    have o3 : ∀ o k, ¬ (o = 15 ∧ k = 5) → (zV (zI C 15 6 (Int32.ofNat g)) 15 5 (.ref (b + (3 * g + 27)))).2.2 o k = C.2.2 o k := fun o k h => by rw [zV3, if_neg h]; rfl
    have o5 : (zV (zI C 15 6 (Int32.ofNat g)) 15 5 (.ref (b + (3 * g + 27)))).2.2 15 5 = .ref (b + (3 * g + 27)) := by rw [zV3, if_pos ⟨rfl, rfl⟩]
    have p1 : ∀ o k, ¬ (o = 100 ∧ k = 47) → ¬ (o = 42 ∧ k = g + 1) → (zJ (zMD M (g + 1) t) 100 47 (Int32.ofNat (g + 1))).1 o k = M.1 o k := fun o k q1 q2 => by unfold zMD; simp (disch := omega) only [zJ1, if_neg]
    have p47 : (zJ (zMD M (g + 1) t) 100 47 (Int32.ofNat (g + 1))).1 100 47 = Int32.ofNat (g + 1) := by rw [zJ1, if_pos ⟨rfl, rfl⟩]
    have p2 : (zJ (zMD M (g + 1) t) 100 47 (Int32.ofNat (g + 1))).2 = M.2 := rfl
    generalize hC1 : (zV (zI C 15 6 (Int32.ofNat g)) 15 5 (.ref (b + (3 * g + 27)))) = C1 at *
    generalize hM1 : (zJ (zMD M (g + 1) t) 100 47 (Int32.ofNat (g + 1))) = M1 at *
    have fr1 : zFr D C1 M1 Q.2.1 g tg pg mg ltg stg := frg.mv2 (o1 _ _ (by omega)) (o1 _ _ (by omega)) (o3 _ _ (by omega)) (fun k => by rw [o2]) (fun k => o1 _ _ (by omega)) (p1 _ _ (by omega) (by omega)) (p1 _ _ (by omega) (by omega)) (p1 _ _ (by omega) (by omega)) (fun k hk => ⟨p1 _ _ (by omega) (by omega), by rw [p2]⟩) (fun k hk => ⟨p1 _ _ (by omega) (by omega), by rw [p2]⟩)
    have h12 : tg < 12 := w3 (by decide)
    have fr2 := (fr1.pushR h12 n0).go (pg + 2)
    have oC : ∀ o k, o ≠ 15 → o ≠ g + 100 → o ≠ g + 140 → (zI (zPR C1 g tg (C.1 (g + 1 + 140) (16 + t))) (g + 100) 4 (Int32.ofNat (pg + 2))).1 o k = C.1 o k := fun o k q1 q2 q3 => by
      rw [← o1 o k q1]
      unfold zPR; simp (disch := omega) only [zI1, if_neg]
    have oC15 : ∀ k, (zI (zPR C1 g tg (C.1 (g + 1 + 140) (16 + t))) (g + 100) 4 (Int32.ofNat (pg + 2))).1 15 k = C1.1 15 k := fun k => by
      unfold zPR; simp (disch := omega) only [zI1, if_neg]
    have oL : ∀ o k, o ≠ g + 120 → (zI (zPR C1 g tg (C.1 (g + 1 + 140) (16 + t))) (g + 100) 4 (Int32.ofNat (pg + 2))).2.1 o k = C.2.1 o k := fun o k q => by
      rw [← o2]
      rfl
    have oV : (zI (zPR C1 g tg (C.1 (g + 1 + 140) (16 + t))) (g + 100) 4 (Int32.ofNat (pg + 2))).2.2 = C1.2.2 := rfl
    have oM : ∀ o k, ¬ (o = 100 ∧ k = 47) → ¬ (o = 42 ∧ k = g + 1) → ¬ (k = g ∧ (o = 41 ∨ o = 42)) → ¬ (o = 46 ∧ 12 * g ≤ k ∧ k < 12 * g + 12) → (zJ (zMP M1 g tg 3 (M.2 45 (12 * (g + 1) + t))) 41 g (Int32.ofNat (pg + 2))).1 o k = M.1 o k := fun o k q1 q2 q3 q4 => by
      rw [← p1 o k q1 q2]
      unfold zMP; simp (disch := omega) only [zJ1, zK1, if_neg]
    have oM47 : (zJ (zMP M1 g tg 3 (M.2 45 (12 * (g + 1) + t))) 41 g (Int32.ofNat (pg + 2))).1 100 47 = Int32.ofNat (g + 1) := by
      rw [← p47]
      unfold zMP; simp (disch := omega) only [zJ1, zK1, if_neg]
    have oM2 : ∀ o k, ¬ (o = 45 ∧ 12 * g ≤ k ∧ k < 12 * g + 12) → (zJ (zMP M1 g tg 3 (M.2 45 (12 * (g + 1) + t))) 41 g (Int32.ofNat (pg + 2))).2 o k = M.2 o k := fun o k q => by
      rw [← p2]
      unfold zMP; simp (disch := omega) only [zJ2, zK2, if_neg]
    have sc : zSC C (zI (zPR C1 g tg (C.1 (g + 1 + 140) (16 + t))) (g + 100) 4 (Int32.ofNat (pg + 2))) := ⟨fun o k h => oC o k (by omega) (by omega) (by omega), fun o k h => by rw [oV, o3 _ _ (by omega)], by rw [oC15, o15 3 (by decide)], by rw [oC15, o15 9 (by decide)]⟩
    have sm : zSM M (zJ (zMP M1 g tg 3 (M.2 45 (12 * (g + 1) + t))) 41 g (Int32.ofNat (pg + 2))) := ⟨fun o k h => oM o k (by omega) (by omega) (by omega) (by omega), fun k h => oM _ _ (by omega) (by omega) (by omega) (by omega), fun k => oM2 _ _ (by omega)⟩
    refine ⟨_, _, fun M0 => ?_, fun C0 r0 => ?_, sc, sm, S, Nat.le_succ S, Or.inl ⟨D, g, fun f => if f = g then (tg + 1, pg + 2, mg, ltg, zset stg tg 3) else φ f, ⟨r1.sc sc sm, r2.cong (fun o k q1 q2 => oC o k (by omega) (by omega) (by omega)) (fun o k q1 q2 => oM o k (by omega) (by omega) (by omega) (by omega)) (oM _ _ (by omega) (by omega) (by omega) (by omega)) (oM _ _ (by omega) (by omega) (by omega) (by omega)) (fun k => oM2 _ _ (by omega)), r3.sc sc sm, hg16, (oC15 6).trans o6, by rw [oV]; exact o5, oM47, by rw [oC15, o15 3 (by decide)]; exact r8, (oM _ _ (by omega) (by omega) (by omega) (by omega)).trans r9, ?_, ?_, fun f hf => ?_, fun f hf => ?_, ?_, fun f hf => ?_⟩, ?_⟩⟩
    · have z6 : ¬ C.1 15 6 = 0 := fun q => by
        rw [r5] at q
        have := zi_inj (a := g + 1) (b := 0) (by omega) (by omega) q
        omega
      have z6s : C.1 15 6 - 1 = Int32.ofNat g := by rw [r5]; exact zi_sub (a := g + 1) (b := 1) (by omega)
      have y6 : (zI C 15 6 (Int32.ofNat g)).1 15 6 = Int32.ofNat g := by rw [zI1, if_pos ⟨rfl, rfl⟩]
      have zc1 : ∀ x, zc w b (zV (zI C 15 6 (Int32.ofNat g)) 15 5 (.ref (b + (3 * g + 27)))) x r = zc w b C1 x r := fun x => by rw [hC1]
      have g0 : mX1_reference N (b + (3 * (g + 1) + 27)) 0 (zc w b C1 M0 r) = some (zc w b C1 M0 r, (C.1 (g + 1 + 140) (16 + t))) := by
        have := zf_reference (N := N) (w := w) (b := b) (C := C1) (r := r) (f := g + 1) (t := t + 1) (k := 0) h1 ((o1 _ _ (by omega)).trans a1) a3 (by omega) M0
        rw [show 15 + (t + 1) - 0 = 16 + t by omega, o1 _ _ (by omega)] at this
        exact this
      have e4 : mX1_pushReference N (b + (3 * g + 27)) (C.1 (g + 1 + 140) (16 + t)) (zc w b C1 M0 r) = some (zc w b (zPR C1 g tg (C.1 (g + 1 + 140) (16 + t))) M0 r) := zf_pushReference (t := tg) hg16 fr1.1 h12 (C.1 (g + 1 + 140) (16 + t)) M0
      have e5 : mX4_goOn N (b + 15) 2 (zc w b (zPR C1 g tg (C.1 (g + 1 + 140) (16 + t))) M0 r) = some (zc w b (zI (zPR C1 g tg (C.1 (g + 1 + 140) (16 + t))) (g + 100) 4 (Int32.ofNat (pg + 2))) M0 r, 0) := zf_goOn (C := (zPR C1 g tg (C.1 (g + 1 + 140) (16 + t)))) (n := 2) (p := pg) hg16 o5 (zp4_PR.trans fr1.2.2.2.1) M0
      unfold zcs
      simp (decide := true) only [mX4_step_107, mX4_step_249, mX4_step_0, mX4_step, mX4_leave_132, mX4_leave_61, mX4_leave_36, mX4_leave_0, mX4_leave, e0, zqg_15_5 h2, zqkF h1, id, zqk_15, zqg_15_6, z6, z6s, zqp_15_6, zqg_15_4, y6, zqa_23 hg16, zqp_15_5, zc1, zqg_15_5 o5, zqkF hg16, g0, e4, e5, Option.map_some, Int32.reduceLT, Int32.reduceLE, Int32.reduceAdd, Int32.reduceSub, Int32.reduceMul, Int32.reduceDiv, Int32.reduceMod, ↓reduceIte, Option.bind_some]
    · refine (fstep C0 r0).trans ?_
      have ne0 : ¬ Int32.ofNat (g + 1) = 0 := fun q => by
        have := zi_inj (a := g + 1) (b := 0) (by omega) (by omega) q
        omega
      have zc1 : zc w b C0 (zJ (zMD M (g + 1) t) 100 47 (Int32.ofNat (g + 1))) r0 = zc w b C0 M1 r0 := by rw [hM1]
      have y47b : (zJ (zMD M (g + 1) t) 100 47 (Int32.ofNat (g + 1))).1 100 47 = Int32.ofNat (g + 1) := by rw [zJ1, if_pos ⟨rfl, rfl⟩]
      have xg : (Int32.ofNat (g + 1) - 1 : Int32) = Int32.ofNat g := zi_sub (a := g + 1) (b := 1) (by omega)
      have f8 : mX9_pushValue N (b + 75) 3 (M.2 45 (12 * (g + 1) + t)) (zc w b C0 M1 r0) = some (zc w b C0 (zMP M1 g tg 3 (M.2 45 (12 * (g + 1) + t))) r0) := zn_push (N := N) (w := w) (b := b) (M := M1) (t := tg) hg16 p47 fr1.2.1 h12 3 (M.2 45 (12 * (g + 1) + t)) C0 r0
      have q47 : (zMP M1 g tg 3 (M.2 45 (12 * (g + 1) + t))).1 100 47 = Int32.ofNat (g + 1) := zmp100.trans p47
      have q41 : (zMP M1 g tg 3 (M.2 45 (12 * (g + 1) + t))).1 41 g = Int32.ofNat pg := by unfold zMP; simp (disch := omega) only [zJ1, zK1, if_neg]; exact fr1.2.2.2.2.1
      have e41 : zm_aI (zc w b C0 (zMP M1 g tg 3 (M.2 45 (12 * (g + 1) + t))) r0) (b + 106) (Int32.ofNat g) = some (Int32.ofNat pg) := by rw [zqa_106 hg16, q41]
      have e41s : zm_sI (zc w b C0 (zMP M1 g tg 3 (M.2 45 (12 * (g + 1) + t))) r0) (b + 106) (Int32.ofNat g) (Int32.ofNat pg + 2) = some (zc w b C0 (zJ (zMP M1 g tg 3 (M.2 45 (12 * (g + 1) + t))) 41 g (Int32.ofNat (pg + 2))) r0) := by rw [zqs_106 hg16, show (Int32.ofNat pg + 2 : Int32) = Int32.ofNat (pg + 2) from zi_add pg 2]
      simp (decide := true) only [mX9_step_74, mX9_doEnd_100, mX9_doEnd_96, mX9_doEnd_56, mX9_doEnd_15, mX9_doEnd_0, mX9_doEnd, zqk_75, f1, zqg_75_47, x47, xs, zqp_75_47, y47b, zc1, p47, ne0, f8, zqg_75_41, q47, xg, e41, e41s, id, Option.map_some, Int32.reduceLT, Int32.reduceLE, Int32.reduceAdd, Int32.reduceSub, Int32.reduceMul, Int32.reduceDiv, Int32.reduceMod, ↓reduceIte, Option.bind_some]
    · rw [oC15, o15 10 (by decide), oM _ _ (by omega) (by omega) (by omega) (by omega)]; exact r10
    · rw [oC15, o15 11 (by decide), oM _ _ (by omega) (by omega) (by omega) (by omega)]; exact r11
    · show zFa D _ _ Q.2.1 f (if f = g then _ else φ f)
      by_cases c : f = g
      · rw [if_pos c, c]; exact fr2
      · rw [if_neg c]
        refine zFr.mv2 (r12 f (by omega)) (oC _ _ (by omega) (by omega) (by omega)) (oC _ _ (by omega) (by omega) (by omega)) (by rw [oV, o3 _ _ (by omega)]) (fun k => oL _ _ (by omega)) (fun k => oC _ _ (by omega) (by omega) (by omega)) (oM _ _ (by omega) (by omega) (by omega) (by omega)) (oM _ _ (by omega) (by omega) (by omega) (by omega)) (oM _ _ (by omega) (by omega) (by omega) (by omega)) (fun k hk => ⟨oM _ _ (by omega) (by omega) (by omega) (by omega), oM2 _ _ (by omega)⟩) (fun k hk => ⟨oM _ _ (by omega) (by omega) (by omega) (by omega), oM2 _ _ (by omega)⟩)
    · show (if f = g then ((tg + 1, pg + 2, mg, ltg, zset stg tg 3) : zFd) else φ f).2.2.1 < Q.1
      by_cases c : f = g
      · rw [if_pos c]; exact hmg
      · rw [if_neg c]; exact t1 f (by omega)
    · show zT0 Q (if g = g then _ else φ g)
      rw [if_pos rfl]
      refine ⟨l3, ?_, w2⟩
      rw [if_neg (by decide)] at w1
      show Q.2.2.2 mg (pg + 2) = some (zrv (zset stg tg 3) (tg + 1), l3)
      rw [zrv_push]; exact w1
    · show zT1 Q (if f = g then _ else φ f) (if f + 1 = g then ((tg + 1, pg + 2, mg, ltg, zset stg tg 3) : zFd) else φ (f + 1)).2.2.1
      rw [if_neg (by omega)]
      have h := t3 f (by omega)
      by_cases c : f + 1 = g
      · rw [if_pos c]
        rw [c, hg] at h
        exact h
      · rw [if_neg c]; exact h
    · exact ⟨by rw [oC15, o15 7 (by decide)]; exact n1, (oM _ _ (by omega) (by omega) (by omega) (by omega)).trans n2, (oM _ _ (by omega) (by omega) (by omega) (by omega)).trans n3, (oM _ _ (by omega) (by omega) (by omega) (by omega)).trans n4, (oL _ _ (by omega)).trans n5, (oM2 _ _ (by omega)).trans n6⟩

theorem zs_177 (hR : zRn w b K F ρ α π r Q D C M S f0 φ) (hO : zOn C M) (hφ : φ f0 = (t, p, m, lt, st)) (hop : uC (Q.2.2.1 m) p = 177) : zStp N w b K F ρ α π r Q C M S := by
  obtain ⟨hc, hm, hK, l', hl, s1, hp, s2, l2, hh, hlen, hfl⟩ := hR.ty hO hφ hop
  have hh : (if uRs (Q.2.2.1 m) = 0 then some (s1, l') else none) = some (s2, l2) := hh
  obtain ⟨hrs, hh⟩ := zg hh
  clear hh
  have hp : zpop [] (zrv st t) = some s1 := hp
  have hc' := hc
  obtain ⟨r1, r2, r3, r4, r5, r6, r7, r8, r9, r10, r11, r12, t1, t2, t3⟩ := hR
  obtain ⟨n1, n2, n3, n4, n5, n6⟩ := hO
  obtain ⟨h1, h2, h3, h4, h5, hfr, _, h8, h9, h10, h11, h12⟩ := hc
  obtain ⟨a1, a2, a3, a4, a5, a6, a7, a8, a9⟩ := hfr
  have e0 : ∀ M0, mX1_opcode N (b + (3 * f0 + 27)) (zc w b C M0 r) = some (zc w b C M0 r, 177) := fun M0 => ze_step0 (N := N) (w := w) hc' hop M0
  have fstep : ∀ C0 r0, mX9_step N (b + 75) (zc w b C0 M r0) = mX9_step_74 N (b + 75) (Int32.ofNat f0) (Int32.ofNat m) (Int32.ofNat p) 177 1 0 0 (zc w b C0 M r0) := fun C0 r0 => zn_step (N := N) (w := w) hc' hop (n := 1) rfl rfl rfl C0 r0
  have x47 : M.1 100 47 = Int32.ofNat (f0 + 1) := r7
  have xs : (Int32.ofNat (f0 + 1) - 1 : Int32) = Int32.ofNat f0 := zi_sub (a := f0 + 1) (b := 1) (by omega)
  have y47 : (zJ M 100 47 (Int32.ofNat f0)).1 100 47 = Int32.ofNat f0 := by rw [zJ1, if_pos ⟨rfl, rfl⟩]
  cases f0 with
  | zero =>
    refine ⟨(zI C 15 7 0), (zJ (zK (zJ M 100 47 (Int32.ofNat 0)) 100 50 0) 100 49 1), fun M0 => ?_, fun C0 r0 => ?_, ⟨fun o k h => ?_, fun o k h => rfl, ?_, ?_⟩, ⟨fun o k h => ?_, fun k h => ?_, fun k => ?_⟩, S, Nat.le_succ S, Or.inr ⟨0, Or.inl rfl, ?_, ?_, ?_, ?_, ?_, ?_, ?_, r2.rest.cong fun o k h1 h2 => ?_⟩⟩
    · have z6 : C.1 15 6 = 0 := r5
      have k1 : (zI C 15 7 0).2.2 15 5 = .ref (b + (3 * 0 + 27)) := h2
      unfold zcs
      simp (decide := true) only [mX4_step_107, mX4_step_249, mX4_step_0, mX4_step, mX4_leave_132, mX4_leave_61, mX4_leave_36, mX4_leave_0, mX4_leave, e0, zqg_15_5 h2, zqg_15_5 k1, zqkF h1, id, zqk_15, zqg_15_6, z6, zqp_15_7, zqp_15_8, Option.map_some, Int32.reduceLT, Int32.reduceLE, Int32.reduceAdd, Int32.reduceSub, Int32.reduceMul, Int32.reduceDiv, Int32.reduceMod, ↓reduceIte, Option.bind_some]
    · refine (fstep C0 r0).trans ?_
      simp (decide := true) only [mX9_step_74, mX9_doEnd_100, mX9_doEnd_96, mX9_doEnd_56, mX9_doEnd_15, mX9_doEnd_0, mX9_doEnd, zqk_75, zqg_75_47, x47, xs, zqp_75_47, y47, zqp_75_50, zqp_75_49, id, Option.map_some, show (Int32.ofNat 0 = 0) = True from propext ⟨fun _ => trivial, fun _ => rfl⟩, Int32.reduceLT, Int32.reduceLE, Int32.reduceAdd, Int32.reduceSub, Int32.reduceMul, Int32.reduceDiv, Int32.reduceMod, ↓reduceIte, Option.bind_some]
    · show (zI C 15 7 0).1 o k = _
      rw [zI1, if_neg (by omega)]
    · show (zI C 15 7 0).1 15 3 = _
      rw [zI1, if_neg (by decide)]
    · show (zI C 15 7 0).1 15 9 = _
      rw [zI1, if_neg (by decide)]
    · simp (disch := omega) only [zJ1, zK1, if_neg]
    · simp (disch := omega) only [zJ1, zK1, if_neg]
    · simp (disch := omega) only [zJ2, zK2, if_neg]
    · show (zI C 15 7 0).1 15 7 = _
      rw [zI1, if_pos ⟨rfl, rfl⟩]; rfl
    · simp (disch := omega) only [zJ1, zK1, if_neg]; exact n2
    · rw [zJ1, if_pos ⟨rfl, rfl⟩]
    · simp (disch := omega) only [zJ1, zK1, if_neg]; exact n4
    · rw [if_neg (show ¬ (0 = 3) by decide), zJ2, zK2, if_pos (show (100 = 100 ∧ 50 = 50) from ⟨rfl, rfl⟩)]
      exact n5
    · simp (disch := omega) only [zJ1, zK1, if_neg]
      show (zI C 15 7 0).1 15 10 = _
      rw [zI1, if_neg (by decide)]; exact r10
    · simp (disch := omega) only [zJ1, zK1, if_neg]
      show (zI C 15 7 0).1 15 11 = _
      rw [zI1, if_neg (by decide)]; exact r11
    · show (zI C 15 7 0).1 o k = _
      rw [zI1, if_neg (by omega)]
  | succ g =>
    have mm : (φ (g + 1)).2.2.1 = m := by rw [hφ]
    rcases hg : φ g with ⟨tg, pg, mg, ltg, stg⟩
    have tr := t3 g (by omega)
    rw [hg, mm] at tr
    have hmg : mg < Q.1 := by
      have := t1 g (by omega)
      rw [hg] at this
      exact this
    obtain ⟨_, _, gK, gG⟩ := r3.2.2.2 mg hmg
    obtain ⟨l3, w1, w2, w3⟩ := tr.ret gG gK
    rw [hrs] at w1 w3
    have frg := r12 g (by omega)
    rw [hg] at frg
    have frg : zFr D C M Q.2.1 g tg pg mg ltg stg := frg
    have b4 := frg.2.2.2.1
    have b2 := frg.2.1
    have b5 := frg.2.2.2.2.1
    have hg16 : g < 16 := by omega
    have o1 : ∀ o k, o ≠ 15 → (zV (zI C 15 6 (Int32.ofNat g)) 15 5 (.ref (b + (3 * g + 27)))).1 o k = C.1 o k := fun o k h => by rw [zV1, zI1, if_neg (by omega)]
    have o15 : ∀ k, k ≠ 6 → (zV (zI C 15 6 (Int32.ofNat g)) 15 5 (.ref (b + (3 * g + 27)))).1 15 k = C.1 15 k := fun k h => by rw [zV1, zI1, if_neg (by omega)]
    have o6 : (zV (zI C 15 6 (Int32.ofNat g)) 15 5 (.ref (b + (3 * g + 27)))).1 15 6 = Int32.ofNat g := by rw [zV1, zI1, if_pos ⟨rfl, rfl⟩]
    have o2 : (zV (zI C 15 6 (Int32.ofNat g)) 15 5 (.ref (b + (3 * g + 27)))).2.1 = C.2.1 := rfl
    have o3 : ∀ o k, ¬ (o = 15 ∧ k = 5) → (zV (zI C 15 6 (Int32.ofNat g)) 15 5 (.ref (b + (3 * g + 27)))).2.2 o k = C.2.2 o k := fun o k h => by rw [zV3, if_neg h]; rfl
    have o5 : (zV (zI C 15 6 (Int32.ofNat g)) 15 5 (.ref (b + (3 * g + 27)))).2.2 15 5 = .ref (b + (3 * g + 27)) := by rw [zV3, if_pos ⟨rfl, rfl⟩]
    have p1 : ∀ o k, ¬ (o = 100 ∧ k = 47) → ¬ (o = 42 ∧ k = g + 1) → (zJ M 100 47 (Int32.ofNat (g + 1))).1 o k = M.1 o k := fun o k q1 q2 => by simp (disch := omega) only [zJ1, if_neg]
    have p47 : (zJ M 100 47 (Int32.ofNat (g + 1))).1 100 47 = Int32.ofNat (g + 1) := by rw [zJ1, if_pos ⟨rfl, rfl⟩]
    have p2 : (zJ M 100 47 (Int32.ofNat (g + 1))).2 = M.2 := rfl
    generalize hC1 : (zV (zI C 15 6 (Int32.ofNat g)) 15 5 (.ref (b + (3 * g + 27)))) = C1 at *
    generalize hM1 : (zJ M 100 47 (Int32.ofNat (g + 1))) = M1 at *
    have fr1 : zFr D C1 M1 Q.2.1 g tg pg mg ltg stg := frg.mv2 (o1 _ _ (by omega)) (o1 _ _ (by omega)) (o3 _ _ (by omega)) (fun k => by rw [o2]) (fun k => o1 _ _ (by omega)) (p1 _ _ (by omega) (by omega)) (p1 _ _ (by omega) (by omega)) (p1 _ _ (by omega) (by omega)) (fun k hk => ⟨p1 _ _ (by omega) (by omega), by rw [p2]⟩) (fun k hk => ⟨p1 _ _ (by omega) (by omega), by rw [p2]⟩)
    have fr2 := fr1.go (pg + 2)
    have oC : ∀ o k, o ≠ 15 → o ≠ g + 100 → o ≠ g + 140 → (zI C1 (g + 100) 4 (Int32.ofNat (pg + 2))).1 o k = C.1 o k := fun o k q1 q2 q3 => by
      rw [← o1 o k q1]
      simp (disch := omega) only [zI1, if_neg]
    have oC15 : ∀ k, (zI C1 (g + 100) 4 (Int32.ofNat (pg + 2))).1 15 k = C1.1 15 k := fun k => by
      simp (disch := omega) only [zI1, if_neg]
    have oL : ∀ o k, o ≠ g + 120 → (zI C1 (g + 100) 4 (Int32.ofNat (pg + 2))).2.1 o k = C.2.1 o k := fun o k q => by
      rw [← o2]
      rfl
    have oV : (zI C1 (g + 100) 4 (Int32.ofNat (pg + 2))).2.2 = C1.2.2 := rfl
    have oM : ∀ o k, ¬ (o = 100 ∧ k = 47) → ¬ (o = 42 ∧ k = g + 1) → ¬ (k = g ∧ (o = 41 ∨ o = 42)) → ¬ (o = 46 ∧ 12 * g ≤ k ∧ k < 12 * g + 12) → (zJ M1 41 g (Int32.ofNat (pg + 2))).1 o k = M.1 o k := fun o k q1 q2 q3 q4 => by
      rw [← p1 o k q1 q2]
      simp (disch := omega) only [zJ1, if_neg]
    have oM47 : (zJ M1 41 g (Int32.ofNat (pg + 2))).1 100 47 = Int32.ofNat (g + 1) := by
      rw [← p47]
      simp (disch := omega) only [zJ1, if_neg]
    have oM2 : ∀ o k, ¬ (o = 45 ∧ 12 * g ≤ k ∧ k < 12 * g + 12) → (zJ M1 41 g (Int32.ofNat (pg + 2))).2 o k = M.2 o k := fun o k q => by
      rw [← p2]
      rfl
    have sc : zSC C (zI C1 (g + 100) 4 (Int32.ofNat (pg + 2))) := ⟨fun o k h => oC o k (by omega) (by omega) (by omega), fun o k h => by rw [oV, o3 _ _ (by omega)], by rw [oC15, o15 3 (by decide)], by rw [oC15, o15 9 (by decide)]⟩
    have sm : zSM M (zJ M1 41 g (Int32.ofNat (pg + 2))) := ⟨fun o k h => oM o k (by omega) (by omega) (by omega) (by omega), fun k h => oM _ _ (by omega) (by omega) (by omega) (by omega), fun k => oM2 _ _ (by omega)⟩
    refine ⟨_, _, fun M0 => ?_, fun C0 r0 => ?_, sc, sm, S, Nat.le_succ S, Or.inl ⟨D, g, fun f => if f = g then (tg, pg + 2, mg, ltg, stg) else φ f, ⟨r1.sc sc sm, r2.cong (fun o k q1 q2 => oC o k (by omega) (by omega) (by omega)) (fun o k q1 q2 => oM o k (by omega) (by omega) (by omega) (by omega)) (oM _ _ (by omega) (by omega) (by omega) (by omega)) (oM _ _ (by omega) (by omega) (by omega) (by omega)) (fun k => oM2 _ _ (by omega)), r3.sc sc sm, hg16, (oC15 6).trans o6, by rw [oV]; exact o5, oM47, by rw [oC15, o15 3 (by decide)]; exact r8, (oM _ _ (by omega) (by omega) (by omega) (by omega)).trans r9, ?_, ?_, fun f hf => ?_, fun f hf => ?_, ?_, fun f hf => ?_⟩, ?_⟩⟩
    · have z6 : ¬ C.1 15 6 = 0 := fun q => by
        rw [r5] at q
        have := zi_inj (a := g + 1) (b := 0) (by omega) (by omega) q
        omega
      have z6s : C.1 15 6 - 1 = Int32.ofNat g := by rw [r5]; exact zi_sub (a := g + 1) (b := 1) (by omega)
      have y6 : (zI C 15 6 (Int32.ofNat g)).1 15 6 = Int32.ofNat g := by rw [zI1, if_pos ⟨rfl, rfl⟩]
      have zc1 : ∀ x, zc w b (zV (zI C 15 6 (Int32.ofNat g)) 15 5 (.ref (b + (3 * g + 27)))) x r = zc w b C1 x r := fun x => by rw [hC1]
      have e5 : mX4_goOn N (b + 15) 2 (zc w b C1 M0 r) = some (zc w b (zI C1 (g + 100) 4 (Int32.ofNat (pg + 2))) M0 r, 0) := zf_goOn (C := C1) (n := 2) (p := pg) hg16 o5 (fr1.2.2.2.1) M0
      unfold zcs
      simp (decide := true) only [mX4_step_107, mX4_step_249, mX4_step_0, mX4_step, mX4_leave_132, mX4_leave_61, mX4_leave_36, mX4_leave_0, mX4_leave, e0, zqg_15_5 h2, zqkF h1, id, zqk_15, zqg_15_6, z6, z6s, zqp_15_6, zqg_15_4, y6, zqa_23 hg16, zqp_15_5, zc1, zqg_15_5 o5, zqkF hg16, e5, Option.map_some, Int32.reduceLT, Int32.reduceLE, Int32.reduceAdd, Int32.reduceSub, Int32.reduceMul, Int32.reduceDiv, Int32.reduceMod, ↓reduceIte, Option.bind_some]
    · refine (fstep C0 r0).trans ?_
      have ne0 : ¬ Int32.ofNat (g + 1) = 0 := fun q => by
        have := zi_inj (a := g + 1) (b := 0) (by omega) (by omega) q
        omega
      have zc1 : zc w b C0 (zJ M 100 47 (Int32.ofNat (g + 1))) r0 = zc w b C0 M1 r0 := by rw [hM1]
      have y47b : (zJ M 100 47 (Int32.ofNat (g + 1))).1 100 47 = Int32.ofNat (g + 1) := by rw [zJ1, if_pos ⟨rfl, rfl⟩]
      have xg : (Int32.ofNat (g + 1) - 1 : Int32) = Int32.ofNat g := zi_sub (a := g + 1) (b := 1) (by omega)
      have q47 : M1.1 100 47 = Int32.ofNat (g + 1) := p47
      have q41 : M1.1 41 g = Int32.ofNat pg := by exact fr1.2.2.2.2.1
      have e41 : zm_aI (zc w b C0 M1 r0) (b + 106) (Int32.ofNat g) = some (Int32.ofNat pg) := by rw [zqa_106 hg16, q41]
      have e41s : zm_sI (zc w b C0 M1 r0) (b + 106) (Int32.ofNat g) (Int32.ofNat pg + 2) = some (zc w b C0 (zJ M1 41 g (Int32.ofNat (pg + 2))) r0) := by rw [zqs_106 hg16, show (Int32.ofNat pg + 2 : Int32) = Int32.ofNat (pg + 2) from zi_add pg 2]
      simp (decide := true) only [mX9_step_74, mX9_doEnd_100, mX9_doEnd_96, mX9_doEnd_56, mX9_doEnd_15, mX9_doEnd_0, mX9_doEnd, zqk_75, zqg_75_47, x47, xs, zqp_75_47, y47b, zc1, p47, ne0, zqg_75_41, q47, xg, e41, e41s, id, Option.map_some, Int32.reduceLT, Int32.reduceLE, Int32.reduceAdd, Int32.reduceSub, Int32.reduceMul, Int32.reduceDiv, Int32.reduceMod, ↓reduceIte, Option.bind_some]
    · rw [oC15, o15 10 (by decide), oM _ _ (by omega) (by omega) (by omega) (by omega)]; exact r10
    · rw [oC15, o15 11 (by decide), oM _ _ (by omega) (by omega) (by omega) (by omega)]; exact r11
    · show zFa D _ _ Q.2.1 f (if f = g then _ else φ f)
      by_cases c : f = g
      · rw [if_pos c, c]; exact fr2
      · rw [if_neg c]
        refine zFr.mv2 (r12 f (by omega)) (oC _ _ (by omega) (by omega) (by omega)) (oC _ _ (by omega) (by omega) (by omega)) (by rw [oV, o3 _ _ (by omega)]) (fun k => oL _ _ (by omega)) (fun k => oC _ _ (by omega) (by omega) (by omega)) (oM _ _ (by omega) (by omega) (by omega) (by omega)) (oM _ _ (by omega) (by omega) (by omega) (by omega)) (oM _ _ (by omega) (by omega) (by omega) (by omega)) (fun k hk => ⟨oM _ _ (by omega) (by omega) (by omega) (by omega), oM2 _ _ (by omega)⟩) (fun k hk => ⟨oM _ _ (by omega) (by omega) (by omega) (by omega), oM2 _ _ (by omega)⟩)
    · show (if f = g then ((tg, pg + 2, mg, ltg, stg) : zFd) else φ f).2.2.1 < Q.1
      by_cases c : f = g
      · rw [if_pos c]; exact hmg
      · rw [if_neg c]; exact t1 f (by omega)
    · show zT0 Q (if g = g then _ else φ g)
      rw [if_pos rfl]
      refine ⟨l3, ?_, w2⟩
      rw [if_pos rfl] at w1
      show Q.2.2.2 mg (pg + 2) = some (zrv stg tg, l3)
      exact w1
    · show zT1 Q (if f = g then _ else φ f) (if f + 1 = g then ((tg, pg + 2, mg, ltg, stg) : zFd) else φ (f + 1)).2.2.1
      rw [if_neg (by omega)]
      have h := t3 f (by omega)
      by_cases c : f + 1 = g
      · rw [if_pos c]
        rw [c, hg] at h
        exact h
      · rw [if_neg c]; exact h
    · exact ⟨by rw [oC15, o15 7 (by decide)]; exact n1, (oM _ _ (by omega) (by omega) (by omega) (by omega)).trans n2, (oM _ _ (by omega) (by omega) (by omega) (by omega)).trans n3, (oM _ _ (by omega) (by omega) (by omega) (by omega)).trans n4, (oL _ _ (by omega)).trans n5, (oM2 _ _ (by omega)).trans n6⟩

end ZRE
