/-! ===== things that are looked at (written by wip/gen/ops8.py) ===== -/
section ZLO
variable {N w b K S f0 t p m : Nat} {F ρ α π lt st : Nat → Nat} {D : Nat → Nat → Prop} {C : zC} {M : zM} {r : zv_X} {Q : zQo} {φ : Nat → zFd}
/-- a reference of both: nothing, or a pair -/
theorem zRf.cs (hD : zDok D) {re : Int32} {v : Int64} (h : zRf D re v) : (re = 0 ∧ v = 0) ∨ ∃ u t, D (u + 1) t ∧ re = Int32.ofNat (u + 1) ∧ v = Int64.ofNat (t + 1) ∧ ¬ re = 0 ∧ ¬ lg_cmp v 0 = 0 ∧ v.toInt32 - 1 = Int32.ofNat t := by
  rcases h with h | ⟨h, t, h1, h2, h3⟩
  · exact Or.inl h
  · have hb := hD.1 h t h1
    obtain ⟨u, rfl⟩ : ∃ u, h = u + 1 := ⟨h - 1, by omega⟩
    refine Or.inr ⟨u, t, h1, h2, h3, fun e => ?_, fun e => ?_, ?_⟩
    · rw [h2] at e
      have := zi_inj (a := u + 1) (b := 0) (by omega) (by omega) e
      omega
    · rw [h3, zw_cmp] at e
      have := zl_inj (a := t + 1) (b := 0) (by omega) (by omega) e
      omega
    · rw [h3, Int64.toInt32_ofNat']
      exact zi_sub (a := t + 1) (b := 1) (by omega)
/-- what is known of a pair -/
def zPk (w K : Nat) (F ρ : Nat → Nat) (D : Nat → Nat → Prop) (C : zC) (M : zM) (u t so cl n : Nat) : Prop := u < w / 2 ∧ t < 201 ∧ M.1 32 t = Int32.ofNat so ∧ M.1 31 t = Int32.ofNat cl ∧ M.1 33 t = Int32.ofNat n ∧ n ≤ 1600 ∧ cl < K ∧ (so = 0 ∨ so = 4 ∨ so = 5 ∨ so = 8 ∨ so = 9 ∨ so = 10 ∨ so = 11 ∨ so = 12) ∧ (so = 0 → n = F cl) ∧ (so ≠ 0 → cl = 0) ∧ zhW C u = zwd so n ∧ zht C u = zTag so cl ∧ C.1 17 (zha C u + 1) = zLen so n ∧ zha C u + zwd so n ≤ w ∧ zgb M t + n ≤ 1700 ∧ zha C u < w ∧ zha C u + 1 < w ∧
  ∀ k, k < n → if so = 12 ∨ so = 0 ∧ (ρ cl).testBit k = true then zRf D (C.1 17 (zha C u + 2 + k)) (M.2 37 (zgb M t + k)) else M.2 37 (zgb M t + k) = zel so (fun j => C.1 17 (zha C u + 2 + j)) k
theorem zHp.pk (hw : w ≤ 400) (hT : zTy C M K F ρ α π) (h : zHp w K F ρ D C M S) {u t : Nat} (hd : D (u + 1) t) : ∃ so cl n, zPk w K F ρ D C M u t so cl n := by
  have hgo := h.mo hw hT hd
  have hho := h.co hw hT hd
  obtain ⟨b1, b2, u', so, cl, n, p1, p2, p3, p4, p5, p6, p7, p8, p9, p10, p11, p12, p13, p14⟩ := h.2.2.2.1 _ t hd
  have : u' = u := by omega
  subst this
  have q1 := hgo.1.2.1
  have q2 := hho.2.1
  have q3 := hho.2.2.1
  rw [p5, zN_nat (by omega)] at q1
  rw [p11] at q2
  exact ⟨so, cl, n, p2, b2, p3, p4, p5, p6, p7, p8, p9, p10, p11, p12, p13, q2, q1, by omega, by rw [p11] at q3; omega, p14⟩
theorem zPk.arr {u t so cl n : Nat} (h : zPk w K F ρ D C M u t so cl n) (hK : K ≤ 30) : (0 ≤ zht C u) = (so = 0) := by
  obtain ⟨k1, k2, k3, k4, k5, k6, k7, k8, k9, k10, k11, k12, k13, k14, k15, k16, k17, k18⟩ := h
  rw [k12]
  unfold zTag
  by_cases c0 : so = 0
  · rw [if_pos c0, zi_p0 (by omega)]
    exact propext ⟨fun _ => c0, fun _ => trivial⟩
  · rw [if_neg c0]
    refine propext ⟨fun h => ?_, fun h => absurd h c0⟩
    rcases k8 with e | e | e | e | e | e | e | e
    · exact e
    · subst e; exact absurd h (by decide)
    · subst e; exact absurd h (by decide)
    · subst e; exact absurd h (by decide)
    · subst e; exact absurd h (by decide)
    · subst e; exact absurd h (by decide)
    · subst e; exact absurd h (by decide)
    · subst e; exact absurd h (by decide)
theorem zd_isOf {u t so cl n ty : Nat} (hw : w ≤ 400) (hT : zTy C M K F ρ α π) (h : zPk w K F ρ D C M u t so cl n) (hty : ty < K) : zHC w b (mX4_isOf N (b + 15) (Int32.ofNat (u + 1)) (Int32.ofNat ty)) C r (fun x => (x, if (α cl).testBit ty = true then 1 else 0)) C r := by
  intro M0
  obtain ⟨k1, k2, k3, k4, k5, k6, k7, k8, k9, k10, k11, k12, k13, k14, k15, k16, k17, k18⟩ := h
  have e := zd_classes (N := N) (w := w) (b := b) (r := r) hw hT k1 k16 k8 k7 k10 k12 M0
  have hK := hT.2.2.2.1
  have hal : α cl < 2 ^ 31 := Nat.lt_of_lt_of_le (hT.2.2.2.2.2.2.1 cl k7).2.2.2.2.2.2.1 (Nat.pow_le_pow_right (by decide) (by omega))
  have eb : ((Int32.ofNat (α cl) >>> (Int32.ofNat ty &&& 31)) &&& (1 : Int32) = (1 : Int32)) = ((α cl).testBit ty = true) := by
    show ((Int32.ofNat (α cl) >>> (Int32.ofNat ty &&& Int32.ofNat 31)) &&& Int32.ofNat 1 = Int32.ofNat 1) = _
    rw [zi_31 (by omega), zi_bitN hal (by omega)]
  unfold mX4_isOf mX4_isOf_0 mX4_isOf_21
  rw [zqg_15_2, Option.bind_some, zqk_16, if_pos rfl, e, Option.bind_some]
  by_cases c : (α cl).testBit ty = true
  · rw [if_pos (by rw [eb]; exact c), if_pos (Or.inr rfl), if_pos c]
  · rw [if_neg (by rw [eb]; exact c), if_pos (Or.inl rfl), if_neg c]
theorem zd_length {u : Nat} (hw : w ≤ 400) (hu : u < w / 2) (ha : zha C u + 1 < w) : zHC w b (mX2_length N (b + 16) (Int32.ofNat (u + 1))) C r (fun x => (x, C.1 17 (zha C u + 1))) C r := by
  intro M
  have e18 : C.1 18 (u + 1) = Int32.ofNat (zha C u) := (zN_of _).symm
  unfold mX2_length mX2_length_0
  rw [zqg_16_1, Option.bind_some, zqg_16_2, Option.bind_some, zqa_18 hw (by omega), Option.bind_some, e18, show (Int32.ofNat (zha C u) + 1 : Int32) = Int32.ofNat (zha C u + 1) from zi_add _ 1, zqa_17 hw ha, Option.bind_some]
theorem zDrop_h {u so cl n t t' : Nat} {v : Int32} {f : Nat} (h : zPk w K F ρ D C M u t so cl n) : zha (zI C (f + 100) 2 v) u = zha C u ∧ (zI C (f + 100) 2 v).1 17 (zha C u + 1) = C.1 17 (zha C u + 1) := ⟨zha_c (by rw [zI1, if_neg (by omega)]), by rw [zI1, if_neg (by omega)]⟩
theorem zs_190 (hN : 1700 < N) (hw : w ≤ 400) (hS : S + 1 < 2 ^ 31) (h7 : ∀ k, k < 7 → F k = 0) (hR : zRn w b K F ρ α π r Q D C M S f0 φ) (hO : zOn C M) (hφ : φ f0 = (t, p, m, lt, st)) (hop : uC (Q.2.2.1 m) p = 190) : zStp N w b K F ρ α π r Q C M S := by
  obtain ⟨hc, hm, hK, l', hl, s1, hp, s2, l2, hh, hlen, hfl⟩ := hR.ty hO hφ hop
  have hh : some (s1, l') = some (s2, l2) := hh
  cases hh
  have hp : zpop [3] (zrv st t) = some s1 := hp
  obtain ⟨t, rfl, k0, hp⟩ := zpopc hp
  have hp := zpop0 hp
  subst hp
  have hc' := hc
  have hD := hR.2.1.1
  have hK30 := hR.1.2.2.2.1
  obtain ⟨h1, h2, h3, h4, h5, hfr, _, h8, h9, h10, h11, h12⟩ := hc
  have hd := hfr.drop (t' := t) (by omega)
  have hfr0 := hfr
  obtain ⟨a1, a2, a3, a4, a5, a6, a7, a8, a9⟩ := hfr
  have u0 := (a9 t (by omega)).2.2.2
  rw [k0] at u0
  rw [hop] at h12
  have h12 : p + 1 ≤ uLen (Q.2.2.1 m) := h12
  have e0 : ∀ M0, mX1_opcode N (b + (3 * f0 + 27)) (zc w b C M0 r) = some (zc w b C M0 r, 190) := fun M0 => ze_step0 (N := N) (w := w) hc' hop M0
  have fstep : ∀ C0 r0, mX9_step N (b + 75) (zc w b C0 M r0) = mX9_step_74 N (b + 75) (Int32.ofNat f0) (Int32.ofNat m) (Int32.ofNat p) 190 1 0 0 (zc w b C0 M r0) := fun C0 r0 => zn_step (N := N) (w := w) hc' hop (n := 1) rfl rfl rfl C0 r0
  have g0 : ∀ M0, mX1_reference N (b + (3 * f0 + 27)) 0 (zc w b C M0 r) = some (zc w b C M0 r, C.1 (f0 + 140) (16 + t)) := fun M0 => by
    have := zf_reference (N := N) (w := w) (b := b) (C := C) (r := r) (t := t + 1) (k := 0) h1 a1 a3 (by omega) M0
    rw [show 15 + (t + 1) - 0 = 16 + t by omega] at this
    exact this
  have fp : ∀ C0 r0, mX9_peek N (b + 75) 0 (zc w b C0 M r0) = some (zc w b C0 M r0, M.2 45 (12 * f0 + t)) := fun C0 r0 => zn_peek (N := N) (w := w) (b := b) (M := M) (t := t + 1) (k := 0) h1 h3 a2 a3 (by omega) C0 r0
  have f1 : ∀ C0 r0, mX9_popValue N (b + 75) (zc w b C0 M r0) = some (zc w b C0 (zMD M f0 t) r0, M.2 45 (12 * f0 + t)) := fun C0 r0 => zn_pop (N := N) (w := w) (b := b) (M := M) (t := t) h1 h3 a2 (by omega) C0 r0
  have e3 : ∀ M0, mX1_drop N (b + (3 * f0 + 27)) 1 (zc w b C M0 r) = some (zc w b (zI C (f0 + 100) 2 (Int32.ofNat (16 + t))) M0 r) := fun M0 => zf_drop (N := N) (w := w) (b := b) (r := r) (t := t + 1) (k := 1) h1 a1 a3 (by omega) M0
  have k1 : (zI C (f0 + 100) 2 (Int32.ofNat (16 + t))).2.2 15 5 = .ref (b + (3 * f0 + 27)) := h2
  rcases zRf.cs hD u0.ref with ⟨hz, hv⟩ | ⟨u, tt, hd2, hre, hv, hz, hzm, hti⟩
  · have hzm : lg_cmp (M.2 45 (12 * f0 + t)) 0 = 0 := zw_cmp.mpr hv
    refine zStp_e (e := 2) hN hw hS h7 hR hO (by decide) (fun M0 => ?_) (Or.inl ⟨Int32.ofNat f0, Int32.ofNat p, 1, fun C0 r0 => ?_⟩)
    · simp (decide := true) only [mX4_step_107, mX4_step_249, mX4_step_0, mX4_step, mX4_tellLength_0, mX4_tellLength, e0, zqg_15_5 h2, zqg_15_5 k1, zqkF h1, id, zqk_15, zqk_16, zqg_15_2, g0, e3, Option.map_some, Int32.reduceLT, Int32.reduceLE, Int32.reduceAdd, Int32.reduceSub, Int32.reduceMul, Int32.reduceDiv, Int32.reduceMod, ↓reduceIte, Option.bind_some, hz]
      rfl
    · refine (fstep C0 r0).trans ?_
      simp (decide := true) only [mX9_step_74, mX9_doThing_256, mX9_doThing_141, mX9_doThing_120, mX9_doThing_85, mX9_doThing_52, mX9_doThing_246, mX9_doThing_243, mX9_doThing_219, mX9_doThing_190, mX9_doThing_189, mX9_doThing_158, mX9_doThing_35, mX9_doThing_0, mX9_doThing, mX9_doField_214, mX9_doField_129, mX9_doField_100, mX9_doField_95, mX9_doField_47, mX9_doField_46, mX9_doField_13, mX9_doField_0, mX9_doField, zqk_75, fp, f1, id, Option.map_some, Int32.reduceLT, Int32.reduceLE, Int32.reduceAdd, Int32.reduceSub, Int32.reduceMul, Int32.reduceDiv, Int32.reduceMod, ↓reduceIte, Option.bind_some, hzm]
      show Option.bind _ _ = (mX9_fail N (b + 75) 2 (zc w b C0 M r0)).bind _
      cases mX9_fail N (b + 75) 2 (zc w b C0 M r0) <;> rfl
  · obtain ⟨so, cl, n, hk⟩ := hR.2.1.pk hw hR.1 hd2
    have harr := hk.arr hK30
    obtain ⟨q1, q2, q3, q4, q5, q6, q7, q8, q9, q10, q11, q12, q13, q14, q15, q16, q17, q18⟩ := hk
    have ei : ∀ M0, mX2_isArray N (b + 16) (C.1 (f0 + 140) (16 + t)) (zc w b C M0 r) = some (zc w b C M0 r, if so = 0 then 0 else 1) := fun M0 => by
      rw [hre]
      have := zd_isArray (N := N) (w := w) (b := b) (C := C) (r := r) hw q1 q16 M0
      simp only [harr] at this
      exact this
    have es : ∀ C0 r0, zm_aI (zc w b C0 M r0) (b + 99) (Int32.ofNat tt) = some (Int32.ofNat so) := fun C0 r0 => by rw [zqa_99 q2, q3]
    by_cases c0 : so = 0
    · have es0 : Int32.ofNat so ≤ 0 := by rw [c0]; decide
      refine zStp_e (e := 5) hN hw hS h7 hR hO (by decide) (fun M0 => ?_) (Or.inl ⟨Int32.ofNat f0, Int32.ofNat p, 1, fun C0 r0 => ?_⟩)
      · simp (decide := true) only [mX4_step_107, mX4_step_249, mX4_step_0, mX4_step, mX4_tellLength_0, mX4_tellLength, e0, zqg_15_5 h2, zqg_15_5 k1, zqkF h1, id, zqk_15, zqk_16, zqg_15_2, g0, e3, Option.map_some, Int32.reduceLT, Int32.reduceLE, Int32.reduceAdd, Int32.reduceSub, Int32.reduceMul, Int32.reduceDiv, Int32.reduceMod, ↓reduceIte, Option.bind_some, hz, ei, c0]
        rfl
      · refine (fstep C0 r0).trans ?_
        simp (decide := true) only [mX9_step_74, mX9_doThing_256, mX9_doThing_141, mX9_doThing_120, mX9_doThing_85, mX9_doThing_52, mX9_doThing_246, mX9_doThing_243, mX9_doThing_219, mX9_doThing_190, mX9_doThing_189, mX9_doThing_158, mX9_doThing_35, mX9_doThing_0, mX9_doThing, mX9_doField_214, mX9_doField_129, mX9_doField_100, mX9_doField_95, mX9_doField_47, mX9_doField_46, mX9_doField_13, mX9_doField_0, mX9_doField, zqk_75, fp, f1, id, Option.map_some, Int32.reduceLT, Int32.reduceLE, Int32.reduceAdd, Int32.reduceSub, Int32.reduceMul, Int32.reduceDiv, Int32.reduceMod, ↓reduceIte, Option.bind_some, hzm, hti, zqg_75_32, es, es0]
        show Option.bind _ _ = (mX9_fail N (b + 75) 5 (zc w b C0 M r0)).bind _
        cases mX9_fail N (b + 75) 5 (zc w b C0 M r0) <;> rfl
    · have es0 : ¬ Int32.ofNat so ≤ 0 := by rw [show (0 : Int32) = Int32.ofNat 0 from rfl, zi_le (by omega) (by omega)]; omega
      have hlen0 : C.1 17 (zha C u + 1) = Int32.ofNat n := by rw [q13]; unfold zLen; rw [if_neg c0]
      obtain ⟨l3, h3', h4'⟩ := (hfl lt hl).2 (by unfold zgoes; decide)
      have hp := (hd.pushN (by omega) (zSl.mk1 (Int32.ofNat n)) (Or.inl rfl)).go (p + 1)
      refine zStp_q hR hO hφ (t' := t + 1) (p' := p + 1) (lt' := lt) (st' := zset st t 1) ⟨_, _, fun M0 => ?_, fun C0 r0 => ?_, hp, zTop.rf.i2.pn.i2, (zTopM.rf.d.p (by omega)).go⟩ ⟨l3, by rw [zrv_push]; exact h3', h4'⟩
      · have el : mX2_length N (b + 16) (C.1 (f0 + 140) (16 + t)) (zc w b (zI C (f0 + 100) 2 (Int32.ofNat (16 + t))) M0 r) = some (zc w b (zI C (f0 + 100) 2 (Int32.ofNat (16 + t))) M0 r, Int32.ofNat n) := by
          have ea : zha (zI C (f0 + 100) 2 (Int32.ofNat (16 + t))) u = zha C u := zha_c (by rw [zI1, if_neg (by omega)])
          have := zd_length (N := N) (w := w) (b := b) (C := zI C (f0 + 100) 2 (Int32.ofNat (16 + t))) (r := r) hw q1 (by rw [ea]; exact q17) M0
          rw [ea, zI1, if_neg (by omega), hlen0] at this
          rw [hre]
          exact this
        have e4 : ∀ v, mX1_pushNumber N (b + (3 * f0 + 27)) v (zc w b (zI C (f0 + 100) 2 (Int32.ofNat (16 + t))) M0 r) = some (zc w b (zPN (zI C (f0 + 100) 2 (Int32.ofNat (16 + t))) f0 t v) M0 r) := fun v => zf_pushNumber (t := t) h1 zp2_I2 (by omega) v M0
        have e5 : ∀ v, mX4_goOn N (b + 15) 1 (zc w b (zPN (zI C (f0 + 100) 2 (Int32.ofNat (16 + t))) f0 t v) M0 r) = some (zc w b (zI (zPN (zI C (f0 + 100) 2 (Int32.ofNat (16 + t))) f0 t v) (f0 + 100) 4 (Int32.ofNat (p + 1))) M0 r, 0) := fun v => zf_goOn (C := zPN (zI C (f0 + 100) 2 (Int32.ofNat (16 + t))) f0 t v) (n := 1) (p := p) h1 h2 (zp4_PN.trans (zp4_I2.trans a4)) M0
        simp (decide := true) only [mX4_step_107, mX4_step_249, mX4_step_0, mX4_step, mX4_tellLength_0, mX4_tellLength, e0, zqg_15_5 h2, zqg_15_5 k1, zqkF h1, id, zqk_15, zqk_16, zqg_15_2, g0, e3, Option.map_some, Int32.reduceLT, Int32.reduceLE, Int32.reduceAdd, Int32.reduceSub, Int32.reduceMul, Int32.reduceDiv, Int32.reduceMod, ↓reduceIte, Option.bind_some, hz, ei, c0, el, e4, e5]
      · have ez : zm_aI (zc w b C0 (zMD M f0 t) r0) (b + 100) (Int32.ofNat tt) = some (Int32.ofNat n) := by rw [zqa_100 q2]; unfold zMD; rw [zJ1, if_neg (by omega), q5]
        have f8 : ∀ v, mX9_pushValue N (b + 75) 1 v (zc w b C0 (zMD M f0 t) r0) = some (zc w b C0 (zMP (zMD M f0 t) f0 t 1 v) r0) := fun v => zn_push (N := N) (w := w) (b := b) (M := zMD M f0 t) (t := t) h1 h3 zmd42 (by omega) 1 v C0 r0
        have f9 : ∀ v, mX9_step_327 N (b + 75) (Int32.ofNat f0) (Int32.ofNat p) 1 (zc w b C0 (zMP (zMD M f0 t) f0 t 1 v) r0) = some (zc w b C0 (zJ (zMP (zMD M f0 t) f0 t 1 v) 41 f0 (Int32.ofNat (p + 1))) r0) := fun v => zn_on (N := N) (w := w) (b := b) (M := zMP (zMD M f0 t) f0 t 1 v) (p := p) (n := 1) h1 (zmp100.trans (zmd100.trans h4)) (zmp100.trans (zmd100.trans h5)) C0 r0
        refine (fstep C0 r0).trans ?_
        simp (decide := true) only [mX9_step_74, mX9_doThing_256, mX9_doThing_141, mX9_doThing_120, mX9_doThing_85, mX9_doThing_52, mX9_doThing_246, mX9_doThing_243, mX9_doThing_219, mX9_doThing_190, mX9_doThing_189, mX9_doThing_158, mX9_doThing_35, mX9_doThing_0, mX9_doThing, mX9_doField_214, mX9_doField_129, mX9_doField_100, mX9_doField_95, mX9_doField_47, mX9_doField_46, mX9_doField_13, mX9_doField_0, mX9_doField, zqk_75, fp, f1, id, Option.map_some, Int32.reduceLT, Int32.reduceLE, Int32.reduceAdd, Int32.reduceSub, Int32.reduceMul, Int32.reduceDiv, Int32.reduceMod, ↓reduceIte, Option.bind_some, hzm, hti, zqg_75_32, es, es0, zqg_75_33, ez, f8, f9]
        rfl

theorem zs_192 (hN : 1700 < N) (hw : w ≤ 400) (hS : S + 1 < 2 ^ 31) (h7 : ∀ k, k < 7 → F k = 0) (hR : zRn w b K F ρ α π r Q D C M S f0 φ) (hO : zOn C M) (hφ : φ f0 = (t, p, m, lt, st)) (hop : uC (Q.2.2.1 m) p = 192) : zStp N w b K F ρ α π r Q C M S := by
  obtain ⟨hc, hm, hK, l', hl, s1, hp, s2, l2, hh, hlen, hfl⟩ := hR.ty hO hφ hop
  have hh : (if (uC (Q.2.2.1 m) (p + 1)) < K then some (s1, l') else none) = some (s2, l2) := hh
  obtain ⟨hty, hh⟩ := zg hh
  cases hh
  have hp : zpop [3] (zrv st t) = some s1 := hp
  obtain ⟨t, rfl, k0, hp⟩ := zpopc hp
  have hp := zpop0 hp
  subst hp
  have hc' := hc
  have hD := hR.2.1.1
  have hK30 := hR.1.2.2.2.1
  obtain ⟨h1, h2, h3, h4, h5, hfr, _, h8, h9, h10, h11, h12⟩ := hc
  have hd := hfr.drop (t' := t) (by omega)
  have hfr0 := hfr
  obtain ⟨a1, a2, a3, a4, a5, a6, a7, a8, a9⟩ := hfr
  have u0 := (a9 t (by omega)).2.2.2
  rw [k0] at u0
  rw [hop] at h12
  have h12 : p + 2 ≤ uLen (Q.2.2.1 m) := h12
  have e0 : ∀ M0, mX1_opcode N (b + (3 * f0 + 27)) (zc w b C M0 r) = some (zc w b C M0 r, 192) := fun M0 => ze_step0 (N := N) (w := w) hc' hop M0
  have fstep : ∀ C0 r0, mX9_step N (b + 75) (zc w b C0 M r0) = mX9_step_74 N (b + 75) (Int32.ofNat f0) (Int32.ofNat m) (Int32.ofNat p) 192 2 (Int32.ofNat (uC (Q.2.2.1 m) (p + 1))) 0 (zc w b C0 M r0) := fun C0 r0 => zn_step (N := N) (w := w) hc' hop (n := 2) rfl rfl rfl C0 r0
  have g0 : ∀ M0, mX1_reference N (b + (3 * f0 + 27)) 0 (zc w b C M0 r) = some (zc w b C M0 r, C.1 (f0 + 140) (16 + t)) := fun M0 => by
    have := zf_reference (N := N) (w := w) (b := b) (C := C) (r := r) (t := t + 1) (k := 0) h1 a1 a3 (by omega) M0
    rw [show 15 + (t + 1) - 0 = 16 + t by omega] at this
    exact this
  have fp : ∀ C0 r0, mX9_peek N (b + 75) 0 (zc w b C0 M r0) = some (zc w b C0 M r0, M.2 45 (12 * f0 + t)) := fun C0 r0 => zn_peek (N := N) (w := w) (b := b) (M := M) (t := t + 1) (k := 0) h1 h3 a2 a3 (by omega) C0 r0
  have f1 : ∀ C0 r0, mX9_popValue N (b + 75) (zc w b C0 M r0) = some (zc w b C0 (zMD M f0 t) r0, M.2 45 (12 * f0 + t)) := fun C0 r0 => zn_pop (N := N) (w := w) (b := b) (M := M) (t := t) h1 h3 a2 (by omega) C0 r0
  have e3 : ∀ M0, mX1_drop N (b + (3 * f0 + 27)) 1 (zc w b C M0 r) = some (zc w b (zI C (f0 + 100) 2 (Int32.ofNat (16 + t))) M0 r) := fun M0 => zf_drop (N := N) (w := w) (b := b) (r := r) (t := t + 1) (k := 1) h1 a1 a3 (by omega) M0
  have k1 : (zI C (f0 + 100) 2 (Int32.ofNat (16 + t))).2.2 15 5 = .ref (b + (3 * f0 + 27)) := h2
  have opd : ∀ M0, mX1_operand N (b + (3 * f0 + 27)) 1 (zc w b C M0 r) = some (zc w b C M0 r, Int32.ofNat (uC (Q.2.2.1 m) (p + 1))) := fun M0 => ze_operand (N := N) (w := w) (b := b) (C := C) (r := r) (k := 1) h1 h8 h10 a6 a4 (by omega) M0
  obtain ⟨l3, h3', h4'⟩ := (hfl lt hl).2 (by unfold zgoes; decide)
  have e5 : ∀ M0, mX4_goOn N (b + 15) 2 (zc w b C M0 r) = some (zc w b (zI C (f0 + 100) 4 (Int32.ofNat (p + 2))) M0 r, 0) := fun M0 => zf_goOn (C := C) (n := 2) (p := p) h1 h2 a4 M0
  have f9 : ∀ C0 r0, mX9_step_327 N (b + 75) (Int32.ofNat f0) (Int32.ofNat p) 2 (zc w b C0 M r0) = some (zc w b C0 (zJ M 41 f0 (Int32.ofNat (p + 2))) r0) := fun C0 r0 => zn_on (N := N) (w := w) (b := b) (M := M) (p := p) (n := 2) h1 h4 h5 C0 r0
  have hst : zrv st (t + 1) = 3 :: zrv st t := by show st t :: zrv st t = _; rw [k0]
  rcases zRf.cs hD u0.ref with ⟨hz, hv⟩ | ⟨u, tt, hd2, hre, hv, hz, hzm, hti⟩
  · have hzm : lg_cmp (M.2 45 (12 * f0 + t)) 0 = 0 := zw_cmp.mpr hv
    refine zStp_q hR hO hφ (t' := t + 1) (p' := p + 2) (lt' := lt) (st' := st) ⟨_, _, fun M0 => ?_, fun C0 r0 => ?_, hfr0.go (p + 2), zTop.rf.i2, zTopM.rf.go⟩ ⟨l3, by rw [hst]; exact h3', h4'⟩
    · simp (decide := true) only [mX4_step_107, mX4_step_249, mX4_step_0, mX4_step, mX4_cast_38, mX4_cast_29, mX4_cast_0, mX4_cast, e0, zqg_15_5 h2, zqg_15_5 k1, zqkF h1, id, zqk_15, zqk_16, zqg_15_2, g0, e3, Option.map_some, Int32.reduceLT, Int32.reduceLE, Int32.reduceAdd, Int32.reduceSub, Int32.reduceMul, Int32.reduceDiv, Int32.reduceMod, ↓reduceIte, Option.bind_some, hz, e5]
    · refine (fstep C0 r0).trans ?_
      simp (decide := true) only [mX9_step_74, mX9_doThing_256, mX9_doThing_141, mX9_doThing_120, mX9_doThing_85, mX9_doThing_52, mX9_doThing_246, mX9_doThing_243, mX9_doThing_219, mX9_doThing_190, mX9_doThing_189, mX9_doThing_158, mX9_doThing_35, mX9_doThing_0, mX9_doThing, zqk_75, fp, f1, id, Option.map_some, Int32.reduceLT, Int32.reduceLE, Int32.reduceAdd, Int32.reduceSub, Int32.reduceMul, Int32.reduceDiv, Int32.reduceMod, ↓reduceIte, Option.bind_some, hzm, f9]
  · obtain ⟨so, cl, n, hk⟩ := hR.2.1.pk hw hR.1 hd2
    have ec := fun M0 => zd_isOf (N := N) (w := w) (b := b) (r := r) hw hR.1 hk hty M0
    rw [← hre] at ec
    have em := fun C0 r0 => zn_isOf (N := N) (w := w) (b := b) (t := tt) (by omega) hR.1 hty hk.2.1 hk.2.2.2.1 hk.2.2.2.2.2.2.1 C0 r0
    by_cases cb : (α cl).testBit (uC (Q.2.2.1 m) (p + 1)) = true
    · simp only [if_pos cb] at ec em
      refine zStp_q hR hO hφ (t' := t + 1) (p' := p + 2) (lt' := lt) (st' := st) ⟨_, _, fun M0 => ?_, fun C0 r0 => ?_, hfr0.go (p + 2), zTop.rf.i2, zTopM.rf.go⟩ ⟨l3, by rw [hst]; exact h3', h4'⟩
      · simp (decide := true) only [mX4_step_107, mX4_step_249, mX4_step_0, mX4_step, mX4_cast_38, mX4_cast_29, mX4_cast_0, mX4_cast, e0, zqg_15_5 h2, zqg_15_5 k1, zqkF h1, id, zqk_15, zqk_16, zqg_15_2, g0, e3, Option.map_some, Int32.reduceLT, Int32.reduceLE, Int32.reduceAdd, Int32.reduceSub, Int32.reduceMul, Int32.reduceDiv, Int32.reduceMod, ↓reduceIte, Option.bind_some, hz, opd, ec M0, e5]
      · refine (fstep C0 r0).trans ?_
        simp (decide := true) only [mX9_step_74, mX9_doThing_256, mX9_doThing_141, mX9_doThing_120, mX9_doThing_85, mX9_doThing_52, mX9_doThing_246, mX9_doThing_243, mX9_doThing_219, mX9_doThing_190, mX9_doThing_189, mX9_doThing_158, mX9_doThing_35, mX9_doThing_0, mX9_doThing, zqk_75, fp, f1, id, Option.map_some, Int32.reduceLT, Int32.reduceLE, Int32.reduceAdd, Int32.reduceSub, Int32.reduceMul, Int32.reduceDiv, Int32.reduceMod, ↓reduceIte, Option.bind_some, hzm, hti, em C0 r0, f9]
    · simp only [if_neg cb] at ec em
      refine zStp_e (e := 5) hN hw hS h7 hR hO (by decide) (fun M0 => ?_) (Or.inl ⟨Int32.ofNat f0, Int32.ofNat p, 2, fun C0 r0 => ?_⟩)
      · simp (decide := true) only [mX4_step_107, mX4_step_249, mX4_step_0, mX4_step, mX4_cast_38, mX4_cast_29, mX4_cast_0, mX4_cast, e0, zqg_15_5 h2, zqg_15_5 k1, zqkF h1, id, zqk_15, zqk_16, zqg_15_2, g0, e3, Option.map_some, Int32.reduceLT, Int32.reduceLE, Int32.reduceAdd, Int32.reduceSub, Int32.reduceMul, Int32.reduceDiv, Int32.reduceMod, ↓reduceIte, Option.bind_some, hz, opd, ec M0]
        rfl
      · refine (fstep C0 r0).trans ?_
        simp (decide := true) only [mX9_step_74, mX9_doThing_256, mX9_doThing_141, mX9_doThing_120, mX9_doThing_85, mX9_doThing_52, mX9_doThing_246, mX9_doThing_243, mX9_doThing_219, mX9_doThing_190, mX9_doThing_189, mX9_doThing_158, mX9_doThing_35, mX9_doThing_0, mX9_doThing, zqk_75, fp, f1, id, Option.map_some, Int32.reduceLT, Int32.reduceLE, Int32.reduceAdd, Int32.reduceSub, Int32.reduceMul, Int32.reduceDiv, Int32.reduceMod, ↓reduceIte, Option.bind_some, hzm, hti, em C0 r0]
        show Option.bind _ _ = (mX9_fail N (b + 75) 5 (zc w b C0 M r0)).bind _
        cases mX9_fail N (b + 75) 5 (zc w b C0 M r0) <;> rfl

theorem zs_193 (hN : 1700 < N) (hw : w ≤ 400) (hS : S + 1 < 2 ^ 31) (h7 : ∀ k, k < 7 → F k = 0) (hR : zRn w b K F ρ α π r Q D C M S f0 φ) (hO : zOn C M) (hφ : φ f0 = (t, p, m, lt, st)) (hop : uC (Q.2.2.1 m) p = 193) : zStp N w b K F ρ α π r Q C M S := by
  obtain ⟨hc, hm, hK, l', hl, s1, hp, s2, l2, hh, hlen, hfl⟩ := hR.ty hO hφ hop
  have hh : (if (uC (Q.2.2.1 m) (p + 1)) < K then some (s1, l') else none) = some (s2, l2) := hh
  obtain ⟨hty, hh⟩ := zg hh
  cases hh
  have hp : zpop [3] (zrv st t) = some s1 := hp
  obtain ⟨t, rfl, k0, hp⟩ := zpopc hp
  have hp := zpop0 hp
  subst hp
  have hc' := hc
  have hD := hR.2.1.1
  have hK30 := hR.1.2.2.2.1
  obtain ⟨h1, h2, h3, h4, h5, hfr, _, h8, h9, h10, h11, h12⟩ := hc
  have hd := hfr.drop (t' := t) (by omega)
  have hfr0 := hfr
  obtain ⟨a1, a2, a3, a4, a5, a6, a7, a8, a9⟩ := hfr
  have u0 := (a9 t (by omega)).2.2.2
  rw [k0] at u0
  rw [hop] at h12
  have h12 : p + 2 ≤ uLen (Q.2.2.1 m) := h12
  have e0 : ∀ M0, mX1_opcode N (b + (3 * f0 + 27)) (zc w b C M0 r) = some (zc w b C M0 r, 193) := fun M0 => ze_step0 (N := N) (w := w) hc' hop M0
  have fstep : ∀ C0 r0, mX9_step N (b + 75) (zc w b C0 M r0) = mX9_step_74 N (b + 75) (Int32.ofNat f0) (Int32.ofNat m) (Int32.ofNat p) 193 2 (Int32.ofNat (uC (Q.2.2.1 m) (p + 1))) 0 (zc w b C0 M r0) := fun C0 r0 => zn_step (N := N) (w := w) hc' hop (n := 2) rfl rfl rfl C0 r0
  have g0 : ∀ M0, mX1_reference N (b + (3 * f0 + 27)) 0 (zc w b C M0 r) = some (zc w b C M0 r, C.1 (f0 + 140) (16 + t)) := fun M0 => by
    have := zf_reference (N := N) (w := w) (b := b) (C := C) (r := r) (t := t + 1) (k := 0) h1 a1 a3 (by omega) M0
    rw [show 15 + (t + 1) - 0 = 16 + t by omega] at this
    exact this
  have fp : ∀ C0 r0, mX9_peek N (b + 75) 0 (zc w b C0 M r0) = some (zc w b C0 M r0, M.2 45 (12 * f0 + t)) := fun C0 r0 => zn_peek (N := N) (w := w) (b := b) (M := M) (t := t + 1) (k := 0) h1 h3 a2 a3 (by omega) C0 r0
  have f1 : ∀ C0 r0, mX9_popValue N (b + 75) (zc w b C0 M r0) = some (zc w b C0 (zMD M f0 t) r0, M.2 45 (12 * f0 + t)) := fun C0 r0 => zn_pop (N := N) (w := w) (b := b) (M := M) (t := t) h1 h3 a2 (by omega) C0 r0
  have e3 : ∀ M0, mX1_drop N (b + (3 * f0 + 27)) 1 (zc w b C M0 r) = some (zc w b (zI C (f0 + 100) 2 (Int32.ofNat (16 + t))) M0 r) := fun M0 => zf_drop (N := N) (w := w) (b := b) (r := r) (t := t + 1) (k := 1) h1 a1 a3 (by omega) M0
  have k1 : (zI C (f0 + 100) 2 (Int32.ofNat (16 + t))).2.2 15 5 = .ref (b + (3 * f0 + 27)) := h2
  have opd : ∀ M0, mX1_operand N (b + (3 * f0 + 27)) 1 (zc w b C M0 r) = some (zc w b C M0 r, Int32.ofNat (uC (Q.2.2.1 m) (p + 1))) := fun M0 => ze_operand (N := N) (w := w) (b := b) (C := C) (r := r) (k := 1) h1 h8 h10 a6 a4 (by omega) M0
  obtain ⟨l3, h3', h4'⟩ := (hfl lt hl).2 (by unfold zgoes; decide)
  have done : ∀ bb : Bool, (∀ M0, ∀ e4 : (∀ v, mX1_pushNumber N (b + (3 * f0 + 27)) v (zc w b (zI C (f0 + 100) 2 (Int32.ofNat (16 + t))) M0 r) = some (zc w b (zPN (zI C (f0 + 100) 2 (Int32.ofNat (16 + t))) f0 t v) M0 r)), ∀ e5 : (∀ v, mX4_goOn N (b + 15) 2 (zc w b (zPN (zI C (f0 + 100) 2 (Int32.ofNat (16 + t))) f0 t v) M0 r) = some (zc w b (zI (zPN (zI C (f0 + 100) 2 (Int32.ofNat (16 + t))) f0 t v) (f0 + 100) 4 (Int32.ofNat (p + 2))) M0 r, 0)), mX4_step N (b + 15) (zc w b C M0 r) = some (zc w b (zI (zPN (zI C (f0 + 100) 2 (Int32.ofNat (16 + t))) f0 t (if bb = true then (1 : Int32) else 0).toInt64) (f0 + 100) 4 (Int32.ofNat (p + 2))) M0 r, 0)) →
      (∀ C0 r0, ∀ f8 : (∀ v, mX9_pushValue N (b + 75) 1 v (zc w b C0 (zMD M f0 t) r0) = some (zc w b C0 (zMP (zMD M f0 t) f0 t 1 v) r0)), ∀ f9 : (∀ v, mX9_step_327 N (b + 75) (Int32.ofNat f0) (Int32.ofNat p) 2 (zc w b C0 (zMP (zMD M f0 t) f0 t 1 v) r0) = some (zc w b C0 (zJ (zMP (zMD M f0 t) f0 t 1 v) 41 f0 (Int32.ofNat (p + 2))) r0)), mX9_step N (b + 75) (zc w b C0 M r0) = some (zc w b C0 (zJ (zMP (zMD M f0 t) f0 t 1 (if bb = true then (1 : Int32) else 0).toInt64) 41 f0 (Int32.ofNat (p + 2))) r0)) → zStp N w b K F ρ α π r Q C M S := by
    intro bb H1 H2
    have hp := (hd.pushN (by omega) (zSl.mk1 (if bb = true then (1 : Int32) else 0)) (Or.inl rfl)).go (p + 2)
    refine zStp_q hR hO hφ (t' := t + 1) (p' := p + 2) (lt' := lt) (st' := zset st t 1) ⟨_, _, fun M0 => ?_, fun C0 r0 => ?_, hp, zTop.rf.i2.pn.i2, (zTopM.rf.d.p (by omega)).go⟩ ⟨l3, by rw [zrv_push]; exact h3', h4'⟩
    · exact H1 M0 (fun v => zf_pushNumber (t := t) h1 zp2_I2 (by omega) v M0) (fun v => zf_goOn (C := zPN (zI C (f0 + 100) 2 (Int32.ofNat (16 + t))) f0 t v) (n := 2) (p := p) h1 h2 (zp4_PN.trans (zp4_I2.trans a4)) M0)
    · exact H2 C0 r0 (fun v => zn_push (N := N) (w := w) (b := b) (M := zMD M f0 t) (t := t) h1 h3 zmd42 (by omega) 1 v C0 r0) (fun v => zn_on (N := N) (w := w) (b := b) (M := zMP (zMD M f0 t) f0 t 1 v) (p := p) (n := 2) h1 (zmp100.trans (zmd100.trans h4)) (zmp100.trans (zmd100.trans h5)) C0 r0)
  rcases zRf.cs hD u0.ref with ⟨hz, hv⟩ | ⟨u, tt, hd2, hre, hv, hz, hzm, hti⟩
  · have hzm : lg_cmp (M.2 45 (12 * f0 + t)) 0 = 0 := zw_cmp.mpr hv
    refine done false (fun M0 e4 e5 => ?_) (fun C0 r0 f8 f9 => ?_)
    · simp (decide := true) only [mX4_step_107, mX4_step_249, mX4_step_0, mX4_step, mX4_tellWhetherOf_56, mX4_tellWhetherOf_34, mX4_tellWhetherOf_33, mX4_tellWhetherOf_0, mX4_tellWhetherOf, e0, zqg_15_5 h2, zqg_15_5 k1, zqkF h1, id, zqk_15, zqk_16, zqg_15_2, g0, e3, Option.map_some, Int32.reduceLT, Int32.reduceLE, Int32.reduceAdd, Int32.reduceSub, Int32.reduceMul, Int32.reduceDiv, Int32.reduceMod, ↓reduceIte, Option.bind_some, hz, e4, e5]
      rfl
    · refine (fstep C0 r0).trans ?_
      simp (decide := true) only [mX9_step_74, mX9_doThing_256, mX9_doThing_141, mX9_doThing_120, mX9_doThing_85, mX9_doThing_52, mX9_doThing_246, mX9_doThing_243, mX9_doThing_219, mX9_doThing_190, mX9_doThing_189, mX9_doThing_158, mX9_doThing_35, mX9_doThing_0, mX9_doThing, zqk_75, fp, f1, id, Option.map_some, Int32.reduceLT, Int32.reduceLE, Int32.reduceAdd, Int32.reduceSub, Int32.reduceMul, Int32.reduceDiv, Int32.reduceMod, ↓reduceIte, Option.bind_some, hzm, f8, f9]
      rfl
  · obtain ⟨so, cl, n, hk⟩ := hR.2.1.pk hw hR.1 hd2
    have ec := fun M0 => zd_isOf (N := N) (w := w) (b := b) (r := r) hw hR.1 hk hty M0
    rw [← hre] at ec
    have em := fun C0 r0 => zn_isOf (N := N) (w := w) (b := b) (t := tt) (by omega) hR.1 hty hk.2.1 hk.2.2.2.1 hk.2.2.2.2.2.2.1 C0 r0
    by_cases cb : (α cl).testBit (uC (Q.2.2.1 m) (p + 1)) = true
    · simp only [if_pos cb] at ec em
      refine done true (fun M0 e4 e5 => ?_) (fun C0 r0 f8 f9 => ?_)
      · simp (decide := true) only [mX4_step_107, mX4_step_249, mX4_step_0, mX4_step, mX4_tellWhetherOf_56, mX4_tellWhetherOf_34, mX4_tellWhetherOf_33, mX4_tellWhetherOf_0, mX4_tellWhetherOf, e0, zqg_15_5 h2, zqg_15_5 k1, zqkF h1, id, zqk_15, zqk_16, zqg_15_2, g0, e3, Option.map_some, Int32.reduceLT, Int32.reduceLE, Int32.reduceAdd, Int32.reduceSub, Int32.reduceMul, Int32.reduceDiv, Int32.reduceMod, ↓reduceIte, Option.bind_some, hz, opd, ec M0, e4, e5]
        rfl
      · refine (fstep C0 r0).trans ?_
        simp (decide := true) only [mX9_step_74, mX9_doThing_256, mX9_doThing_141, mX9_doThing_120, mX9_doThing_85, mX9_doThing_52, mX9_doThing_246, mX9_doThing_243, mX9_doThing_219, mX9_doThing_190, mX9_doThing_189, mX9_doThing_158, mX9_doThing_35, mX9_doThing_0, mX9_doThing, zqk_75, fp, f1, id, Option.map_some, Int32.reduceLT, Int32.reduceLE, Int32.reduceAdd, Int32.reduceSub, Int32.reduceMul, Int32.reduceDiv, Int32.reduceMod, ↓reduceIte, Option.bind_some, hzm, hti, em C0 r0, f8, f9]
        rfl
    · simp only [if_neg cb] at ec em
      refine done false (fun M0 e4 e5 => ?_) (fun C0 r0 f8 f9 => ?_)
      · simp (decide := true) only [mX4_step_107, mX4_step_249, mX4_step_0, mX4_step, mX4_tellWhetherOf_56, mX4_tellWhetherOf_34, mX4_tellWhetherOf_33, mX4_tellWhetherOf_0, mX4_tellWhetherOf, e0, zqg_15_5 h2, zqg_15_5 k1, zqkF h1, id, zqk_15, zqk_16, zqg_15_2, g0, e3, Option.map_some, Int32.reduceLT, Int32.reduceLE, Int32.reduceAdd, Int32.reduceSub, Int32.reduceMul, Int32.reduceDiv, Int32.reduceMod, ↓reduceIte, Option.bind_some, hz, opd, ec M0, e4, e5]
        rfl
      · refine (fstep C0 r0).trans ?_
        simp (decide := true) only [mX9_step_74, mX9_doThing_256, mX9_doThing_141, mX9_doThing_120, mX9_doThing_85, mX9_doThing_52, mX9_doThing_246, mX9_doThing_243, mX9_doThing_219, mX9_doThing_190, mX9_doThing_189, mX9_doThing_158, mX9_doThing_35, mX9_doThing_0, mX9_doThing, zqk_75, fp, f1, id, Option.map_some, Int32.reduceLT, Int32.reduceLE, Int32.reduceAdd, Int32.reduceSub, Int32.reduceMul, Int32.reduceDiv, Int32.reduceMod, ↓reduceIte, Option.bind_some, hzm, hti, em C0 r0, f8, f9]
        rfl

theorem zs_191 (hN : 1700 < N) (hw : w ≤ 400) (hS : S + 1 < 2 ^ 31) (h7 : ∀ k, k < 7 → F k = 0) (hR : zRn w b K F ρ α π r Q D C M S f0 φ) (hO : zOn C M) (hφ : φ f0 = (t, p, m, lt, st)) (hop : uC (Q.2.2.1 m) p = 191) : zStp N w b K F ρ α π r Q C M S := by
  obtain ⟨hc, hm, hK, l', hl, s1, hp, s2, l2, hh, hlen, hfl⟩ := hR.ty hO hφ hop
  have hh : some (s1, l') = some (s2, l2) := hh
  cases hh
  have hp : zpop [3] (zrv st t) = some s1 := hp
  obtain ⟨t, rfl, k0, hp⟩ := zpopc hp
  have hp := zpop0 hp
  subst hp
  have hc' := hc
  have hD := hR.2.1.1
  have hK30 := hR.1.2.2.2.1
  obtain ⟨h1, h2, h3, h4, h5, hfr, _, h8, h9, h10, h11, h12⟩ := hc
  have hd := hfr.drop (t' := t) (by omega)
  have hfr0 := hfr
  obtain ⟨a1, a2, a3, a4, a5, a6, a7, a8, a9⟩ := hfr
  have u0 := (a9 t (by omega)).2.2.2
  rw [k0] at u0
  rw [hop] at h12
  have h12 : p + 1 ≤ uLen (Q.2.2.1 m) := h12
  have e0 : ∀ M0, mX1_opcode N (b + (3 * f0 + 27)) (zc w b C M0 r) = some (zc w b C M0 r, 191) := fun M0 => ze_step0 (N := N) (w := w) hc' hop M0
  have fstep : ∀ C0 r0, mX9_step N (b + 75) (zc w b C0 M r0) = mX9_step_74 N (b + 75) (Int32.ofNat f0) (Int32.ofNat m) (Int32.ofNat p) 191 1 0 0 (zc w b C0 M r0) := fun C0 r0 => zn_step (N := N) (w := w) hc' hop (n := 1) rfl rfl rfl C0 r0
  have g0 : ∀ M0, mX1_reference N (b + (3 * f0 + 27)) 0 (zc w b C M0 r) = some (zc w b C M0 r, C.1 (f0 + 140) (16 + t)) := fun M0 => by
    have := zf_reference (N := N) (w := w) (b := b) (C := C) (r := r) (t := t + 1) (k := 0) h1 a1 a3 (by omega) M0
    rw [show 15 + (t + 1) - 0 = 16 + t by omega] at this
    exact this
  have fp : ∀ C0 r0, mX9_peek N (b + 75) 0 (zc w b C0 M r0) = some (zc w b C0 M r0, M.2 45 (12 * f0 + t)) := fun C0 r0 => zn_peek (N := N) (w := w) (b := b) (M := M) (t := t + 1) (k := 0) h1 h3 a2 a3 (by omega) C0 r0
  have f1 : ∀ C0 r0, mX9_popValue N (b + 75) (zc w b C0 M r0) = some (zc w b C0 (zMD M f0 t) r0, M.2 45 (12 * f0 + t)) := fun C0 r0 => zn_pop (N := N) (w := w) (b := b) (M := M) (t := t) h1 h3 a2 (by omega) C0 r0
  have e3 : ∀ M0, mX1_drop N (b + (3 * f0 + 27)) 1 (zc w b C M0 r) = some (zc w b (zI C (f0 + 100) 2 (Int32.ofNat (16 + t))) M0 r) := fun M0 => zf_drop (N := N) (w := w) (b := b) (r := r) (t := t + 1) (k := 1) h1 a1 a3 (by omega) M0
  have k1 : (zI C (f0 + 100) 2 (Int32.ofNat (16 + t))).2.2 15 5 = .ref (b + (3 * f0 + 27)) := h2
  rcases zRf.cs hD u0.ref with ⟨hz, hv⟩ | ⟨u, tt, hd2, hre, hv, hz, hzm, hti⟩
  · have hzm : lg_cmp (M.2 45 (12 * f0 + t)) 0 = 0 := zw_cmp.mpr hv
    refine zStp_e (e := 2) hN hw hS h7 hR hO (by decide) (fun M0 => ?_) (Or.inr fun C0 r0 => ?_)
    · simp (decide := true) only [mX4_step_107, mX4_step_249, mX4_step_0, mX4_step, mX4_throwTop_0, mX4_throwTop, e0, zqg_15_5 h2, zqg_15_5 k1, zqkF h1, id, zqk_15, zqk_16, zqg_15_2, g0, e3, Option.map_some, Int32.reduceLT, Int32.reduceLE, Int32.reduceAdd, Int32.reduceSub, Int32.reduceMul, Int32.reduceDiv, Int32.reduceMod, ↓reduceIte, Option.bind_some, hz]
      rfl
    · refine (fstep C0 r0).trans ?_
      simp (decide := true) only [mX9_step_74, mX9_doThrow_48, mX9_doThrow_0, mX9_doThrow, zqk_75, fp, f1, id, Option.map_some, Int32.reduceLT, Int32.reduceLE, Int32.reduceAdd, Int32.reduceSub, Int32.reduceMul, Int32.reduceDiv, Int32.reduceMod, ↓reduceIte, Option.bind_some, hzm]
      show Option.bind _ _ = mX9_raise N (b + 75) 2 (zc w b C0 M r0)
      cases mX9_raise N (b + 75) 2 (zc w b C0 M r0) <;> rfl
  · obtain ⟨so, cl, n, hk⟩ := hR.2.1.pk hw hR.1 hd2
    have harr := hk.arr hK30
    obtain ⟨q1, q2, q3, q4, q5, q6, q7, q8, q9, q10, q11, q12, q13, q14, q15, q16, q17, q18⟩ := hk
    have ei : ∀ M0, mX2_isArray N (b + 16) (C.1 (f0 + 140) (16 + t)) (zc w b C M0 r) = some (zc w b C M0 r, if so = 0 then 0 else 1) := fun M0 => by
      rw [hre]
      have := zd_isArray (N := N) (w := w) (b := b) (C := C) (r := r) hw q1 q16 M0
      simp only [harr] at this
      exact this
    have es : ∀ C0 r0, zm_aI (zc w b C0 M r0) (b + 99) (Int32.ofNat tt) = some (Int32.ofNat so) := fun C0 r0 => by rw [zqa_99 q2, q3]
    by_cases c0 : so = 0
    · have es0 : Int32.ofNat so ≤ 0 := by rw [c0]; decide
      obtain ⟨C2, M2, w1, w2, w3, w4, w5⟩ := zp_unw (N := N) (u := u) (t := tt) hN hw hR hO hd2 (by rw [q3, c0])
      refine ⟨C2, M2, fun M0 => ?_, fun C0 r0 => ?_, w3, w4, S, Nat.le_succ S, ?_⟩
      · have eu : mX4_unwind N (b + 15) (C.1 (f0 + 140) (16 + t)) (zc w b C M0 r) = some (zc w b C2 M0 r) := by rw [hre]; exact w1 M0
        unfold zcs
        simp (decide := true) only [mX4_step_107, mX4_step_249, mX4_step_0, mX4_step, mX4_throwTop_0, mX4_throwTop, e0, zqg_15_5 h2, zqg_15_5 k1, zqkF h1, id, zqk_15, zqk_16, zqg_15_2, g0, e3, Option.map_some, Int32.reduceLT, Int32.reduceLE, Int32.reduceAdd, Int32.reduceSub, Int32.reduceMul, Int32.reduceDiv, Int32.reduceMod, ↓reduceIte, Option.bind_some, hz, ei, c0, eu]
      · have eh : mX9_hurl N (b + 75) (Int32.ofNat tt) (zc w b C0 M r0) = some (zc w b C0 M2 r0) := w2 C0 r0
        refine (fstep C0 r0).trans ?_
        simp (decide := true) only [mX9_step_74, mX9_doThrow_48, mX9_doThrow_0, mX9_doThrow, zqk_75, fp, f1, id, Option.map_some, Int32.reduceLT, Int32.reduceLE, Int32.reduceAdd, Int32.reduceSub, Int32.reduceMul, Int32.reduceDiv, Int32.reduceMod, ↓reduceIte, Option.bind_some, hzm, hti, zqg_75_32, es, es0, eh]
      · rcases w5 with ⟨f', φ', x1, x2⟩ | x1
        · exact Or.inl ⟨D, f', φ', x1, x2⟩
        · exact Or.inr x1
    · have es0 : ¬ Int32.ofNat so ≤ 0 := by rw [show (0 : Int32) = Int32.ofNat 0 from rfl, zi_le (by omega) (by omega)]; omega
      refine zStp_e (e := 5) hN hw hS h7 hR hO (by decide) (fun M0 => ?_) (Or.inr fun C0 r0 => ?_)
      · simp (decide := true) only [mX4_step_107, mX4_step_249, mX4_step_0, mX4_step, mX4_throwTop_0, mX4_throwTop, e0, zqg_15_5 h2, zqg_15_5 k1, zqkF h1, id, zqk_15, zqk_16, zqg_15_2, g0, e3, Option.map_some, Int32.reduceLT, Int32.reduceLE, Int32.reduceAdd, Int32.reduceSub, Int32.reduceMul, Int32.reduceDiv, Int32.reduceMod, ↓reduceIte, Option.bind_some, hz, ei, c0]
        rfl
      · refine (fstep C0 r0).trans ?_
        simp (decide := true) only [mX9_step_74, mX9_doThrow_48, mX9_doThrow_0, mX9_doThrow, zqk_75, fp, f1, id, Option.map_some, Int32.reduceLT, Int32.reduceLE, Int32.reduceAdd, Int32.reduceSub, Int32.reduceMul, Int32.reduceDiv, Int32.reduceMod, ↓reduceIte, Option.bind_some, hzm, hti, zqg_75_32, es, es0]
        show Option.bind _ _ = mX9_raise N (b + 75) 5 (zc w b C0 M r0)
        cases mX9_raise N (b + 75) 5 (zc w b C0 M r0) <;> rfl

end ZLO
