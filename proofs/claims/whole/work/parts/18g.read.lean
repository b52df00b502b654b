section ZRD2
variable {N w b K S f0 t p m : Nat} {F ρ α π lt st : Nat → Nat} {D : Nat → Nat → Prop} {C : zC} {M : zM} {r : zv_X} {Q : zQo} {φ : Nat → zFd}
theorem zs_46 (hN : 1700 < N) (hw : w ≤ 400) (hS : S + 1 < 2 ^ 31) (h7 : ∀ k, k < 7 → F k = 0) (hR : zRn w b K F ρ α π r Q D C M S f0 φ) (hO : zOn C M) (hφ : φ f0 = (t, p, m, lt, st)) (hop : uC (Q.2.2.1 m) p = 46) : zStp N w b K F ρ α π r Q C M S := by
  obtain ⟨hc, hm, hK, l', hl, s1, hp, s2, l2, hh, hlen, hfl⟩ := hR.ty hO hφ hop
  have hh : some (s1, l') = some (s2, l2) := hh
  cases hh
  have hp : zpop [1, 3] (zrv st t) = some s1 := hp
  obtain ⟨t, rfl, k0, hp⟩ := zpopc hp
  obtain ⟨t, rfl, k1, hp⟩ := zpopc hp
  have hp := zpop0 hp
  subst hp
  have hc' := hc
  have hD := hR.2.1.1
  have hK30 := hR.1.2.2.2.1
  obtain ⟨h1, h2, h3, h4, h5, hfr, _, h8, h9, h10, h11, h12⟩ := hc
  have hfr0 := hfr
  obtain ⟨a1, a2, a3, a4, a5, a6, a7, a8, a9⟩ := hfr
  rw [hop] at h12
  have h12 : p + 1 ≤ uLen (Q.2.2.1 m) := h12
  have e0 : ∀ M0, mX1_opcode N (b + (3 * f0 + 27)) (zc w b C M0 r) = some (zc w b C M0 r, 46) := fun M0 => ze_step0 (N := N) (w := w) hc' hop M0
  have fstep : ∀ C0 r0, mX9_step N (b + 75) (zc w b C0 M r0) = mX9_step_74 N (b + 75) (Int32.ofNat f0) (Int32.ofNat m) (Int32.ofNat p) 46 1 0 0 (zc w b C0 M r0) := fun C0 r0 => zn_step (N := N) (w := w) hc' hop (n := 1) rfl rfl rfl C0 r0
  have hd := hfr0.drop (t' := t) (by omega)
  have u0 := (a9 (t + 1) (by omega)).2.2.2
  rw [k0] at u0
  have n0 := u0.num (Or.inl rfl)
  have hint := u0.int
  have u1 := (a9 t (by omega)).2.2.2
  rw [k1] at u1
  have gi : ∀ M0, mX1_number N (b + (3 * f0 + 27)) 0 (zc w b C M0 r) = some (zc w b C M0 r, M.2 45 (12 * f0 + (t + 1))) := fun M0 => by
    have := zf_number (N := N) (w := w) (b := b) (C := C) (r := r) (t := t + 2) (k := 0) h1 a1 a3 (by omega) M0
    rw [show 15 + (t + 2) - 0 = 16 + (t + 1) by omega, n0.1] at this
    exact this
  have ga : ∀ M0, mX1_reference N (b + (3 * f0 + 27)) 1 (zc w b C M0 r) = some (zc w b C M0 r, C.1 (f0 + 140) (16 + t)) := fun M0 => by
    have := zf_reference (N := N) (w := w) (b := b) (C := C) (r := r) (t := t + 2) (k := 1) h1 a1 a3 (by omega) M0
    rw [show 15 + (t + 2) - 1 = 16 + t by omega] at this
    exact this
  have fp0 : ∀ C0 r0, mX9_peek N (b + 75) 0 (zc w b C0 M r0) = some (zc w b C0 M r0, M.2 45 (12 * f0 + (t + 1))) := fun C0 r0 => zn_peek (N := N) (w := w) (b := b) (M := M) (t := t + 2) (k := 0) h1 h3 a2 a3 (by omega) C0 r0
  have fp1 : ∀ C0 r0, mX9_peek N (b + 75) 1 (zc w b C0 M r0) = some (zc w b C0 M r0, M.2 45 (12 * f0 + t)) := fun C0 r0 => zn_peek (N := N) (w := w) (b := b) (M := M) (t := t + 2) (k := 1) h1 h3 a2 a3 (by omega) C0 r0
  obtain ⟨l3, h3', h4'⟩ := (hfl lt hl).2 (by unfold zgoes; decide)
  have hs : ∀ M0, mX4_step N (b + 15) (zc w b C M0 r) = (mX4_loadElement N (b + 15) 46 (zc w b C M0 r)).bind fun o => some (o.1, o.2) := fun M0 => by
    simp (decide := true) only [mX4_step_107, mX4_step_249, mX4_step_0, mX4_step, e0, zqg_15_5 h2, zqkF h1, id, zqk_15, zqk_16, zqg_15_2, Option.map_some, Int32.reduceLT, Int32.reduceLE, Int32.reduceAdd, Int32.reduceSub, Int32.reduceMul, Int32.reduceDiv, Int32.reduceMod, ↓reduceIte, Option.bind_some]
  have fs : ∀ C0 r0, mX9_step N (b + 75) (zc w b C0 M r0) = (mX9_doFetch N (b + 75) 46 (zc w b C0 M r0)).bind fun o => mX9_step_327 N (b + 75) (Int32.ofNat f0) (Int32.ofNat p) 1 o := fun C0 r0 => by
    refine (fstep C0 r0).trans ?_
    simp (decide := true) only [mX9_step_74, zqk_75, id, Option.map_some, Int32.reduceLT, Int32.reduceLE, Int32.reduceAdd, Int32.reduceSub, Int32.reduceMul, Int32.reduceDiv, Int32.reduceMod, ↓reduceIte, Option.bind_some]
  rcases zRf.cs hD u1.ref with ⟨hz, hv⟩ | ⟨u, tt, hd2, hre, hv, hz, hzm, hti⟩
  · have hzm : lg_cmp (M.2 45 (12 * f0 + t)) 0 = 0 := zw_cmp.mpr hv
    have ef : ∀ M0, mX4_faultOfElement N (b + 15) 0 (C.1 (f0 + 140) (16 + t)) (M.2 45 (12 * f0 + (t + 1))).toInt32 (zc w b C M0 r) = some (zc w b C M0 r, 2) := fun M0 => by
      unfold mX4_faultOfElement mX4_faultOfElement_0
      rw [if_pos hz]
    have ewr : ∀ C0 r0, mX9_wrong N (b + 75) 46 (M.2 45 (12 * f0 + t)) (M.2 45 (12 * f0 + (t + 1))) (zc w b C0 M r0) = some (zc w b C0 M r0, 2) := fun C0 r0 => by
      unfold mX9_wrong mX9_wrong_0
      rw [if_pos hzm]
    refine zStp_e (e := 2) hN hw hS h7 hR hO (by decide) (fun M0 => ?_) (Or.inl ⟨Int32.ofNat f0, Int32.ofNat p, 1, fun C0 r0 => ?_⟩)
    · rw [hs, zd_loadE (op := 46) (e := 2) h1 h2 (ga M0) (gi M0) (ef M0) (by decide)]
      rfl
    · rw [fs, zn_fetchE (op := 46) (e := 2) zqk_75 (fp0 C0 r0) (fp1 C0 r0) (ewr C0 r0) (by decide)]
      show Option.bind _ _ = (mX9_fail N (b + 75) 2 (zc w b C0 M r0)).bind _
      cases mX9_fail N (b + 75) 2 (zc w b C0 M r0) <;> rfl
  · obtain ⟨so, cl, n, hk⟩ := hR.2.1.pk hw hR.1 hd2
    have ef0 : ∀ M0, _ := fun M0 => zd_fault (N := N) (w := w) (b := b) (r := r) (use := 0) (i := (M.2 45 (12 * f0 + (t + 1))).toInt32) hw hK30 hk (by decide) M0
    have ew0 : ∀ C0 r0, _ := fun C0 r0 => zn_wrong (N := N) (w := w) (b := b) (use := 0) (op := 46) (v := M.2 45 (12 * f0 + (t + 1))) hk (by decide) (by decide) hint C0 r0
    rw [← hre] at ef0
    rw [← hv] at ew0
    by_cases c1 : zok 0 so = true
    · simp only [if_pos c1] at ef0 ew0
      by_cases c2 : 0 ≤ (M.2 45 (12 * f0 + (t + 1))).toInt32 ∧ (M.2 45 (12 * f0 + (t + 1))).toInt32 < Int32.ofNat n
      · simp only [if_pos c2] at ef0 ew0
        have ef : ∀ M0, mX4_faultOfElement N (b + 15) 0 (C.1 (f0 + 140) (16 + t)) (M.2 45 (12 * f0 + (t + 1))).toInt32 (zc w b C M0 r) = some (zc w b C M0 r, 0) := ef0
        have ewr : ∀ C0 r0, mX9_wrong N (b + 75) 46 (M.2 45 (12 * f0 + t)) (M.2 45 (12 * f0 + (t + 1))) (zc w b C0 M r0) = some (zc w b C0 M r0, 0) := ew0
        obtain ⟨k, hk1, hk2⟩ := zi_of c2.1
        have hkn : k < n := by
          have := c2.2
          rw [hk1, zi_lt hk2 (by have := hk.2.2.2.2.2.1; omega)] at this
          exact this
        have hso0 : so ≠ 0 := fun e => by rw [e] at c1; exact absurd c1 (by decide)
        have ee : ∀ M0, mX2_element N (b + 16) (C.1 (f0 + 140) (16 + t)) (M.2 45 (12 * f0 + (t + 1))).toInt32 (zc w b C M0 r) = some (zc w b C M0 r, zel so (fun j => C.1 17 (zha C u + 2 + j)) k) := fun M0 => by
          rw [hre, hk1]
          exact zd_element (N := N) (w := w) (b := b) (r := r) hw hk hso0 hkn M0
        obtain ⟨q1, q2, q3, q4, q5, q6, q7, q8, q9, q10, q11, q12, q13, q14, q15, q16, q17, q18⟩ := hk
        have hq := q18 k hkn
        have hso : so ≠ 12 := fun e => by rw [e] at c1; exact absurd c1 (by decide)
        rw [if_neg (by omega)] at hq
        have hso11 : so ≠ 11 := fun e => by rw [e] at c1; exact absurd c1 (by decide)
        obtain ⟨ii, hii⟩ := zel_int so k (fun j => C.1 17 (zha C u + 2 + j)) hso11
        have hp := (hd.pushN (by omega) (zSl.mk1 ii) (Or.inl rfl)).go (p + 1)
        rw [← hii, ← hq] at hp
        rw [← hq] at ee
        refine zStp_q hR hO hφ (t' := t + 1) (p' := p + 1) (lt' := lt) (st' := zset st t 1) ⟨_, _, fun M0 => ?_, fun C0 r0 => ?_, hp, zTop.rf.i2.pn.i2, (zTopM.rf.d.p (by omega)).go⟩ ⟨l3, by rw [zrv_push]; exact h3', h4'⟩
        · have e3 : mX1_drop N (b + (3 * f0 + 27)) 2 (zc w b C M0 r) = some (zc w b (zI C (f0 + 100) 2 (Int32.ofNat (16 + t))) M0 r) := zf_drop (N := N) (w := w) (b := b) (r := r) (t := t + 2) (k := 2) h1 a1 a3 (by omega) M0
          have kk : (zI C (f0 + 100) 2 (Int32.ofNat (16 + t))).2.2 15 5 = .ref (b + (3 * f0 + 27)) := h2
          have e4 : mX1_pushNumber N (b + (3 * f0 + 27)) (M.2 37 (zgb M tt + k)) (zc w b (zI C (f0 + 100) 2 (Int32.ofNat (16 + t))) M0 r) = some (zc w b (zPN (zI C (f0 + 100) 2 (Int32.ofNat (16 + t))) f0 t (M.2 37 (zgb M tt + k))) M0 r) := zf_pushNumber (t := t) h1 zp2_I2 (by omega) _ M0
          have e5 : mX4_goOn N (b + 15) 1 (zc w b (zPN (zI C (f0 + 100) 2 (Int32.ofNat (16 + t))) f0 t (M.2 37 (zgb M tt + k))) M0 r) = some (zc w b (zI (zPN (zI C (f0 + 100) 2 (Int32.ofNat (16 + t))) f0 t (M.2 37 (zgb M tt + k))) (f0 + 100) 4 (Int32.ofNat (p + 1))) M0 r, 0) := zf_goOn (C := zPN (zI C (f0 + 100) 2 (Int32.ofNat (16 + t))) f0 t (M.2 37 (zgb M tt + k))) (n := 1) (p := p) h1 h2 (zp4_PN.trans (zp4_I2.trans a4)) M0
          rw [hs, zd_loadG (op := 46) h1 h2 (ga M0) (gi M0) (ef M0) (ee M0) e3 kk (by rw [if_neg (by decide)]; exact e4) e5]
          rfl
        · have f1 : mX9_popValue N (b + 75) (zc w b C0 M r0) = some (zc w b C0 (zMD M f0 (t + 1)) r0, M.2 45 (12 * f0 + (t + 1))) := zn_pop (N := N) (w := w) (b := b) (M := M) (t := t + 1) h1 h3 a2 (by omega) C0 r0
          have f2 : mX9_popValue N (b + 75) (zc w b C0 (zMD M f0 (t + 1)) r0) = some (zc w b C0 (zMD M f0 t) r0, M.2 45 (12 * f0 + t)) := by
            have := zn_pop (N := N) (w := w) (b := b) (M := zMD M f0 (t + 1)) (t := t) h1 (zmd100.trans h3) zmd42 (by omega) C0 r0
            rw [zMDD] at this; exact this
          have eb : zm_aI (zc w b C0 (zMD M f0 t) r0) (b + 101) (Int32.ofNat tt) = some (Int32.ofNat (zgb M tt)) := by
            rw [zqa_101 q2]
            unfold zMD
            rw [zJ1, if_neg (by omega)]
            exact congrArg some (zN_of _).symm
          have ecl : zm_aL (zc w b C0 (zMD M f0 t) r0) (b + 103) (Int32.ofNat (zgb M tt) + (M.2 45 (12 * f0 + (t + 1))).toInt32) = some (M.2 37 (zgb M tt + k)) := by
            rw [hk1, zi_add, zqa_103 (by omega)]
            rfl
          have f8 : mX9_pushValue N (b + 75) 1 (M.2 37 (zgb M tt + k)) (zc w b C0 (zMD M f0 t) r0) = some (zc w b C0 (zMP (zMD M f0 t) f0 t 1 (M.2 37 (zgb M tt + k))) r0) := zn_push (N := N) (w := w) (b := b) (M := zMD M f0 t) (t := t) h1 (zmd100.trans h3) zmd42 (by omega) 1 _ C0 r0
          have f9 : mX9_step_327 N (b + 75) (Int32.ofNat f0) (Int32.ofNat p) 1 (zc w b C0 (zMP (zMD M f0 t) f0 t 1 (M.2 37 (zgb M tt + k))) r0) = some (zc w b C0 (zJ (zMP (zMD M f0 t) f0 t 1 (M.2 37 (zgb M tt + k))) 41 f0 (Int32.ofNat (p + 1))) r0) := zn_on (N := N) (w := w) (b := b) (M := zMP (zMD M f0 t) f0 t 1 (M.2 37 (zgb M tt + k))) (p := p) (n := 1) h1 (zmp100.trans (zmd100.trans h4)) (zmp100.trans (zmd100.trans h5)) C0 r0
          have ak : ∀ x, mX9_arrayKind N 46 x = some (x, 1) := fun x => by
            unfold mX9_arrayKind mX9_arrayKind_0 mX9_arrayKind_17 mX9_arrayKind_37
            simp (decide := true) only [Int32.reduceLT, Int32.reduceLE, Int32.reduceAdd, Int32.reduceSub, Int32.reduceMul, Int32.reduceDiv, Int32.reduceMod, ↓reduceIte, Option.bind_some]
          rw [fs, zn_fetchG (op := 46) zqk_75 zqk_75 zqk_75 (fp0 C0 r0) (fp1 C0 r0) (ewr C0 r0) f1 f2 (ak _) zqg_75_37 zqg_75_34 (by rw [hti]; exact eb) ecl f8, Option.bind_some]
          exact f9
      · simp only [if_neg c2] at ef0 ew0
        have ef : ∀ M0, mX4_faultOfElement N (b + 15) 0 (C.1 (f0 + 140) (16 + t)) (M.2 45 (12 * f0 + (t + 1))).toInt32 (zc w b C M0 r) = some (zc w b C M0 r, 3) := ef0
        have ewr : ∀ C0 r0, mX9_wrong N (b + 75) 46 (M.2 45 (12 * f0 + t)) (M.2 45 (12 * f0 + (t + 1))) (zc w b C0 M r0) = some (zc w b C0 M r0, 3) := ew0
        refine zStp_e (e := 3) hN hw hS h7 hR hO (by decide) (fun M0 => ?_) (Or.inl ⟨Int32.ofNat f0, Int32.ofNat p, 1, fun C0 r0 => ?_⟩)
        · rw [hs, zd_loadE (op := 46) (e := 3) h1 h2 (ga M0) (gi M0) (ef M0) (by decide)]
          rfl
        · rw [fs, zn_fetchE (op := 46) (e := 3) zqk_75 (fp0 C0 r0) (fp1 C0 r0) (ewr C0 r0) (by decide)]
          show Option.bind _ _ = (mX9_fail N (b + 75) 3 (zc w b C0 M r0)).bind _
          cases mX9_fail N (b + 75) 3 (zc w b C0 M r0) <;> rfl
    · simp only [if_neg c1] at ef0 ew0
      have ef : ∀ M0, mX4_faultOfElement N (b + 15) 0 (C.1 (f0 + 140) (16 + t)) (M.2 45 (12 * f0 + (t + 1))).toInt32 (zc w b C M0 r) = some (zc w b C M0 r, 5) := ef0
      have ewr : ∀ C0 r0, mX9_wrong N (b + 75) 46 (M.2 45 (12 * f0 + t)) (M.2 45 (12 * f0 + (t + 1))) (zc w b C0 M r0) = some (zc w b C0 M r0, 5) := ew0
      refine zStp_e (e := 5) hN hw hS h7 hR hO (by decide) (fun M0 => ?_) (Or.inl ⟨Int32.ofNat f0, Int32.ofNat p, 1, fun C0 r0 => ?_⟩)
      · rw [hs, zd_loadE (op := 46) (e := 5) h1 h2 (ga M0) (gi M0) (ef M0) (by decide)]
        rfl
      · rw [fs, zn_fetchE (op := 46) (e := 5) zqk_75 (fp0 C0 r0) (fp1 C0 r0) (ewr C0 r0) (by decide)]
        show Option.bind _ _ = (mX9_fail N (b + 75) 5 (zc w b C0 M r0)).bind _
        cases mX9_fail N (b + 75) 5 (zc w b C0 M r0) <;> rfl

theorem zs_47 (hN : 1700 < N) (hw : w ≤ 400) (hS : S + 1 < 2 ^ 31) (h7 : ∀ k, k < 7 → F k = 0) (hR : zRn w b K F ρ α π r Q D C M S f0 φ) (hO : zOn C M) (hφ : φ f0 = (t, p, m, lt, st)) (hop : uC (Q.2.2.1 m) p = 47) : zStp N w b K F ρ α π r Q C M S := by
  obtain ⟨hc, hm, hK, l', hl, s1, hp, s2, l2, hh, hlen, hfl⟩ := hR.ty hO hφ hop
  have hh : some (s1, l') = some (s2, l2) := hh
  cases hh
  have hp : zpop [1, 3] (zrv st t) = some s1 := hp
  obtain ⟨t, rfl, k0, hp⟩ := zpopc hp
  obtain ⟨t, rfl, k1, hp⟩ := zpopc hp
  have hp := zpop0 hp
  subst hp
  have hc' := hc
  have hD := hR.2.1.1
  have hK30 := hR.1.2.2.2.1
  obtain ⟨h1, h2, h3, h4, h5, hfr, _, h8, h9, h10, h11, h12⟩ := hc
  have hfr0 := hfr
  obtain ⟨a1, a2, a3, a4, a5, a6, a7, a8, a9⟩ := hfr
  rw [hop] at h12
  have h12 : p + 1 ≤ uLen (Q.2.2.1 m) := h12
  have e0 : ∀ M0, mX1_opcode N (b + (3 * f0 + 27)) (zc w b C M0 r) = some (zc w b C M0 r, 47) := fun M0 => ze_step0 (N := N) (w := w) hc' hop M0
  have fstep : ∀ C0 r0, mX9_step N (b + 75) (zc w b C0 M r0) = mX9_step_74 N (b + 75) (Int32.ofNat f0) (Int32.ofNat m) (Int32.ofNat p) 47 1 0 0 (zc w b C0 M r0) := fun C0 r0 => zn_step (N := N) (w := w) hc' hop (n := 1) rfl rfl rfl C0 r0
  have hd := hfr0.drop (t' := t) (by omega)
  have u0 := (a9 (t + 1) (by omega)).2.2.2
  rw [k0] at u0
  have n0 := u0.num (Or.inl rfl)
  have hint := u0.int
  have u1 := (a9 t (by omega)).2.2.2
  rw [k1] at u1
  have gi : ∀ M0, mX1_number N (b + (3 * f0 + 27)) 0 (zc w b C M0 r) = some (zc w b C M0 r, M.2 45 (12 * f0 + (t + 1))) := fun M0 => by
    have := zf_number (N := N) (w := w) (b := b) (C := C) (r := r) (t := t + 2) (k := 0) h1 a1 a3 (by omega) M0
    rw [show 15 + (t + 2) - 0 = 16 + (t + 1) by omega, n0.1] at this
    exact this
  have ga : ∀ M0, mX1_reference N (b + (3 * f0 + 27)) 1 (zc w b C M0 r) = some (zc w b C M0 r, C.1 (f0 + 140) (16 + t)) := fun M0 => by
    have := zf_reference (N := N) (w := w) (b := b) (C := C) (r := r) (t := t + 2) (k := 1) h1 a1 a3 (by omega) M0
    rw [show 15 + (t + 2) - 1 = 16 + t by omega] at this
    exact this
  have fp0 : ∀ C0 r0, mX9_peek N (b + 75) 0 (zc w b C0 M r0) = some (zc w b C0 M r0, M.2 45 (12 * f0 + (t + 1))) := fun C0 r0 => zn_peek (N := N) (w := w) (b := b) (M := M) (t := t + 2) (k := 0) h1 h3 a2 a3 (by omega) C0 r0
  have fp1 : ∀ C0 r0, mX9_peek N (b + 75) 1 (zc w b C0 M r0) = some (zc w b C0 M r0, M.2 45 (12 * f0 + t)) := fun C0 r0 => zn_peek (N := N) (w := w) (b := b) (M := M) (t := t + 2) (k := 1) h1 h3 a2 a3 (by omega) C0 r0
  obtain ⟨l3, h3', h4'⟩ := (hfl lt hl).2 (by unfold zgoes; decide)
  have hs : ∀ M0, mX4_step N (b + 15) (zc w b C M0 r) = (mX4_loadElement N (b + 15) 47 (zc w b C M0 r)).bind fun o => some (o.1, o.2) := fun M0 => by
    simp (decide := true) only [mX4_step_107, mX4_step_249, mX4_step_0, mX4_step, e0, zqg_15_5 h2, zqkF h1, id, zqk_15, zqk_16, zqg_15_2, Option.map_some, Int32.reduceLT, Int32.reduceLE, Int32.reduceAdd, Int32.reduceSub, Int32.reduceMul, Int32.reduceDiv, Int32.reduceMod, ↓reduceIte, Option.bind_some]
  have fs : ∀ C0 r0, mX9_step N (b + 75) (zc w b C0 M r0) = (mX9_doFetch N (b + 75) 47 (zc w b C0 M r0)).bind fun o => mX9_step_327 N (b + 75) (Int32.ofNat f0) (Int32.ofNat p) 1 o := fun C0 r0 => by
    refine (fstep C0 r0).trans ?_
    simp (decide := true) only [mX9_step_74, zqk_75, id, Option.map_some, Int32.reduceLT, Int32.reduceLE, Int32.reduceAdd, Int32.reduceSub, Int32.reduceMul, Int32.reduceDiv, Int32.reduceMod, ↓reduceIte, Option.bind_some]
  rcases zRf.cs hD u1.ref with ⟨hz, hv⟩ | ⟨u, tt, hd2, hre, hv, hz, hzm, hti⟩
  · have hzm : lg_cmp (M.2 45 (12 * f0 + t)) 0 = 0 := zw_cmp.mpr hv
    have ef : ∀ M0, mX4_faultOfElement N (b + 15) 1 (C.1 (f0 + 140) (16 + t)) (M.2 45 (12 * f0 + (t + 1))).toInt32 (zc w b C M0 r) = some (zc w b C M0 r, 2) := fun M0 => by
      unfold mX4_faultOfElement mX4_faultOfElement_0
      rw [if_pos hz]
    have ewr : ∀ C0 r0, mX9_wrong N (b + 75) 47 (M.2 45 (12 * f0 + t)) (M.2 45 (12 * f0 + (t + 1))) (zc w b C0 M r0) = some (zc w b C0 M r0, 2) := fun C0 r0 => by
      unfold mX9_wrong mX9_wrong_0
      rw [if_pos hzm]
    refine zStp_e (e := 2) hN hw hS h7 hR hO (by decide) (fun M0 => ?_) (Or.inl ⟨Int32.ofNat f0, Int32.ofNat p, 1, fun C0 r0 => ?_⟩)
    · rw [hs, zd_loadE (op := 47) (e := 2) h1 h2 (ga M0) (gi M0) (ef M0) (by decide)]
      rfl
    · rw [fs, zn_fetchE (op := 47) (e := 2) zqk_75 (fp0 C0 r0) (fp1 C0 r0) (ewr C0 r0) (by decide)]
      show Option.bind _ _ = (mX9_fail N (b + 75) 2 (zc w b C0 M r0)).bind _
      cases mX9_fail N (b + 75) 2 (zc w b C0 M r0) <;> rfl
  · obtain ⟨so, cl, n, hk⟩ := hR.2.1.pk hw hR.1 hd2
    have ef0 : ∀ M0, _ := fun M0 => zd_fault (N := N) (w := w) (b := b) (r := r) (use := 1) (i := (M.2 45 (12 * f0 + (t + 1))).toInt32) hw hK30 hk (by decide) M0
    have ew0 : ∀ C0 r0, _ := fun C0 r0 => zn_wrong (N := N) (w := w) (b := b) (use := 1) (op := 47) (v := M.2 45 (12 * f0 + (t + 1))) hk (by decide) (by decide) hint C0 r0
    rw [← hre] at ef0
    rw [← hv] at ew0
    by_cases c1 : zok 1 so = true
    · simp only [if_pos c1] at ef0 ew0
      by_cases c2 : 0 ≤ (M.2 45 (12 * f0 + (t + 1))).toInt32 ∧ (M.2 45 (12 * f0 + (t + 1))).toInt32 < Int32.ofNat n
      · simp only [if_pos c2] at ef0 ew0
        have ef : ∀ M0, mX4_faultOfElement N (b + 15) 1 (C.1 (f0 + 140) (16 + t)) (M.2 45 (12 * f0 + (t + 1))).toInt32 (zc w b C M0 r) = some (zc w b C M0 r, 0) := ef0
        have ewr : ∀ C0 r0, mX9_wrong N (b + 75) 47 (M.2 45 (12 * f0 + t)) (M.2 45 (12 * f0 + (t + 1))) (zc w b C0 M r0) = some (zc w b C0 M r0, 0) := ew0
        obtain ⟨k, hk1, hk2⟩ := zi_of c2.1
        have hkn : k < n := by
          have := c2.2
          rw [hk1, zi_lt hk2 (by have := hk.2.2.2.2.2.1; omega)] at this
          exact this
        have hso0 : so ≠ 0 := fun e => by rw [e] at c1; exact absurd c1 (by decide)
        have ee : ∀ M0, mX2_element N (b + 16) (C.1 (f0 + 140) (16 + t)) (M.2 45 (12 * f0 + (t + 1))).toInt32 (zc w b C M0 r) = some (zc w b C M0 r, zel so (fun j => C.1 17 (zha C u + 2 + j)) k) := fun M0 => by
          rw [hre, hk1]
          exact zd_element (N := N) (w := w) (b := b) (r := r) hw hk hso0 hkn M0
        obtain ⟨q1, q2, q3, q4, q5, q6, q7, q8, q9, q10, q11, q12, q13, q14, q15, q16, q17, q18⟩ := hk
        have hq := q18 k hkn
        have hso : so ≠ 12 := fun e => by rw [e] at c1; exact absurd c1 (by decide)
        rw [if_neg (by omega)] at hq
        have hp := (hd.pushN (by omega) (zSl.mk2 (M.2 37 (zgb M tt + k))) (Or.inr rfl)).go (p + 1)
        rw [← hq] at ee
        refine zStp_q hR hO hφ (t' := t + 1) (p' := p + 1) (lt' := lt) (st' := zset st t 2) ⟨_, _, fun M0 => ?_, fun C0 r0 => ?_, hp, zTop.rf.i2.pn.i2, (zTopM.rf.d.p (by omega)).go⟩ ⟨l3, by rw [zrv_push]; exact h3', h4'⟩
        · have e3 : mX1_drop N (b + (3 * f0 + 27)) 2 (zc w b C M0 r) = some (zc w b (zI C (f0 + 100) 2 (Int32.ofNat (16 + t))) M0 r) := zf_drop (N := N) (w := w) (b := b) (r := r) (t := t + 2) (k := 2) h1 a1 a3 (by omega) M0
          have kk : (zI C (f0 + 100) 2 (Int32.ofNat (16 + t))).2.2 15 5 = .ref (b + (3 * f0 + 27)) := h2
          have e4 : mX1_pushNumber N (b + (3 * f0 + 27)) (M.2 37 (zgb M tt + k)) (zc w b (zI C (f0 + 100) 2 (Int32.ofNat (16 + t))) M0 r) = some (zc w b (zPN (zI C (f0 + 100) 2 (Int32.ofNat (16 + t))) f0 t (M.2 37 (zgb M tt + k))) M0 r) := zf_pushNumber (t := t) h1 zp2_I2 (by omega) _ M0
          have e5 : mX4_goOn N (b + 15) 1 (zc w b (zPN (zI C (f0 + 100) 2 (Int32.ofNat (16 + t))) f0 t (M.2 37 (zgb M tt + k))) M0 r) = some (zc w b (zI (zPN (zI C (f0 + 100) 2 (Int32.ofNat (16 + t))) f0 t (M.2 37 (zgb M tt + k))) (f0 + 100) 4 (Int32.ofNat (p + 1))) M0 r, 0) := zf_goOn (C := zPN (zI C (f0 + 100) 2 (Int32.ofNat (16 + t))) f0 t (M.2 37 (zgb M tt + k))) (n := 1) (p := p) h1 h2 (zp4_PN.trans (zp4_I2.trans a4)) M0
          rw [hs, zd_loadG (op := 47) h1 h2 (ga M0) (gi M0) (ef M0) (ee M0) e3 kk (by rw [if_neg (by decide)]; exact e4) e5]
          rfl
        · have f1 : mX9_popValue N (b + 75) (zc w b C0 M r0) = some (zc w b C0 (zMD M f0 (t + 1)) r0, M.2 45 (12 * f0 + (t + 1))) := zn_pop (N := N) (w := w) (b := b) (M := M) (t := t + 1) h1 h3 a2 (by omega) C0 r0
          have f2 : mX9_popValue N (b + 75) (zc w b C0 (zMD M f0 (t + 1)) r0) = some (zc w b C0 (zMD M f0 t) r0, M.2 45 (12 * f0 + t)) := by
            have := zn_pop (N := N) (w := w) (b := b) (M := zMD M f0 (t + 1)) (t := t) h1 (zmd100.trans h3) zmd42 (by omega) C0 r0
            rw [zMDD] at this; exact this
          have eb : zm_aI (zc w b C0 (zMD M f0 t) r0) (b + 101) (Int32.ofNat tt) = some (Int32.ofNat (zgb M tt)) := by
            rw [zqa_101 q2]
            unfold zMD
            rw [zJ1, if_neg (by omega)]
            exact congrArg some (zN_of _).symm
          have ecl : zm_aL (zc w b C0 (zMD M f0 t) r0) (b + 103) (Int32.ofNat (zgb M tt) + (M.2 45 (12 * f0 + (t + 1))).toInt32) = some (M.2 37 (zgb M tt + k)) := by
            rw [hk1, zi_add, zqa_103 (by omega)]
            rfl
          have f8 : mX9_pushValue N (b + 75) 2 (M.2 37 (zgb M tt + k)) (zc w b C0 (zMD M f0 t) r0) = some (zc w b C0 (zMP (zMD M f0 t) f0 t 2 (M.2 37 (zgb M tt + k))) r0) := zn_push (N := N) (w := w) (b := b) (M := zMD M f0 t) (t := t) h1 (zmd100.trans h3) zmd42 (by omega) 2 _ C0 r0
          have f9 : mX9_step_327 N (b + 75) (Int32.ofNat f0) (Int32.ofNat p) 1 (zc w b C0 (zMP (zMD M f0 t) f0 t 2 (M.2 37 (zgb M tt + k))) r0) = some (zc w b C0 (zJ (zMP (zMD M f0 t) f0 t 2 (M.2 37 (zgb M tt + k))) 41 f0 (Int32.ofNat (p + 1))) r0) := zn_on (N := N) (w := w) (b := b) (M := zMP (zMD M f0 t) f0 t 2 (M.2 37 (zgb M tt + k))) (p := p) (n := 1) h1 (zmp100.trans (zmd100.trans h4)) (zmp100.trans (zmd100.trans h5)) C0 r0
          have ak : ∀ x, mX9_arrayKind N 47 x = some (x, 2) := fun x => by
            unfold mX9_arrayKind mX9_arrayKind_0 mX9_arrayKind_17 mX9_arrayKind_37
            simp (decide := true) only [Int32.reduceLT, Int32.reduceLE, Int32.reduceAdd, Int32.reduceSub, Int32.reduceMul, Int32.reduceDiv, Int32.reduceMod, ↓reduceIte, Option.bind_some]
          rw [fs, zn_fetchG (op := 47) zqk_75 zqk_75 zqk_75 (fp0 C0 r0) (fp1 C0 r0) (ewr C0 r0) f1 f2 (ak _) zqg_75_37 zqg_75_34 (by rw [hti]; exact eb) ecl f8, Option.bind_some]
          exact f9
      · simp only [if_neg c2] at ef0 ew0
        have ef : ∀ M0, mX4_faultOfElement N (b + 15) 1 (C.1 (f0 + 140) (16 + t)) (M.2 45 (12 * f0 + (t + 1))).toInt32 (zc w b C M0 r) = some (zc w b C M0 r, 3) := ef0
        have ewr : ∀ C0 r0, mX9_wrong N (b + 75) 47 (M.2 45 (12 * f0 + t)) (M.2 45 (12 * f0 + (t + 1))) (zc w b C0 M r0) = some (zc w b C0 M r0, 3) := ew0
        refine zStp_e (e := 3) hN hw hS h7 hR hO (by decide) (fun M0 => ?_) (Or.inl ⟨Int32.ofNat f0, Int32.ofNat p, 1, fun C0 r0 => ?_⟩)
        · rw [hs, zd_loadE (op := 47) (e := 3) h1 h2 (ga M0) (gi M0) (ef M0) (by decide)]
          rfl
        · rw [fs, zn_fetchE (op := 47) (e := 3) zqk_75 (fp0 C0 r0) (fp1 C0 r0) (ewr C0 r0) (by decide)]
          show Option.bind _ _ = (mX9_fail N (b + 75) 3 (zc w b C0 M r0)).bind _
          cases mX9_fail N (b + 75) 3 (zc w b C0 M r0) <;> rfl
    · simp only [if_neg c1] at ef0 ew0
      have ef : ∀ M0, mX4_faultOfElement N (b + 15) 1 (C.1 (f0 + 140) (16 + t)) (M.2 45 (12 * f0 + (t + 1))).toInt32 (zc w b C M0 r) = some (zc w b C M0 r, 5) := ef0
      have ewr : ∀ C0 r0, mX9_wrong N (b + 75) 47 (M.2 45 (12 * f0 + t)) (M.2 45 (12 * f0 + (t + 1))) (zc w b C0 M r0) = some (zc w b C0 M r0, 5) := ew0
      refine zStp_e (e := 5) hN hw hS h7 hR hO (by decide) (fun M0 => ?_) (Or.inl ⟨Int32.ofNat f0, Int32.ofNat p, 1, fun C0 r0 => ?_⟩)
      · rw [hs, zd_loadE (op := 47) (e := 5) h1 h2 (ga M0) (gi M0) (ef M0) (by decide)]
        rfl
      · rw [fs, zn_fetchE (op := 47) (e := 5) zqk_75 (fp0 C0 r0) (fp1 C0 r0) (ewr C0 r0) (by decide)]
        show Option.bind _ _ = (mX9_fail N (b + 75) 5 (zc w b C0 M r0)).bind _
        cases mX9_fail N (b + 75) 5 (zc w b C0 M r0) <;> rfl

theorem zs_50 (hN : 1700 < N) (hw : w ≤ 400) (hS : S + 1 < 2 ^ 31) (h7 : ∀ k, k < 7 → F k = 0) (hR : zRn w b K F ρ α π r Q D C M S f0 φ) (hO : zOn C M) (hφ : φ f0 = (t, p, m, lt, st)) (hop : uC (Q.2.2.1 m) p = 50) : zStp N w b K F ρ α π r Q C M S := by
  obtain ⟨hc, hm, hK, l', hl, s1, hp, s2, l2, hh, hlen, hfl⟩ := hR.ty hO hφ hop
  have hh : some (s1, l') = some (s2, l2) := hh
  cases hh
  have hp : zpop [1, 3] (zrv st t) = some s1 := hp
  obtain ⟨t, rfl, k0, hp⟩ := zpopc hp
  obtain ⟨t, rfl, k1, hp⟩ := zpopc hp
  have hp := zpop0 hp
  subst hp
  have hc' := hc
  have hD := hR.2.1.1
  have hK30 := hR.1.2.2.2.1
  obtain ⟨h1, h2, h3, h4, h5, hfr, _, h8, h9, h10, h11, h12⟩ := hc
  have hfr0 := hfr
  obtain ⟨a1, a2, a3, a4, a5, a6, a7, a8, a9⟩ := hfr
  rw [hop] at h12
  have h12 : p + 1 ≤ uLen (Q.2.2.1 m) := h12
  have e0 : ∀ M0, mX1_opcode N (b + (3 * f0 + 27)) (zc w b C M0 r) = some (zc w b C M0 r, 50) := fun M0 => ze_step0 (N := N) (w := w) hc' hop M0
  have fstep : ∀ C0 r0, mX9_step N (b + 75) (zc w b C0 M r0) = mX9_step_74 N (b + 75) (Int32.ofNat f0) (Int32.ofNat m) (Int32.ofNat p) 50 1 0 0 (zc w b C0 M r0) := fun C0 r0 => zn_step (N := N) (w := w) hc' hop (n := 1) rfl rfl rfl C0 r0
  have hd := hfr0.drop (t' := t) (by omega)
  have u0 := (a9 (t + 1) (by omega)).2.2.2
  rw [k0] at u0
  have n0 := u0.num (Or.inl rfl)
  have hint := u0.int
  have u1 := (a9 t (by omega)).2.2.2
  rw [k1] at u1
  have gi : ∀ M0, mX1_number N (b + (3 * f0 + 27)) 0 (zc w b C M0 r) = some (zc w b C M0 r, M.2 45 (12 * f0 + (t + 1))) := fun M0 => by
    have := zf_number (N := N) (w := w) (b := b) (C := C) (r := r) (t := t + 2) (k := 0) h1 a1 a3 (by omega) M0
    rw [show 15 + (t + 2) - 0 = 16 + (t + 1) by omega, n0.1] at this
    exact this
  have ga : ∀ M0, mX1_reference N (b + (3 * f0 + 27)) 1 (zc w b C M0 r) = some (zc w b C M0 r, C.1 (f0 + 140) (16 + t)) := fun M0 => by
    have := zf_reference (N := N) (w := w) (b := b) (C := C) (r := r) (t := t + 2) (k := 1) h1 a1 a3 (by omega) M0
    rw [show 15 + (t + 2) - 1 = 16 + t by omega] at this
    exact this
  have fp0 : ∀ C0 r0, mX9_peek N (b + 75) 0 (zc w b C0 M r0) = some (zc w b C0 M r0, M.2 45 (12 * f0 + (t + 1))) := fun C0 r0 => zn_peek (N := N) (w := w) (b := b) (M := M) (t := t + 2) (k := 0) h1 h3 a2 a3 (by omega) C0 r0
  have fp1 : ∀ C0 r0, mX9_peek N (b + 75) 1 (zc w b C0 M r0) = some (zc w b C0 M r0, M.2 45 (12 * f0 + t)) := fun C0 r0 => zn_peek (N := N) (w := w) (b := b) (M := M) (t := t + 2) (k := 1) h1 h3 a2 a3 (by omega) C0 r0
  obtain ⟨l3, h3', h4'⟩ := (hfl lt hl).2 (by unfold zgoes; decide)
  have hs : ∀ M0, mX4_step N (b + 15) (zc w b C M0 r) = (mX4_loadElement N (b + 15) 50 (zc w b C M0 r)).bind fun o => some (o.1, o.2) := fun M0 => by
    simp (decide := true) only [mX4_step_107, mX4_step_249, mX4_step_0, mX4_step, e0, zqg_15_5 h2, zqkF h1, id, zqk_15, zqk_16, zqg_15_2, Option.map_some, Int32.reduceLT, Int32.reduceLE, Int32.reduceAdd, Int32.reduceSub, Int32.reduceMul, Int32.reduceDiv, Int32.reduceMod, ↓reduceIte, Option.bind_some]
  have fs : ∀ C0 r0, mX9_step N (b + 75) (zc w b C0 M r0) = (mX9_doFetch N (b + 75) 50 (zc w b C0 M r0)).bind fun o => mX9_step_327 N (b + 75) (Int32.ofNat f0) (Int32.ofNat p) 1 o := fun C0 r0 => by
    refine (fstep C0 r0).trans ?_
    simp (decide := true) only [mX9_step_74, zqk_75, id, Option.map_some, Int32.reduceLT, Int32.reduceLE, Int32.reduceAdd, Int32.reduceSub, Int32.reduceMul, Int32.reduceDiv, Int32.reduceMod, ↓reduceIte, Option.bind_some]
  rcases zRf.cs hD u1.ref with ⟨hz, hv⟩ | ⟨u, tt, hd2, hre, hv, hz, hzm, hti⟩
  · have hzm : lg_cmp (M.2 45 (12 * f0 + t)) 0 = 0 := zw_cmp.mpr hv
    have ef : ∀ M0, mX4_faultOfElement N (b + 15) 4 (C.1 (f0 + 140) (16 + t)) (M.2 45 (12 * f0 + (t + 1))).toInt32 (zc w b C M0 r) = some (zc w b C M0 r, 2) := fun M0 => by
      unfold mX4_faultOfElement mX4_faultOfElement_0
      rw [if_pos hz]
    have ewr : ∀ C0 r0, mX9_wrong N (b + 75) 50 (M.2 45 (12 * f0 + t)) (M.2 45 (12 * f0 + (t + 1))) (zc w b C0 M r0) = some (zc w b C0 M r0, 2) := fun C0 r0 => by
      unfold mX9_wrong mX9_wrong_0
      rw [if_pos hzm]
    refine zStp_e (e := 2) hN hw hS h7 hR hO (by decide) (fun M0 => ?_) (Or.inl ⟨Int32.ofNat f0, Int32.ofNat p, 1, fun C0 r0 => ?_⟩)
    · rw [hs, zd_loadE (op := 50) (e := 2) h1 h2 (ga M0) (gi M0) (ef M0) (by decide)]
      rfl
    · rw [fs, zn_fetchE (op := 50) (e := 2) zqk_75 (fp0 C0 r0) (fp1 C0 r0) (ewr C0 r0) (by decide)]
      show Option.bind _ _ = (mX9_fail N (b + 75) 2 (zc w b C0 M r0)).bind _
      cases mX9_fail N (b + 75) 2 (zc w b C0 M r0) <;> rfl
  · obtain ⟨so, cl, n, hk⟩ := hR.2.1.pk hw hR.1 hd2
    have ef0 : ∀ M0, _ := fun M0 => zd_fault (N := N) (w := w) (b := b) (r := r) (use := 4) (i := (M.2 45 (12 * f0 + (t + 1))).toInt32) hw hK30 hk (by decide) M0
    have ew0 : ∀ C0 r0, _ := fun C0 r0 => zn_wrong (N := N) (w := w) (b := b) (use := 4) (op := 50) (v := M.2 45 (12 * f0 + (t + 1))) hk (by decide) (by decide) hint C0 r0
    rw [← hre] at ef0
    rw [← hv] at ew0
    by_cases c1 : zok 4 so = true
    · simp only [if_pos c1] at ef0 ew0
      by_cases c2 : 0 ≤ (M.2 45 (12 * f0 + (t + 1))).toInt32 ∧ (M.2 45 (12 * f0 + (t + 1))).toInt32 < Int32.ofNat n
      · simp only [if_pos c2] at ef0 ew0
        have ef : ∀ M0, mX4_faultOfElement N (b + 15) 4 (C.1 (f0 + 140) (16 + t)) (M.2 45 (12 * f0 + (t + 1))).toInt32 (zc w b C M0 r) = some (zc w b C M0 r, 0) := ef0
        have ewr : ∀ C0 r0, mX9_wrong N (b + 75) 50 (M.2 45 (12 * f0 + t)) (M.2 45 (12 * f0 + (t + 1))) (zc w b C0 M r0) = some (zc w b C0 M r0, 0) := ew0
        obtain ⟨k, hk1, hk2⟩ := zi_of c2.1
        have hkn : k < n := by
          have := c2.2
          rw [hk1, zi_lt hk2 (by have := hk.2.2.2.2.2.1; omega)] at this
          exact this
        have hso0 : so ≠ 0 := fun e => by rw [e] at c1; exact absurd c1 (by decide)
        have ee : ∀ M0, mX2_element N (b + 16) (C.1 (f0 + 140) (16 + t)) (M.2 45 (12 * f0 + (t + 1))).toInt32 (zc w b C M0 r) = some (zc w b C M0 r, zel so (fun j => C.1 17 (zha C u + 2 + j)) k) := fun M0 => by
          rw [hre, hk1]
          exact zd_element (N := N) (w := w) (b := b) (r := r) hw hk hso0 hkn M0
        obtain ⟨q1, q2, q3, q4, q5, q6, q7, q8, q9, q10, q11, q12, q13, q14, q15, q16, q17, q18⟩ := hk
        have hq := q18 k hkn
        have hso : so = 12 := by simpa [zok] using c1
        rw [if_pos (Or.inl hso)] at hq
        have hel : zel so (fun j => C.1 17 (zha C u + 2 + j)) k = (C.1 17 (zha C u + 2 + k)).toInt64 := by rw [hso]; rfl
        rw [hel] at ee
        have hp := (hd.pushR (by omega) hq).go (p + 1)
        refine zStp_q hR hO hφ (t' := t + 1) (p' := p + 1) (lt' := lt) (st' := zset st t 3) ⟨_, _, fun M0 => ?_, fun C0 r0 => ?_, hp, zTop.rf.i2.pr.i2, (zTopM.rf.d.p (by omega)).go⟩ ⟨l3, by rw [zrv_push]; exact h3', h4'⟩
        · have e3 : mX1_drop N (b + (3 * f0 + 27)) 2 (zc w b C M0 r) = some (zc w b (zI C (f0 + 100) 2 (Int32.ofNat (16 + t))) M0 r) := zf_drop (N := N) (w := w) (b := b) (r := r) (t := t + 2) (k := 2) h1 a1 a3 (by omega) M0
          have kk : (zI C (f0 + 100) 2 (Int32.ofNat (16 + t))).2.2 15 5 = .ref (b + (3 * f0 + 27)) := h2
          have e4 : mX1_pushReference N (b + (3 * f0 + 27)) (C.1 17 (zha C u + 2 + k)) (zc w b (zI C (f0 + 100) 2 (Int32.ofNat (16 + t))) M0 r) = some (zc w b (zPR (zI C (f0 + 100) 2 (Int32.ofNat (16 + t))) f0 t (C.1 17 (zha C u + 2 + k))) M0 r) := zf_pushReference (t := t) h1 zp2_I2 (by omega) _ M0
          have e5 : mX4_goOn N (b + 15) 1 (zc w b (zPR (zI C (f0 + 100) 2 (Int32.ofNat (16 + t))) f0 t (C.1 17 (zha C u + 2 + k))) M0 r) = some (zc w b (zI (zPR (zI C (f0 + 100) 2 (Int32.ofNat (16 + t))) f0 t (C.1 17 (zha C u + 2 + k))) (f0 + 100) 4 (Int32.ofNat (p + 1))) M0 r, 0) := zf_goOn (C := zPR (zI C (f0 + 100) 2 (Int32.ofNat (16 + t))) f0 t (C.1 17 (zha C u + 2 + k))) (n := 1) (p := p) h1 h2 (zp4_PR.trans (zp4_I2.trans a4)) M0
          rw [hs, zd_loadG (op := 50) h1 h2 (ga M0) (gi M0) (ef M0) (ee M0) e3 kk (by rw [if_pos rfl, Int32.toInt32_toInt64]; exact e4) e5]
          rfl
        · have f1 : mX9_popValue N (b + 75) (zc w b C0 M r0) = some (zc w b C0 (zMD M f0 (t + 1)) r0, M.2 45 (12 * f0 + (t + 1))) := zn_pop (N := N) (w := w) (b := b) (M := M) (t := t + 1) h1 h3 a2 (by omega) C0 r0
          have f2 : mX9_popValue N (b + 75) (zc w b C0 (zMD M f0 (t + 1)) r0) = some (zc w b C0 (zMD M f0 t) r0, M.2 45 (12 * f0 + t)) := by
            have := zn_pop (N := N) (w := w) (b := b) (M := zMD M f0 (t + 1)) (t := t) h1 (zmd100.trans h3) zmd42 (by omega) C0 r0
            rw [zMDD] at this; exact this
          have eb : zm_aI (zc w b C0 (zMD M f0 t) r0) (b + 101) (Int32.ofNat tt) = some (Int32.ofNat (zgb M tt)) := by
            rw [zqa_101 q2]
            unfold zMD
            rw [zJ1, if_neg (by omega)]
            exact congrArg some (zN_of _).symm
          have ecl : zm_aL (zc w b C0 (zMD M f0 t) r0) (b + 103) (Int32.ofNat (zgb M tt) + (M.2 45 (12 * f0 + (t + 1))).toInt32) = some (M.2 37 (zgb M tt + k)) := by
            rw [hk1, zi_add, zqa_103 (by omega)]
            rfl
          have f8 : mX9_pushValue N (b + 75) 3 (M.2 37 (zgb M tt + k)) (zc w b C0 (zMD M f0 t) r0) = some (zc w b C0 (zMP (zMD M f0 t) f0 t 3 (M.2 37 (zgb M tt + k))) r0) := zn_push (N := N) (w := w) (b := b) (M := zMD M f0 t) (t := t) h1 (zmd100.trans h3) zmd42 (by omega) 3 _ C0 r0
          have f9 : mX9_step_327 N (b + 75) (Int32.ofNat f0) (Int32.ofNat p) 1 (zc w b C0 (zMP (zMD M f0 t) f0 t 3 (M.2 37 (zgb M tt + k))) r0) = some (zc w b C0 (zJ (zMP (zMD M f0 t) f0 t 3 (M.2 37 (zgb M tt + k))) 41 f0 (Int32.ofNat (p + 1))) r0) := zn_on (N := N) (w := w) (b := b) (M := zMP (zMD M f0 t) f0 t 3 (M.2 37 (zgb M tt + k))) (p := p) (n := 1) h1 (zmp100.trans (zmd100.trans h4)) (zmp100.trans (zmd100.trans h5)) C0 r0
          have ak : ∀ x, mX9_arrayKind N 50 x = some (x, 3) := fun x => by
            unfold mX9_arrayKind mX9_arrayKind_0 mX9_arrayKind_17 mX9_arrayKind_37
            simp (decide := true) only [Int32.reduceLT, Int32.reduceLE, Int32.reduceAdd, Int32.reduceSub, Int32.reduceMul, Int32.reduceDiv, Int32.reduceMod, ↓reduceIte, Option.bind_some]
          rw [fs, zn_fetchG (op := 50) zqk_75 zqk_75 zqk_75 (fp0 C0 r0) (fp1 C0 r0) (ewr C0 r0) f1 f2 (ak _) zqg_75_37 zqg_75_34 (by rw [hti]; exact eb) ecl f8, Option.bind_some]
          exact f9
      · simp only [if_neg c2] at ef0 ew0
        have ef : ∀ M0, mX4_faultOfElement N (b + 15) 4 (C.1 (f0 + 140) (16 + t)) (M.2 45 (12 * f0 + (t + 1))).toInt32 (zc w b C M0 r) = some (zc w b C M0 r, 3) := ef0
        have ewr : ∀ C0 r0, mX9_wrong N (b + 75) 50 (M.2 45 (12 * f0 + t)) (M.2 45 (12 * f0 + (t + 1))) (zc w b C0 M r0) = some (zc w b C0 M r0, 3) := ew0
        refine zStp_e (e := 3) hN hw hS h7 hR hO (by decide) (fun M0 => ?_) (Or.inl ⟨Int32.ofNat f0, Int32.ofNat p, 1, fun C0 r0 => ?_⟩)
        · rw [hs, zd_loadE (op := 50) (e := 3) h1 h2 (ga M0) (gi M0) (ef M0) (by decide)]
          rfl
        · rw [fs, zn_fetchE (op := 50) (e := 3) zqk_75 (fp0 C0 r0) (fp1 C0 r0) (ewr C0 r0) (by decide)]
          show Option.bind _ _ = (mX9_fail N (b + 75) 3 (zc w b C0 M r0)).bind _
          cases mX9_fail N (b + 75) 3 (zc w b C0 M r0) <;> rfl
    · simp only [if_neg c1] at ef0 ew0
      have ef : ∀ M0, mX4_faultOfElement N (b + 15) 4 (C.1 (f0 + 140) (16 + t)) (M.2 45 (12 * f0 + (t + 1))).toInt32 (zc w b C M0 r) = some (zc w b C M0 r, 5) := ef0
      have ewr : ∀ C0 r0, mX9_wrong N (b + 75) 50 (M.2 45 (12 * f0 + t)) (M.2 45 (12 * f0 + (t + 1))) (zc w b C0 M r0) = some (zc w b C0 M r0, 5) := ew0
      refine zStp_e (e := 5) hN hw hS h7 hR hO (by decide) (fun M0 => ?_) (Or.inl ⟨Int32.ofNat f0, Int32.ofNat p, 1, fun C0 r0 => ?_⟩)
      · rw [hs, zd_loadE (op := 50) (e := 5) h1 h2 (ga M0) (gi M0) (ef M0) (by decide)]
        rfl
      · rw [fs, zn_fetchE (op := 50) (e := 5) zqk_75 (fp0 C0 r0) (fp1 C0 r0) (ewr C0 r0) (by decide)]
        show Option.bind _ _ = (mX9_fail N (b + 75) 5 (zc w b C0 M r0)).bind _
        cases mX9_fail N (b + 75) 5 (zc w b C0 M r0) <;> rfl

theorem zs_51 (hN : 1700 < N) (hw : w ≤ 400) (hS : S + 1 < 2 ^ 31) (h7 : ∀ k, k < 7 → F k = 0) (hR : zRn w b K F ρ α π r Q D C M S f0 φ) (hO : zOn C M) (hφ : φ f0 = (t, p, m, lt, st)) (hop : uC (Q.2.2.1 m) p = 51) : zStp N w b K F ρ α π r Q C M S := by
  obtain ⟨hc, hm, hK, l', hl, s1, hp, s2, l2, hh, hlen, hfl⟩ := hR.ty hO hφ hop
  have hh : some (s1, l') = some (s2, l2) := hh
  cases hh
  have hp : zpop [1, 3] (zrv st t) = some s1 := hp
  obtain ⟨t, rfl, k0, hp⟩ := zpopc hp
  obtain ⟨t, rfl, k1, hp⟩ := zpopc hp
  have hp := zpop0 hp
  subst hp
  have hc' := hc
  have hD := hR.2.1.1
  have hK30 := hR.1.2.2.2.1
  obtain ⟨h1, h2, h3, h4, h5, hfr, _, h8, h9, h10, h11, h12⟩ := hc
  have hfr0 := hfr
  obtain ⟨a1, a2, a3, a4, a5, a6, a7, a8, a9⟩ := hfr
  rw [hop] at h12
  have h12 : p + 1 ≤ uLen (Q.2.2.1 m) := h12
  have e0 : ∀ M0, mX1_opcode N (b + (3 * f0 + 27)) (zc w b C M0 r) = some (zc w b C M0 r, 51) := fun M0 => ze_step0 (N := N) (w := w) hc' hop M0
  have fstep : ∀ C0 r0, mX9_step N (b + 75) (zc w b C0 M r0) = mX9_step_74 N (b + 75) (Int32.ofNat f0) (Int32.ofNat m) (Int32.ofNat p) 51 1 0 0 (zc w b C0 M r0) := fun C0 r0 => zn_step (N := N) (w := w) hc' hop (n := 1) rfl rfl rfl C0 r0
  have hd := hfr0.drop (t' := t) (by omega)
  have u0 := (a9 (t + 1) (by omega)).2.2.2
  rw [k0] at u0
  have n0 := u0.num (Or.inl rfl)
  have hint := u0.int
  have u1 := (a9 t (by omega)).2.2.2
  rw [k1] at u1
  have gi : ∀ M0, mX1_number N (b + (3 * f0 + 27)) 0 (zc w b C M0 r) = some (zc w b C M0 r, M.2 45 (12 * f0 + (t + 1))) := fun M0 => by
    have := zf_number (N := N) (w := w) (b := b) (C := C) (r := r) (t := t + 2) (k := 0) h1 a1 a3 (by omega) M0
    rw [show 15 + (t + 2) - 0 = 16 + (t + 1) by omega, n0.1] at this
    exact this
  have ga : ∀ M0, mX1_reference N (b + (3 * f0 + 27)) 1 (zc w b C M0 r) = some (zc w b C M0 r, C.1 (f0 + 140) (16 + t)) := fun M0 => by
    have := zf_reference (N := N) (w := w) (b := b) (C := C) (r := r) (t := t + 2) (k := 1) h1 a1 a3 (by omega) M0
    rw [show 15 + (t + 2) - 1 = 16 + t by omega] at this
    exact this
  have fp0 : ∀ C0 r0, mX9_peek N (b + 75) 0 (zc w b C0 M r0) = some (zc w b C0 M r0, M.2 45 (12 * f0 + (t + 1))) := fun C0 r0 => zn_peek (N := N) (w := w) (b := b) (M := M) (t := t + 2) (k := 0) h1 h3 a2 a3 (by omega) C0 r0
  have fp1 : ∀ C0 r0, mX9_peek N (b + 75) 1 (zc w b C0 M r0) = some (zc w b C0 M r0, M.2 45 (12 * f0 + t)) := fun C0 r0 => zn_peek (N := N) (w := w) (b := b) (M := M) (t := t + 2) (k := 1) h1 h3 a2 a3 (by omega) C0 r0
  obtain ⟨l3, h3', h4'⟩ := (hfl lt hl).2 (by unfold zgoes; decide)
  have hs : ∀ M0, mX4_step N (b + 15) (zc w b C M0 r) = (mX4_loadElement N (b + 15) 51 (zc w b C M0 r)).bind fun o => some (o.1, o.2) := fun M0 => by
    simp (decide := true) only [mX4_step_107, mX4_step_249, mX4_step_0, mX4_step, e0, zqg_15_5 h2, zqkF h1, id, zqk_15, zqk_16, zqg_15_2, Option.map_some, Int32.reduceLT, Int32.reduceLE, Int32.reduceAdd, Int32.reduceSub, Int32.reduceMul, Int32.reduceDiv, Int32.reduceMod, ↓reduceIte, Option.bind_some]
  have fs : ∀ C0 r0, mX9_step N (b + 75) (zc w b C0 M r0) = (mX9_doFetch N (b + 75) 51 (zc w b C0 M r0)).bind fun o => mX9_step_327 N (b + 75) (Int32.ofNat f0) (Int32.ofNat p) 1 o := fun C0 r0 => by
    refine (fstep C0 r0).trans ?_
    simp (decide := true) only [mX9_step_74, zqk_75, id, Option.map_some, Int32.reduceLT, Int32.reduceLE, Int32.reduceAdd, Int32.reduceSub, Int32.reduceMul, Int32.reduceDiv, Int32.reduceMod, ↓reduceIte, Option.bind_some]
  rcases zRf.cs hD u1.ref with ⟨hz, hv⟩ | ⟨u, tt, hd2, hre, hv, hz, hzm, hti⟩
  · have hzm : lg_cmp (M.2 45 (12 * f0 + t)) 0 = 0 := zw_cmp.mpr hv
    have ef : ∀ M0, mX4_faultOfElement N (b + 15) 5 (C.1 (f0 + 140) (16 + t)) (M.2 45 (12 * f0 + (t + 1))).toInt32 (zc w b C M0 r) = some (zc w b C M0 r, 2) := fun M0 => by
      unfold mX4_faultOfElement mX4_faultOfElement_0
      rw [if_pos hz]
    have ewr : ∀ C0 r0, mX9_wrong N (b + 75) 51 (M.2 45 (12 * f0 + t)) (M.2 45 (12 * f0 + (t + 1))) (zc w b C0 M r0) = some (zc w b C0 M r0, 2) := fun C0 r0 => by
      unfold mX9_wrong mX9_wrong_0
      rw [if_pos hzm]
    refine zStp_e (e := 2) hN hw hS h7 hR hO (by decide) (fun M0 => ?_) (Or.inl ⟨Int32.ofNat f0, Int32.ofNat p, 1, fun C0 r0 => ?_⟩)
    · rw [hs, zd_loadE (op := 51) (e := 2) h1 h2 (ga M0) (gi M0) (ef M0) (by decide)]
      rfl
    · rw [fs, zn_fetchE (op := 51) (e := 2) zqk_75 (fp0 C0 r0) (fp1 C0 r0) (ewr C0 r0) (by decide)]
      show Option.bind _ _ = (mX9_fail N (b + 75) 2 (zc w b C0 M r0)).bind _
      cases mX9_fail N (b + 75) 2 (zc w b C0 M r0) <;> rfl
  · obtain ⟨so, cl, n, hk⟩ := hR.2.1.pk hw hR.1 hd2
    have ef0 : ∀ M0, _ := fun M0 => zd_fault (N := N) (w := w) (b := b) (r := r) (use := 5) (i := (M.2 45 (12 * f0 + (t + 1))).toInt32) hw hK30 hk (by decide) M0
    have ew0 : ∀ C0 r0, _ := fun C0 r0 => zn_wrong (N := N) (w := w) (b := b) (use := 5) (op := 51) (v := M.2 45 (12 * f0 + (t + 1))) hk (by decide) (by decide) hint C0 r0
    rw [← hre] at ef0
    rw [← hv] at ew0
    by_cases c1 : zok 5 so = true
    · simp only [if_pos c1] at ef0 ew0
      by_cases c2 : 0 ≤ (M.2 45 (12 * f0 + (t + 1))).toInt32 ∧ (M.2 45 (12 * f0 + (t + 1))).toInt32 < Int32.ofNat n
      · simp only [if_pos c2] at ef0 ew0
        have ef : ∀ M0, mX4_faultOfElement N (b + 15) 5 (C.1 (f0 + 140) (16 + t)) (M.2 45 (12 * f0 + (t + 1))).toInt32 (zc w b C M0 r) = some (zc w b C M0 r, 0) := ef0
        have ewr : ∀ C0 r0, mX9_wrong N (b + 75) 51 (M.2 45 (12 * f0 + t)) (M.2 45 (12 * f0 + (t + 1))) (zc w b C0 M r0) = some (zc w b C0 M r0, 0) := ew0
        obtain ⟨k, hk1, hk2⟩ := zi_of c2.1
        have hkn : k < n := by
          have := c2.2
          rw [hk1, zi_lt hk2 (by have := hk.2.2.2.2.2.1; omega)] at this
          exact this
        have hso0 : so ≠ 0 := fun e => by rw [e] at c1; exact absurd c1 (by decide)
        have ee : ∀ M0, mX2_element N (b + 16) (C.1 (f0 + 140) (16 + t)) (M.2 45 (12 * f0 + (t + 1))).toInt32 (zc w b C M0 r) = some (zc w b C M0 r, zel so (fun j => C.1 17 (zha C u + 2 + j)) k) := fun M0 => by
          rw [hre, hk1]
          exact zd_element (N := N) (w := w) (b := b) (r := r) hw hk hso0 hkn M0
        obtain ⟨q1, q2, q3, q4, q5, q6, q7, q8, q9, q10, q11, q12, q13, q14, q15, q16, q17, q18⟩ := hk
        have hq := q18 k hkn
        have hso : so ≠ 12 := fun e => by rw [e] at c1; exact absurd c1 (by decide)
        rw [if_neg (by omega)] at hq
        have hso11 : so ≠ 11 := fun e => by rw [e] at c1; exact absurd c1 (by decide)
        obtain ⟨ii, hii⟩ := zel_int so k (fun j => C.1 17 (zha C u + 2 + j)) hso11
        have hp := (hd.pushN (by omega) (zSl.mk1 ii) (Or.inl rfl)).go (p + 1)
        rw [← hii, ← hq] at hp
        rw [← hq] at ee
        refine zStp_q hR hO hφ (t' := t + 1) (p' := p + 1) (lt' := lt) (st' := zset st t 1) ⟨_, _, fun M0 => ?_, fun C0 r0 => ?_, hp, zTop.rf.i2.pn.i2, (zTopM.rf.d.p (by omega)).go⟩ ⟨l3, by rw [zrv_push]; exact h3', h4'⟩
        · have e3 : mX1_drop N (b + (3 * f0 + 27)) 2 (zc w b C M0 r) = some (zc w b (zI C (f0 + 100) 2 (Int32.ofNat (16 + t))) M0 r) := zf_drop (N := N) (w := w) (b := b) (r := r) (t := t + 2) (k := 2) h1 a1 a3 (by omega) M0
          have kk : (zI C (f0 + 100) 2 (Int32.ofNat (16 + t))).2.2 15 5 = .ref (b + (3 * f0 + 27)) := h2
          have e4 : mX1_pushNumber N (b + (3 * f0 + 27)) (M.2 37 (zgb M tt + k)) (zc w b (zI C (f0 + 100) 2 (Int32.ofNat (16 + t))) M0 r) = some (zc w b (zPN (zI C (f0 + 100) 2 (Int32.ofNat (16 + t))) f0 t (M.2 37 (zgb M tt + k))) M0 r) := zf_pushNumber (t := t) h1 zp2_I2 (by omega) _ M0
          have e5 : mX4_goOn N (b + 15) 1 (zc w b (zPN (zI C (f0 + 100) 2 (Int32.ofNat (16 + t))) f0 t (M.2 37 (zgb M tt + k))) M0 r) = some (zc w b (zI (zPN (zI C (f0 + 100) 2 (Int32.ofNat (16 + t))) f0 t (M.2 37 (zgb M tt + k))) (f0 + 100) 4 (Int32.ofNat (p + 1))) M0 r, 0) := zf_goOn (C := zPN (zI C (f0 + 100) 2 (Int32.ofNat (16 + t))) f0 t (M.2 37 (zgb M tt + k))) (n := 1) (p := p) h1 h2 (zp4_PN.trans (zp4_I2.trans a4)) M0
          rw [hs, zd_loadG (op := 51) h1 h2 (ga M0) (gi M0) (ef M0) (ee M0) e3 kk (by rw [if_neg (by decide)]; exact e4) e5]
          rfl
        · have f1 : mX9_popValue N (b + 75) (zc w b C0 M r0) = some (zc w b C0 (zMD M f0 (t + 1)) r0, M.2 45 (12 * f0 + (t + 1))) := zn_pop (N := N) (w := w) (b := b) (M := M) (t := t + 1) h1 h3 a2 (by omega) C0 r0
          have f2 : mX9_popValue N (b + 75) (zc w b C0 (zMD M f0 (t + 1)) r0) = some (zc w b C0 (zMD M f0 t) r0, M.2 45 (12 * f0 + t)) := by
            have := zn_pop (N := N) (w := w) (b := b) (M := zMD M f0 (t + 1)) (t := t) h1 (zmd100.trans h3) zmd42 (by omega) C0 r0
            rw [zMDD] at this; exact this
          have eb : zm_aI (zc w b C0 (zMD M f0 t) r0) (b + 101) (Int32.ofNat tt) = some (Int32.ofNat (zgb M tt)) := by
            rw [zqa_101 q2]
            unfold zMD
            rw [zJ1, if_neg (by omega)]
            exact congrArg some (zN_of _).symm
          have ecl : zm_aL (zc w b C0 (zMD M f0 t) r0) (b + 103) (Int32.ofNat (zgb M tt) + (M.2 45 (12 * f0 + (t + 1))).toInt32) = some (M.2 37 (zgb M tt + k)) := by
            rw [hk1, zi_add, zqa_103 (by omega)]
            rfl
          have f8 : mX9_pushValue N (b + 75) 1 (M.2 37 (zgb M tt + k)) (zc w b C0 (zMD M f0 t) r0) = some (zc w b C0 (zMP (zMD M f0 t) f0 t 1 (M.2 37 (zgb M tt + k))) r0) := zn_push (N := N) (w := w) (b := b) (M := zMD M f0 t) (t := t) h1 (zmd100.trans h3) zmd42 (by omega) 1 _ C0 r0
          have f9 : mX9_step_327 N (b + 75) (Int32.ofNat f0) (Int32.ofNat p) 1 (zc w b C0 (zMP (zMD M f0 t) f0 t 1 (M.2 37 (zgb M tt + k))) r0) = some (zc w b C0 (zJ (zMP (zMD M f0 t) f0 t 1 (M.2 37 (zgb M tt + k))) 41 f0 (Int32.ofNat (p + 1))) r0) := zn_on (N := N) (w := w) (b := b) (M := zMP (zMD M f0 t) f0 t 1 (M.2 37 (zgb M tt + k))) (p := p) (n := 1) h1 (zmp100.trans (zmd100.trans h4)) (zmp100.trans (zmd100.trans h5)) C0 r0
          have ak : ∀ x, mX9_arrayKind N 51 x = some (x, 1) := fun x => by
            unfold mX9_arrayKind mX9_arrayKind_0 mX9_arrayKind_17 mX9_arrayKind_37
            simp (decide := true) only [Int32.reduceLT, Int32.reduceLE, Int32.reduceAdd, Int32.reduceSub, Int32.reduceMul, Int32.reduceDiv, Int32.reduceMod, ↓reduceIte, Option.bind_some]
          rw [fs, zn_fetchG (op := 51) zqk_75 zqk_75 zqk_75 (fp0 C0 r0) (fp1 C0 r0) (ewr C0 r0) f1 f2 (ak _) zqg_75_37 zqg_75_34 (by rw [hti]; exact eb) ecl f8, Option.bind_some]
          exact f9
      · simp only [if_neg c2] at ef0 ew0
        have ef : ∀ M0, mX4_faultOfElement N (b + 15) 5 (C.1 (f0 + 140) (16 + t)) (M.2 45 (12 * f0 + (t + 1))).toInt32 (zc w b C M0 r) = some (zc w b C M0 r, 3) := ef0
        have ewr : ∀ C0 r0, mX9_wrong N (b + 75) 51 (M.2 45 (12 * f0 + t)) (M.2 45 (12 * f0 + (t + 1))) (zc w b C0 M r0) = some (zc w b C0 M r0, 3) := ew0
        refine zStp_e (e := 3) hN hw hS h7 hR hO (by decide) (fun M0 => ?_) (Or.inl ⟨Int32.ofNat f0, Int32.ofNat p, 1, fun C0 r0 => ?_⟩)
        · rw [hs, zd_loadE (op := 51) (e := 3) h1 h2 (ga M0) (gi M0) (ef M0) (by decide)]
          rfl
        · rw [fs, zn_fetchE (op := 51) (e := 3) zqk_75 (fp0 C0 r0) (fp1 C0 r0) (ewr C0 r0) (by decide)]
          show Option.bind _ _ = (mX9_fail N (b + 75) 3 (zc w b C0 M r0)).bind _
          cases mX9_fail N (b + 75) 3 (zc w b C0 M r0) <;> rfl
    · simp only [if_neg c1] at ef0 ew0
      have ef : ∀ M0, mX4_faultOfElement N (b + 15) 5 (C.1 (f0 + 140) (16 + t)) (M.2 45 (12 * f0 + (t + 1))).toInt32 (zc w b C M0 r) = some (zc w b C M0 r, 5) := ef0
      have ewr : ∀ C0 r0, mX9_wrong N (b + 75) 51 (M.2 45 (12 * f0 + t)) (M.2 45 (12 * f0 + (t + 1))) (zc w b C0 M r0) = some (zc w b C0 M r0, 5) := ew0
      refine zStp_e (e := 5) hN hw hS h7 hR hO (by decide) (fun M0 => ?_) (Or.inl ⟨Int32.ofNat f0, Int32.ofNat p, 1, fun C0 r0 => ?_⟩)
      · rw [hs, zd_loadE (op := 51) (e := 5) h1 h2 (ga M0) (gi M0) (ef M0) (by decide)]
        rfl
      · rw [fs, zn_fetchE (op := 51) (e := 5) zqk_75 (fp0 C0 r0) (fp1 C0 r0) (ewr C0 r0) (by decide)]
        show Option.bind _ _ = (mX9_fail N (b + 75) 5 (zc w b C0 M r0)).bind _
        cases mX9_fail N (b + 75) 5 (zc w b C0 M r0) <;> rfl

theorem zs_52 (hN : 1700 < N) (hw : w ≤ 400) (hS : S + 1 < 2 ^ 31) (h7 : ∀ k, k < 7 → F k = 0) (hR : zRn w b K F ρ α π r Q D C M S f0 φ) (hO : zOn C M) (hφ : φ f0 = (t, p, m, lt, st)) (hop : uC (Q.2.2.1 m) p = 52) : zStp N w b K F ρ α π r Q C M S := by
  obtain ⟨hc, hm, hK, l', hl, s1, hp, s2, l2, hh, hlen, hfl⟩ := hR.ty hO hφ hop
  have hh : some (s1, l') = some (s2, l2) := hh
  cases hh
  have hp : zpop [1, 3] (zrv st t) = some s1 := hp
  obtain ⟨t, rfl, k0, hp⟩ := zpopc hp
  obtain ⟨t, rfl, k1, hp⟩ := zpopc hp
  have hp := zpop0 hp
  subst hp
  have hc' := hc
  have hD := hR.2.1.1
  have hK30 := hR.1.2.2.2.1
  obtain ⟨h1, h2, h3, h4, h5, hfr, _, h8, h9, h10, h11, h12⟩ := hc
  have hfr0 := hfr
  obtain ⟨a1, a2, a3, a4, a5, a6, a7, a8, a9⟩ := hfr
  rw [hop] at h12
  have h12 : p + 1 ≤ uLen (Q.2.2.1 m) := h12
  have e0 : ∀ M0, mX1_opcode N (b + (3 * f0 + 27)) (zc w b C M0 r) = some (zc w b C M0 r, 52) := fun M0 => ze_step0 (N := N) (w := w) hc' hop M0
  have fstep : ∀ C0 r0, mX9_step N (b + 75) (zc w b C0 M r0) = mX9_step_74 N (b + 75) (Int32.ofNat f0) (Int32.ofNat m) (Int32.ofNat p) 52 1 0 0 (zc w b C0 M r0) := fun C0 r0 => zn_step (N := N) (w := w) hc' hop (n := 1) rfl rfl rfl C0 r0
  have hd := hfr0.drop (t' := t) (by omega)
  have u0 := (a9 (t + 1) (by omega)).2.2.2
  rw [k0] at u0
  have n0 := u0.num (Or.inl rfl)
  have hint := u0.int
  have u1 := (a9 t (by omega)).2.2.2
  rw [k1] at u1
  have gi : ∀ M0, mX1_number N (b + (3 * f0 + 27)) 0 (zc w b C M0 r) = some (zc w b C M0 r, M.2 45 (12 * f0 + (t + 1))) := fun M0 => by
    have := zf_number (N := N) (w := w) (b := b) (C := C) (r := r) (t := t + 2) (k := 0) h1 a1 a3 (by omega) M0
    rw [show 15 + (t + 2) - 0 = 16 + (t + 1) by omega, n0.1] at this
    exact this
  have ga : ∀ M0, mX1_reference N (b + (3 * f0 + 27)) 1 (zc w b C M0 r) = some (zc w b C M0 r, C.1 (f0 + 140) (16 + t)) := fun M0 => by
    have := zf_reference (N := N) (w := w) (b := b) (C := C) (r := r) (t := t + 2) (k := 1) h1 a1 a3 (by omega) M0
    rw [show 15 + (t + 2) - 1 = 16 + t by omega] at this
    exact this
  have fp0 : ∀ C0 r0, mX9_peek N (b + 75) 0 (zc w b C0 M r0) = some (zc w b C0 M r0, M.2 45 (12 * f0 + (t + 1))) := fun C0 r0 => zn_peek (N := N) (w := w) (b := b) (M := M) (t := t + 2) (k := 0) h1 h3 a2 a3 (by omega) C0 r0
  have fp1 : ∀ C0 r0, mX9_peek N (b + 75) 1 (zc w b C0 M r0) = some (zc w b C0 M r0, M.2 45 (12 * f0 + t)) := fun C0 r0 => zn_peek (N := N) (w := w) (b := b) (M := M) (t := t + 2) (k := 1) h1 h3 a2 a3 (by omega) C0 r0
  obtain ⟨l3, h3', h4'⟩ := (hfl lt hl).2 (by unfold zgoes; decide)
  have hs : ∀ M0, mX4_step N (b + 15) (zc w b C M0 r) = (mX4_loadElement N (b + 15) 52 (zc w b C M0 r)).bind fun o => some (o.1, o.2) := fun M0 => by
    simp (decide := true) only [mX4_step_107, mX4_step_249, mX4_step_0, mX4_step, e0, zqg_15_5 h2, zqkF h1, id, zqk_15, zqk_16, zqg_15_2, Option.map_some, Int32.reduceLT, Int32.reduceLE, Int32.reduceAdd, Int32.reduceSub, Int32.reduceMul, Int32.reduceDiv, Int32.reduceMod, ↓reduceIte, Option.bind_some]
  have fs : ∀ C0 r0, mX9_step N (b + 75) (zc w b C0 M r0) = (mX9_doFetch N (b + 75) 52 (zc w b C0 M r0)).bind fun o => mX9_step_327 N (b + 75) (Int32.ofNat f0) (Int32.ofNat p) 1 o := fun C0 r0 => by
    refine (fstep C0 r0).trans ?_
    simp (decide := true) only [mX9_step_74, zqk_75, id, Option.map_some, Int32.reduceLT, Int32.reduceLE, Int32.reduceAdd, Int32.reduceSub, Int32.reduceMul, Int32.reduceDiv, Int32.reduceMod, ↓reduceIte, Option.bind_some]
  rcases zRf.cs hD u1.ref with ⟨hz, hv⟩ | ⟨u, tt, hd2, hre, hv, hz, hzm, hti⟩
  · have hzm : lg_cmp (M.2 45 (12 * f0 + t)) 0 = 0 := zw_cmp.mpr hv
    have ef : ∀ M0, mX4_faultOfElement N (b + 15) 6 (C.1 (f0 + 140) (16 + t)) (M.2 45 (12 * f0 + (t + 1))).toInt32 (zc w b C M0 r) = some (zc w b C M0 r, 2) := fun M0 => by
      unfold mX4_faultOfElement mX4_faultOfElement_0
      rw [if_pos hz]
    have ewr : ∀ C0 r0, mX9_wrong N (b + 75) 52 (M.2 45 (12 * f0 + t)) (M.2 45 (12 * f0 + (t + 1))) (zc w b C0 M r0) = some (zc w b C0 M r0, 2) := fun C0 r0 => by
      unfold mX9_wrong mX9_wrong_0
      rw [if_pos hzm]
    refine zStp_e (e := 2) hN hw hS h7 hR hO (by decide) (fun M0 => ?_) (Or.inl ⟨Int32.ofNat f0, Int32.ofNat p, 1, fun C0 r0 => ?_⟩)
    · rw [hs, zd_loadE (op := 52) (e := 2) h1 h2 (ga M0) (gi M0) (ef M0) (by decide)]
      rfl
    · rw [fs, zn_fetchE (op := 52) (e := 2) zqk_75 (fp0 C0 r0) (fp1 C0 r0) (ewr C0 r0) (by decide)]
      show Option.bind _ _ = (mX9_fail N (b + 75) 2 (zc w b C0 M r0)).bind _
      cases mX9_fail N (b + 75) 2 (zc w b C0 M r0) <;> rfl
  · obtain ⟨so, cl, n, hk⟩ := hR.2.1.pk hw hR.1 hd2
    have ef0 : ∀ M0, _ := fun M0 => zd_fault (N := N) (w := w) (b := b) (r := r) (use := 6) (i := (M.2 45 (12 * f0 + (t + 1))).toInt32) hw hK30 hk (by decide) M0
    have ew0 : ∀ C0 r0, _ := fun C0 r0 => zn_wrong (N := N) (w := w) (b := b) (use := 6) (op := 52) (v := M.2 45 (12 * f0 + (t + 1))) hk (by decide) (by decide) hint C0 r0
    rw [← hre] at ef0
    rw [← hv] at ew0
    by_cases c1 : zok 6 so = true
    · simp only [if_pos c1] at ef0 ew0
      by_cases c2 : 0 ≤ (M.2 45 (12 * f0 + (t + 1))).toInt32 ∧ (M.2 45 (12 * f0 + (t + 1))).toInt32 < Int32.ofNat n
      · simp only [if_pos c2] at ef0 ew0
        have ef : ∀ M0, mX4_faultOfElement N (b + 15) 6 (C.1 (f0 + 140) (16 + t)) (M.2 45 (12 * f0 + (t + 1))).toInt32 (zc w b C M0 r) = some (zc w b C M0 r, 0) := ef0
        have ewr : ∀ C0 r0, mX9_wrong N (b + 75) 52 (M.2 45 (12 * f0 + t)) (M.2 45 (12 * f0 + (t + 1))) (zc w b C0 M r0) = some (zc w b C0 M r0, 0) := ew0
        obtain ⟨k, hk1, hk2⟩ := zi_of c2.1
        have hkn : k < n := by
          have := c2.2
          rw [hk1, zi_lt hk2 (by have := hk.2.2.2.2.2.1; omega)] at this
          exact this
        have hso0 : so ≠ 0 := fun e => by rw [e] at c1; exact absurd c1 (by decide)
        have ee : ∀ M0, mX2_element N (b + 16) (C.1 (f0 + 140) (16 + t)) (M.2 45 (12 * f0 + (t + 1))).toInt32 (zc w b C M0 r) = some (zc w b C M0 r, zel so (fun j => C.1 17 (zha C u + 2 + j)) k) := fun M0 => by
          rw [hre, hk1]
          exact zd_element (N := N) (w := w) (b := b) (r := r) hw hk hso0 hkn M0
        obtain ⟨q1, q2, q3, q4, q5, q6, q7, q8, q9, q10, q11, q12, q13, q14, q15, q16, q17, q18⟩ := hk
        have hq := q18 k hkn
        have hso : so ≠ 12 := fun e => by rw [e] at c1; exact absurd c1 (by decide)
        rw [if_neg (by omega)] at hq
        have hso11 : so ≠ 11 := fun e => by rw [e] at c1; exact absurd c1 (by decide)
        obtain ⟨ii, hii⟩ := zel_int so k (fun j => C.1 17 (zha C u + 2 + j)) hso11
        have hp := (hd.pushN (by omega) (zSl.mk1 ii) (Or.inl rfl)).go (p + 1)
        rw [← hii, ← hq] at hp
        rw [← hq] at ee
        refine zStp_q hR hO hφ (t' := t + 1) (p' := p + 1) (lt' := lt) (st' := zset st t 1) ⟨_, _, fun M0 => ?_, fun C0 r0 => ?_, hp, zTop.rf.i2.pn.i2, (zTopM.rf.d.p (by omega)).go⟩ ⟨l3, by rw [zrv_push]; exact h3', h4'⟩
        · have e3 : mX1_drop N (b + (3 * f0 + 27)) 2 (zc w b C M0 r) = some (zc w b (zI C (f0 + 100) 2 (Int32.ofNat (16 + t))) M0 r) := zf_drop (N := N) (w := w) (b := b) (r := r) (t := t + 2) (k := 2) h1 a1 a3 (by omega) M0
          have kk : (zI C (f0 + 100) 2 (Int32.ofNat (16 + t))).2.2 15 5 = .ref (b + (3 * f0 + 27)) := h2
          have e4 : mX1_pushNumber N (b + (3 * f0 + 27)) (M.2 37 (zgb M tt + k)) (zc w b (zI C (f0 + 100) 2 (Int32.ofNat (16 + t))) M0 r) = some (zc w b (zPN (zI C (f0 + 100) 2 (Int32.ofNat (16 + t))) f0 t (M.2 37 (zgb M tt + k))) M0 r) := zf_pushNumber (t := t) h1 zp2_I2 (by omega) _ M0
          have e5 : mX4_goOn N (b + 15) 1 (zc w b (zPN (zI C (f0 + 100) 2 (Int32.ofNat (16 + t))) f0 t (M.2 37 (zgb M tt + k))) M0 r) = some (zc w b (zI (zPN (zI C (f0 + 100) 2 (Int32.ofNat (16 + t))) f0 t (M.2 37 (zgb M tt + k))) (f0 + 100) 4 (Int32.ofNat (p + 1))) M0 r, 0) := zf_goOn (C := zPN (zI C (f0 + 100) 2 (Int32.ofNat (16 + t))) f0 t (M.2 37 (zgb M tt + k))) (n := 1) (p := p) h1 h2 (zp4_PN.trans (zp4_I2.trans a4)) M0
          rw [hs, zd_loadG (op := 52) h1 h2 (ga M0) (gi M0) (ef M0) (ee M0) e3 kk (by rw [if_neg (by decide)]; exact e4) e5]
          rfl
        · have f1 : mX9_popValue N (b + 75) (zc w b C0 M r0) = some (zc w b C0 (zMD M f0 (t + 1)) r0, M.2 45 (12 * f0 + (t + 1))) := zn_pop (N := N) (w := w) (b := b) (M := M) (t := t + 1) h1 h3 a2 (by omega) C0 r0
          have f2 : mX9_popValue N (b + 75) (zc w b C0 (zMD M f0 (t + 1)) r0) = some (zc w b C0 (zMD M f0 t) r0, M.2 45 (12 * f0 + t)) := by
            have := zn_pop (N := N) (w := w) (b := b) (M := zMD M f0 (t + 1)) (t := t) h1 (zmd100.trans h3) zmd42 (by omega) C0 r0
            rw [zMDD] at this; exact this
          have eb : zm_aI (zc w b C0 (zMD M f0 t) r0) (b + 101) (Int32.ofNat tt) = some (Int32.ofNat (zgb M tt)) := by
            rw [zqa_101 q2]
            unfold zMD
            rw [zJ1, if_neg (by omega)]
            exact congrArg some (zN_of _).symm
          have ecl : zm_aL (zc w b C0 (zMD M f0 t) r0) (b + 103) (Int32.ofNat (zgb M tt) + (M.2 45 (12 * f0 + (t + 1))).toInt32) = some (M.2 37 (zgb M tt + k)) := by
            rw [hk1, zi_add, zqa_103 (by omega)]
            rfl
          have f8 : mX9_pushValue N (b + 75) 1 (M.2 37 (zgb M tt + k)) (zc w b C0 (zMD M f0 t) r0) = some (zc w b C0 (zMP (zMD M f0 t) f0 t 1 (M.2 37 (zgb M tt + k))) r0) := zn_push (N := N) (w := w) (b := b) (M := zMD M f0 t) (t := t) h1 (zmd100.trans h3) zmd42 (by omega) 1 _ C0 r0
          have f9 : mX9_step_327 N (b + 75) (Int32.ofNat f0) (Int32.ofNat p) 1 (zc w b C0 (zMP (zMD M f0 t) f0 t 1 (M.2 37 (zgb M tt + k))) r0) = some (zc w b C0 (zJ (zMP (zMD M f0 t) f0 t 1 (M.2 37 (zgb M tt + k))) 41 f0 (Int32.ofNat (p + 1))) r0) := zn_on (N := N) (w := w) (b := b) (M := zMP (zMD M f0 t) f0 t 1 (M.2 37 (zgb M tt + k))) (p := p) (n := 1) h1 (zmp100.trans (zmd100.trans h4)) (zmp100.trans (zmd100.trans h5)) C0 r0
          have ak : ∀ x, mX9_arrayKind N 52 x = some (x, 1) := fun x => by
            unfold mX9_arrayKind mX9_arrayKind_0 mX9_arrayKind_17 mX9_arrayKind_37
            simp (decide := true) only [Int32.reduceLT, Int32.reduceLE, Int32.reduceAdd, Int32.reduceSub, Int32.reduceMul, Int32.reduceDiv, Int32.reduceMod, ↓reduceIte, Option.bind_some]
          rw [fs, zn_fetchG (op := 52) zqk_75 zqk_75 zqk_75 (fp0 C0 r0) (fp1 C0 r0) (ewr C0 r0) f1 f2 (ak _) zqg_75_37 zqg_75_34 (by rw [hti]; exact eb) ecl f8, Option.bind_some]
          exact f9
      · simp only [if_neg c2] at ef0 ew0
        have ef : ∀ M0, mX4_faultOfElement N (b + 15) 6 (C.1 (f0 + 140) (16 + t)) (M.2 45 (12 * f0 + (t + 1))).toInt32 (zc w b C M0 r) = some (zc w b C M0 r, 3) := ef0
        have ewr : ∀ C0 r0, mX9_wrong N (b + 75) 52 (M.2 45 (12 * f0 + t)) (M.2 45 (12 * f0 + (t + 1))) (zc w b C0 M r0) = some (zc w b C0 M r0, 3) := ew0
        refine zStp_e (e := 3) hN hw hS h7 hR hO (by decide) (fun M0 => ?_) (Or.inl ⟨Int32.ofNat f0, Int32.ofNat p, 1, fun C0 r0 => ?_⟩)
        · rw [hs, zd_loadE (op := 52) (e := 3) h1 h2 (ga M0) (gi M0) (ef M0) (by decide)]
          rfl
        · rw [fs, zn_fetchE (op := 52) (e := 3) zqk_75 (fp0 C0 r0) (fp1 C0 r0) (ewr C0 r0) (by decide)]
          show Option.bind _ _ = (mX9_fail N (b + 75) 3 (zc w b C0 M r0)).bind _
          cases mX9_fail N (b + 75) 3 (zc w b C0 M r0) <;> rfl
    · simp only [if_neg c1] at ef0 ew0
      have ef : ∀ M0, mX4_faultOfElement N (b + 15) 6 (C.1 (f0 + 140) (16 + t)) (M.2 45 (12 * f0 + (t + 1))).toInt32 (zc w b C M0 r) = some (zc w b C M0 r, 5) := ef0
      have ewr : ∀ C0 r0, mX9_wrong N (b + 75) 52 (M.2 45 (12 * f0 + t)) (M.2 45 (12 * f0 + (t + 1))) (zc w b C0 M r0) = some (zc w b C0 M r0, 5) := ew0
      refine zStp_e (e := 5) hN hw hS h7 hR hO (by decide) (fun M0 => ?_) (Or.inl ⟨Int32.ofNat f0, Int32.ofNat p, 1, fun C0 r0 => ?_⟩)
      · rw [hs, zd_loadE (op := 52) (e := 5) h1 h2 (ga M0) (gi M0) (ef M0) (by decide)]
        rfl
      · rw [fs, zn_fetchE (op := 52) (e := 5) zqk_75 (fp0 C0 r0) (fp1 C0 r0) (ewr C0 r0) (by decide)]
        show Option.bind _ _ = (mX9_fail N (b + 75) 5 (zc w b C0 M r0)).bind _
        cases mX9_fail N (b + 75) 5 (zc w b C0 M r0) <;> rfl

theorem zs_53 (hN : 1700 < N) (hw : w ≤ 400) (hS : S + 1 < 2 ^ 31) (h7 : ∀ k, k < 7 → F k = 0) (hR : zRn w b K F ρ α π r Q D C M S f0 φ) (hO : zOn C M) (hφ : φ f0 = (t, p, m, lt, st)) (hop : uC (Q.2.2.1 m) p = 53) : zStp N w b K F ρ α π r Q C M S := by
  obtain ⟨hc, hm, hK, l', hl, s1, hp, s2, l2, hh, hlen, hfl⟩ := hR.ty hO hφ hop
  have hh : some (s1, l') = some (s2, l2) := hh
  cases hh
  have hp : zpop [1, 3] (zrv st t) = some s1 := hp
  obtain ⟨t, rfl, k0, hp⟩ := zpopc hp
  obtain ⟨t, rfl, k1, hp⟩ := zpopc hp
  have hp := zpop0 hp
  subst hp
  have hc' := hc
  have hD := hR.2.1.1
  have hK30 := hR.1.2.2.2.1
  obtain ⟨h1, h2, h3, h4, h5, hfr, _, h8, h9, h10, h11, h12⟩ := hc
  have hfr0 := hfr
  obtain ⟨a1, a2, a3, a4, a5, a6, a7, a8, a9⟩ := hfr
  rw [hop] at h12
  have h12 : p + 1 ≤ uLen (Q.2.2.1 m) := h12
  have e0 : ∀ M0, mX1_opcode N (b + (3 * f0 + 27)) (zc w b C M0 r) = some (zc w b C M0 r, 53) := fun M0 => ze_step0 (N := N) (w := w) hc' hop M0
  have fstep : ∀ C0 r0, mX9_step N (b + 75) (zc w b C0 M r0) = mX9_step_74 N (b + 75) (Int32.ofNat f0) (Int32.ofNat m) (Int32.ofNat p) 53 1 0 0 (zc w b C0 M r0) := fun C0 r0 => zn_step (N := N) (w := w) hc' hop (n := 1) rfl rfl rfl C0 r0
  have hd := hfr0.drop (t' := t) (by omega)
  have u0 := (a9 (t + 1) (by omega)).2.2.2
  rw [k0] at u0
  have n0 := u0.num (Or.inl rfl)
  have hint := u0.int
  have u1 := (a9 t (by omega)).2.2.2
  rw [k1] at u1
  have gi : ∀ M0, mX1_number N (b + (3 * f0 + 27)) 0 (zc w b C M0 r) = some (zc w b C M0 r, M.2 45 (12 * f0 + (t + 1))) := fun M0 => by
    have := zf_number (N := N) (w := w) (b := b) (C := C) (r := r) (t := t + 2) (k := 0) h1 a1 a3 (by omega) M0
    rw [show 15 + (t + 2) - 0 = 16 + (t + 1) by omega, n0.1] at this
    exact this
  have ga : ∀ M0, mX1_reference N (b + (3 * f0 + 27)) 1 (zc w b C M0 r) = some (zc w b C M0 r, C.1 (f0 + 140) (16 + t)) := fun M0 => by
    have := zf_reference (N := N) (w := w) (b := b) (C := C) (r := r) (t := t + 2) (k := 1) h1 a1 a3 (by omega) M0
    rw [show 15 + (t + 2) - 1 = 16 + t by omega] at this
    exact this
  have fp0 : ∀ C0 r0, mX9_peek N (b + 75) 0 (zc w b C0 M r0) = some (zc w b C0 M r0, M.2 45 (12 * f0 + (t + 1))) := fun C0 r0 => zn_peek (N := N) (w := w) (b := b) (M := M) (t := t + 2) (k := 0) h1 h3 a2 a3 (by omega) C0 r0
  have fp1 : ∀ C0 r0, mX9_peek N (b + 75) 1 (zc w b C0 M r0) = some (zc w b C0 M r0, M.2 45 (12 * f0 + t)) := fun C0 r0 => zn_peek (N := N) (w := w) (b := b) (M := M) (t := t + 2) (k := 1) h1 h3 a2 a3 (by omega) C0 r0
  obtain ⟨l3, h3', h4'⟩ := (hfl lt hl).2 (by unfold zgoes; decide)
  have hs : ∀ M0, mX4_step N (b + 15) (zc w b C M0 r) = (mX4_loadElement N (b + 15) 53 (zc w b C M0 r)).bind fun o => some (o.1, o.2) := fun M0 => by
    simp (decide := true) only [mX4_step_107, mX4_step_249, mX4_step_0, mX4_step, e0, zqg_15_5 h2, zqkF h1, id, zqk_15, zqk_16, zqg_15_2, Option.map_some, Int32.reduceLT, Int32.reduceLE, Int32.reduceAdd, Int32.reduceSub, Int32.reduceMul, Int32.reduceDiv, Int32.reduceMod, ↓reduceIte, Option.bind_some]
  have fs : ∀ C0 r0, mX9_step N (b + 75) (zc w b C0 M r0) = (mX9_doFetch N (b + 75) 53 (zc w b C0 M r0)).bind fun o => mX9_step_327 N (b + 75) (Int32.ofNat f0) (Int32.ofNat p) 1 o := fun C0 r0 => by
    refine (fstep C0 r0).trans ?_
    simp (decide := true) only [mX9_step_74, zqk_75, id, Option.map_some, Int32.reduceLT, Int32.reduceLE, Int32.reduceAdd, Int32.reduceSub, Int32.reduceMul, Int32.reduceDiv, Int32.reduceMod, ↓reduceIte, Option.bind_some]
  rcases zRf.cs hD u1.ref with ⟨hz, hv⟩ | ⟨u, tt, hd2, hre, hv, hz, hzm, hti⟩
  · have hzm : lg_cmp (M.2 45 (12 * f0 + t)) 0 = 0 := zw_cmp.mpr hv
    have ef : ∀ M0, mX4_faultOfElement N (b + 15) 7 (C.1 (f0 + 140) (16 + t)) (M.2 45 (12 * f0 + (t + 1))).toInt32 (zc w b C M0 r) = some (zc w b C M0 r, 2) := fun M0 => by
      unfold mX4_faultOfElement mX4_faultOfElement_0
      rw [if_pos hz]
    have ewr : ∀ C0 r0, mX9_wrong N (b + 75) 53 (M.2 45 (12 * f0 + t)) (M.2 45 (12 * f0 + (t + 1))) (zc w b C0 M r0) = some (zc w b C0 M r0, 2) := fun C0 r0 => by
      unfold mX9_wrong mX9_wrong_0
      rw [if_pos hzm]
    refine zStp_e (e := 2) hN hw hS h7 hR hO (by decide) (fun M0 => ?_) (Or.inl ⟨Int32.ofNat f0, Int32.ofNat p, 1, fun C0 r0 => ?_⟩)
    · rw [hs, zd_loadE (op := 53) (e := 2) h1 h2 (ga M0) (gi M0) (ef M0) (by decide)]
      rfl
    · rw [fs, zn_fetchE (op := 53) (e := 2) zqk_75 (fp0 C0 r0) (fp1 C0 r0) (ewr C0 r0) (by decide)]
      show Option.bind _ _ = (mX9_fail N (b + 75) 2 (zc w b C0 M r0)).bind _
      cases mX9_fail N (b + 75) 2 (zc w b C0 M r0) <;> rfl
  · obtain ⟨so, cl, n, hk⟩ := hR.2.1.pk hw hR.1 hd2
    have ef0 : ∀ M0, _ := fun M0 => zd_fault (N := N) (w := w) (b := b) (r := r) (use := 7) (i := (M.2 45 (12 * f0 + (t + 1))).toInt32) hw hK30 hk (by decide) M0
    have ew0 : ∀ C0 r0, _ := fun C0 r0 => zn_wrong (N := N) (w := w) (b := b) (use := 7) (op := 53) (v := M.2 45 (12 * f0 + (t + 1))) hk (by decide) (by decide) hint C0 r0
    rw [← hre] at ef0
    rw [← hv] at ew0
    by_cases c1 : zok 7 so = true
    · simp only [if_pos c1] at ef0 ew0
      by_cases c2 : 0 ≤ (M.2 45 (12 * f0 + (t + 1))).toInt32 ∧ (M.2 45 (12 * f0 + (t + 1))).toInt32 < Int32.ofNat n
      · simp only [if_pos c2] at ef0 ew0
        have ef : ∀ M0, mX4_faultOfElement N (b + 15) 7 (C.1 (f0 + 140) (16 + t)) (M.2 45 (12 * f0 + (t + 1))).toInt32 (zc w b C M0 r) = some (zc w b C M0 r, 0) := ef0
        have ewr : ∀ C0 r0, mX9_wrong N (b + 75) 53 (M.2 45 (12 * f0 + t)) (M.2 45 (12 * f0 + (t + 1))) (zc w b C0 M r0) = some (zc w b C0 M r0, 0) := ew0
        obtain ⟨k, hk1, hk2⟩ := zi_of c2.1
        have hkn : k < n := by
          have := c2.2
          rw [hk1, zi_lt hk2 (by have := hk.2.2.2.2.2.1; omega)] at this
          exact this
        have hso0 : so ≠ 0 := fun e => by rw [e] at c1; exact absurd c1 (by decide)
        have ee : ∀ M0, mX2_element N (b + 16) (C.1 (f0 + 140) (16 + t)) (M.2 45 (12 * f0 + (t + 1))).toInt32 (zc w b C M0 r) = some (zc w b C M0 r, zel so (fun j => C.1 17 (zha C u + 2 + j)) k) := fun M0 => by
          rw [hre, hk1]
          exact zd_element (N := N) (w := w) (b := b) (r := r) hw hk hso0 hkn M0
        obtain ⟨q1, q2, q3, q4, q5, q6, q7, q8, q9, q10, q11, q12, q13, q14, q15, q16, q17, q18⟩ := hk
        have hq := q18 k hkn
        have hso : so ≠ 12 := fun e => by rw [e] at c1; exact absurd c1 (by decide)
        rw [if_neg (by omega)] at hq
        have hso11 : so ≠ 11 := fun e => by rw [e] at c1; exact absurd c1 (by decide)
        obtain ⟨ii, hii⟩ := zel_int so k (fun j => C.1 17 (zha C u + 2 + j)) hso11
        have hp := (hd.pushN (by omega) (zSl.mk1 ii) (Or.inl rfl)).go (p + 1)
        rw [← hii, ← hq] at hp
        rw [← hq] at ee
        refine zStp_q hR hO hφ (t' := t + 1) (p' := p + 1) (lt' := lt) (st' := zset st t 1) ⟨_, _, fun M0 => ?_, fun C0 r0 => ?_, hp, zTop.rf.i2.pn.i2, (zTopM.rf.d.p (by omega)).go⟩ ⟨l3, by rw [zrv_push]; exact h3', h4'⟩
        · have e3 : mX1_drop N (b + (3 * f0 + 27)) 2 (zc w b C M0 r) = some (zc w b (zI C (f0 + 100) 2 (Int32.ofNat (16 + t))) M0 r) := zf_drop (N := N) (w := w) (b := b) (r := r) (t := t + 2) (k := 2) h1 a1 a3 (by omega) M0
          have kk : (zI C (f0 + 100) 2 (Int32.ofNat (16 + t))).2.2 15 5 = .ref (b + (3 * f0 + 27)) := h2
          have e4 : mX1_pushNumber N (b + (3 * f0 + 27)) (M.2 37 (zgb M tt + k)) (zc w b (zI C (f0 + 100) 2 (Int32.ofNat (16 + t))) M0 r) = some (zc w b (zPN (zI C (f0 + 100) 2 (Int32.ofNat (16 + t))) f0 t (M.2 37 (zgb M tt + k))) M0 r) := zf_pushNumber (t := t) h1 zp2_I2 (by omega) _ M0
          have e5 : mX4_goOn N (b + 15) 1 (zc w b (zPN (zI C (f0 + 100) 2 (Int32.ofNat (16 + t))) f0 t (M.2 37 (zgb M tt + k))) M0 r) = some (zc w b (zI (zPN (zI C (f0 + 100) 2 (Int32.ofNat (16 + t))) f0 t (M.2 37 (zgb M tt + k))) (f0 + 100) 4 (Int32.ofNat (p + 1))) M0 r, 0) := zf_goOn (C := zPN (zI C (f0 + 100) 2 (Int32.ofNat (16 + t))) f0 t (M.2 37 (zgb M tt + k))) (n := 1) (p := p) h1 h2 (zp4_PN.trans (zp4_I2.trans a4)) M0
          rw [hs, zd_loadG (op := 53) h1 h2 (ga M0) (gi M0) (ef M0) (ee M0) e3 kk (by rw [if_neg (by decide)]; exact e4) e5]
          rfl
        · have f1 : mX9_popValue N (b + 75) (zc w b C0 M r0) = some (zc w b C0 (zMD M f0 (t + 1)) r0, M.2 45 (12 * f0 + (t + 1))) := zn_pop (N := N) (w := w) (b := b) (M := M) (t := t + 1) h1 h3 a2 (by omega) C0 r0
          have f2 : mX9_popValue N (b + 75) (zc w b C0 (zMD M f0 (t + 1)) r0) = some (zc w b C0 (zMD M f0 t) r0, M.2 45 (12 * f0 + t)) := by
            have := zn_pop (N := N) (w := w) (b := b) (M := zMD M f0 (t + 1)) (t := t) h1 (zmd100.trans h3) zmd42 (by omega) C0 r0
            rw [zMDD] at this; exact this
          have eb : zm_aI (zc w b C0 (zMD M f0 t) r0) (b + 101) (Int32.ofNat tt) = some (Int32.ofNat (zgb M tt)) := by
            rw [zqa_101 q2]
            unfold zMD
            rw [zJ1, if_neg (by omega)]
            exact congrArg some (zN_of _).symm
          have ecl : zm_aL (zc w b C0 (zMD M f0 t) r0) (b + 103) (Int32.ofNat (zgb M tt) + (M.2 45 (12 * f0 + (t + 1))).toInt32) = some (M.2 37 (zgb M tt + k)) := by
            rw [hk1, zi_add, zqa_103 (by omega)]
            rfl
          have f8 : mX9_pushValue N (b + 75) 1 (M.2 37 (zgb M tt + k)) (zc w b C0 (zMD M f0 t) r0) = some (zc w b C0 (zMP (zMD M f0 t) f0 t 1 (M.2 37 (zgb M tt + k))) r0) := zn_push (N := N) (w := w) (b := b) (M := zMD M f0 t) (t := t) h1 (zmd100.trans h3) zmd42 (by omega) 1 _ C0 r0
          have f9 : mX9_step_327 N (b + 75) (Int32.ofNat f0) (Int32.ofNat p) 1 (zc w b C0 (zMP (zMD M f0 t) f0 t 1 (M.2 37 (zgb M tt + k))) r0) = some (zc w b C0 (zJ (zMP (zMD M f0 t) f0 t 1 (M.2 37 (zgb M tt + k))) 41 f0 (Int32.ofNat (p + 1))) r0) := zn_on (N := N) (w := w) (b := b) (M := zMP (zMD M f0 t) f0 t 1 (M.2 37 (zgb M tt + k))) (p := p) (n := 1) h1 (zmp100.trans (zmd100.trans h4)) (zmp100.trans (zmd100.trans h5)) C0 r0
          have ak : ∀ x, mX9_arrayKind N 53 x = some (x, 1) := fun x => by
            unfold mX9_arrayKind mX9_arrayKind_0 mX9_arrayKind_17 mX9_arrayKind_37
            simp (decide := true) only [Int32.reduceLT, Int32.reduceLE, Int32.reduceAdd, Int32.reduceSub, Int32.reduceMul, Int32.reduceDiv, Int32.reduceMod, ↓reduceIte, Option.bind_some]
          rw [fs, zn_fetchG (op := 53) zqk_75 zqk_75 zqk_75 (fp0 C0 r0) (fp1 C0 r0) (ewr C0 r0) f1 f2 (ak _) zqg_75_37 zqg_75_34 (by rw [hti]; exact eb) ecl f8, Option.bind_some]
          exact f9
      · simp only [if_neg c2] at ef0 ew0
        have ef : ∀ M0, mX4_faultOfElement N (b + 15) 7 (C.1 (f0 + 140) (16 + t)) (M.2 45 (12 * f0 + (t + 1))).toInt32 (zc w b C M0 r) = some (zc w b C M0 r, 3) := ef0
        have ewr : ∀ C0 r0, mX9_wrong N (b + 75) 53 (M.2 45 (12 * f0 + t)) (M.2 45 (12 * f0 + (t + 1))) (zc w b C0 M r0) = some (zc w b C0 M r0, 3) := ew0
        refine zStp_e (e := 3) hN hw hS h7 hR hO (by decide) (fun M0 => ?_) (Or.inl ⟨Int32.ofNat f0, Int32.ofNat p, 1, fun C0 r0 => ?_⟩)
        · rw [hs, zd_loadE (op := 53) (e := 3) h1 h2 (ga M0) (gi M0) (ef M0) (by decide)]
          rfl
        · rw [fs, zn_fetchE (op := 53) (e := 3) zqk_75 (fp0 C0 r0) (fp1 C0 r0) (ewr C0 r0) (by decide)]
          show Option.bind _ _ = (mX9_fail N (b + 75) 3 (zc w b C0 M r0)).bind _
          cases mX9_fail N (b + 75) 3 (zc w b C0 M r0) <;> rfl
    · simp only [if_neg c1] at ef0 ew0
      have ef : ∀ M0, mX4_faultOfElement N (b + 15) 7 (C.1 (f0 + 140) (16 + t)) (M.2 45 (12 * f0 + (t + 1))).toInt32 (zc w b C M0 r) = some (zc w b C M0 r, 5) := ef0
      have ewr : ∀ C0 r0, mX9_wrong N (b + 75) 53 (M.2 45 (12 * f0 + t)) (M.2 45 (12 * f0 + (t + 1))) (zc w b C0 M r0) = some (zc w b C0 M r0, 5) := ew0
      refine zStp_e (e := 5) hN hw hS h7 hR hO (by decide) (fun M0 => ?_) (Or.inl ⟨Int32.ofNat f0, Int32.ofNat p, 1, fun C0 r0 => ?_⟩)
      · rw [hs, zd_loadE (op := 53) (e := 5) h1 h2 (ga M0) (gi M0) (ef M0) (by decide)]
        rfl
      · rw [fs, zn_fetchE (op := 53) (e := 5) zqk_75 (fp0 C0 r0) (fp1 C0 r0) (ewr C0 r0) (by decide)]
        show Option.bind _ _ = (mX9_fail N (b + 75) 5 (zc w b C0 M r0)).bind _
        cases mX9_fail N (b + 75) 5 (zc w b C0 M r0) <;> rfl

end ZRD2
