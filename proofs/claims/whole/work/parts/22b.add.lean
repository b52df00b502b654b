/-! ===== method: one more in the list ===== -/
/-- what is kept when a list grows -/
def zRk (r r' : zv_X) : Prop := (∀ q e, r.1 q = some e → (∀ c g, e ≠ .inl (4, c, g)) → r'.1 q = some e) ∧ r'.2.2.2 = r.2.2.2
section ZAD
variable {N w b nm : Nat} {C : zC} {M : zM} {r r' : zv_X} {a : Nat} {μ : zMu} {ra : Nat → Nat} {μs : Nat → zMu}
theorem zRk.rf : zRk r r := ⟨fun _ _ h _ => h, rfl⟩
theorem zRk.tr {r1 r2 : zv_X} (h : zRk r r1) (h' : zRk r1 r2) : zRk r r2 := ⟨fun q e h1 h2 => h'.1 q e (h.1 q e h1 h2) h2, h'.2.trans h.2⟩
theorem zRt.rk (h : zRt b r a μ) (h' : zRk r r') : zRt b r' a μ := by
  obtain ⟨h1, cf, hf, h2, h3, h4, h5⟩ := h
  refine ⟨h1, cf, hf, h'.1 _ _ h2 (fun c g e => by cases e), h'.1 _ _ h3 (fun c g e => ?_), h'.1 _ _ h4 (fun c g e => ?_), h5⟩
  · injection e with e; injection e with e _; cases e
  · injection e with e; injection e with e _; cases e
theorem zRt.k (h : zRt b r a μ) : zm_k (zc w b C M r) a 6 = true := by
  obtain ⟨h1, cf, hf, h2, _⟩ := h
  exact zo_k ((zc_o' h1).trans h2)
theorem zsR_ok {x : zv_X} {cap n y : Nat} {g : Nat → Option Nat} (h : x.1 a = some (.inl (4, cap, .inr (.inr (.inr (.inr g)))))) (hn : n < cap) (hc : cap ≤ 100000) (hk : zm_k x y 6 = true) : zm_sR x a (Int32.ofNat n) y = some (zv_st x a (.inl (4, cap, .inr (.inr (.inr (.inr (va_up g n (some y)))))))) := by
  have e := zn_lt hn hc
  unfold zm_sR
  rw [h]
  simp only [e.2.1, if_neg e.2.2, hk, if_true]
theorem znR_ok {n : Nat} (hn : n ≤ 100000) (h : b + 113 ≤ r.2.1) : zm_nR 4 (zc w b C M r) (Int32.ofNat n) = some (zc w b C M (zv_nw r (.inl (4, n, .inr (.inr (.inr (.inr fun _ => none))))) n)) := by
  unfold zm_nR
  rw [zi_cl (by omega), if_neg (by rintro (h | h); exact absurd h (by rw [zi_nn (by omega)]; exact id); omega), zc_nw h]
theorem zcpR_ok {n0 n1 m : Nat} {g0 g : Nat → Option Nat} {x : zv_X} {a0 : Nat} (h0 : x.1 a0 = some (.inl (4, n0, .inr (.inr (.inr (.inr g0)))))) (h1 : x.1 a = some (.inl (4, n1, .inr (.inr (.inr (.inr g)))))) (hm : m < 2 ^ 31) (hm0 : m ≤ n0) (hm1 : m ≤ n1) (hf : ∀ i, i < m → ∃ y, g0 i = some y ∧ zm_k x y 6 = true) : zm_cp x a0 0 a 0 (Int32.ofNat m) = some (zv_st x a (.inl (4, n1, .inr (.inr (.inr (.inr (va_cpy g0 g 0 0 m))))))) := by
  unfold zm_cp
  rw [h0, h1]
  rw [zi_cl hm, show (0 : Int32).toNatClampNeg = 0 from rfl]
  exact if_pos ⟨⟨by decide, by decide, by rw [zi_nn hm]; exact id⟩, by omega, by omega, fun i hi => by
    obtain ⟨y, e1, e2⟩ := hf i hi
    rw [Nat.zero_add, e1]
    exact e2⟩
theorem zn_none {x : zv_X} (h : x.1 a = none) (h' : a = x.2.2.2.1) : zm_n x a = some 0 := by
  unfold zm_n
  rw [h]
  exact if_pos h'
theorem znl10 (x : zv_X) : mJ8_newLength_cabcc N 10 (Int32.ofNat 11 - 10) ((10 : Int32) >>> ((1 : Int32) &&& 31)) x = some (x, 15) := by
  unfold mJ8_newLength_cabcc mJ8_newLength_cabcc_0
  rw [if_neg (by decide), if_neg (by decide)]
  rfl
theorem znl15 (x : zv_X) : mJ8_newLength_cabcc N 15 (Int32.ofNat 16 - 15) ((15 : Int32) >>> ((1 : Int32) &&& 31)) x = some (x, 22) := by
  unfold mJ8_newLength_cabcc mJ8_newLength_cabcc_0
  rw [if_neg (by decide), if_neg (by decide)]
  rfl
/-- the array that the next goes into -/
theorem zd_grow (hL : zLst b C r nm ra) (hn : nm < 20) (hall : ∀ m, m < nm → zRt b r (ra m) (μs m)) (hr : zRr b r) :
    ∃ (C' : zC) (r' : zv_X) (y cap : Nat) (g : Nat → Option Nat), (∀ M a, mJx4a65c_add_72be8 N (b + 8) a (match C.2.2 8 1 with | .ref v => v | _ => 0) (Int32.ofNat nm) (zc w b C M r) = mJx4a65c_add_72be8_11 N (b + 8) a y (Int32.ofNat nm) (zc w b C' M r')) ∧ C'.1 = C.1 ∧ C'.2.1 = C.2.1 ∧ (∀ o k, ¬ (o = 8 ∧ k = 1) → C'.2.2 o k = C.2.2 o k) ∧ C'.2.2 8 1 = .ref y ∧
      r'.1 y = some (.inl (4, cap, .inr (.inr (.inr (.inr g))))) ∧ b + 113 ≤ y ∧ (cap = 10 ∨ cap = 15 ∨ cap = 22) ∧ nm < cap ∧ (∀ i, i < nm → g i = some (ra i)) ∧ zRk r r' ∧ zRr b r' ∧ r.2.1 ≤ r'.2.1 ∧ r'.2.1 ≤ r.2.1 + 1 ∧ r'.2.2.1 ≤ r.2.2.1 + 22 := by
  obtain ⟨h1, y, h2, hh⟩ := hL
  rw [h2]
  have hr0 := hr.1
  have kept : ∀ e n, zRk r (zv_nw r e n) := fun e n => ⟨fun q e' h _ => by
    rw [znw_ne (fun c => by rw [c, hr.2.2 _ (Nat.le_refl _)] at h; cases h)]
    exact h, rfl⟩
  have rr : ∀ e n, zRr b (zv_nw r e n) := fun e n => ⟨Nat.le_succ_of_le hr0, hr.2.1, fun q hq => by
    have hq' : r.2.1 + 1 ≤ q := hq
    rw [znw_ne (by omega)]
    exact hr.2.2 q (by omega)⟩
  rcases hh with ⟨g0, g1, g2, g3⟩ | ⟨cap, g, g1, g2, g3, g4, g5⟩
  · subst g0
    refine ⟨zV C 8 1 (.ref r.2.1), zv_nw r (.inl (4, 10, .inr (.inr (.inr (.inr fun _ => none))))) 10, r.2.1, 10, fun _ => none, fun M a => ?_, rfl, rfl, fun o k e => if_neg e, rfl, znw_at, hr0, Or.inl rfl, by decide, fun i hi => by omega, kept _ _, rr _ _, Nat.le_succ _, Nat.le_refl _, by show r.2.2.1 + 10 ≤ r.2.2.1 + 22; omega⟩
    have e1 : zm_n (zc w b C M r) y = some 0 := zn_none ((zc_out g3).trans g2) g1
    have e2 : zm_nR 4 (zc w b C M r) (zm_max (10 : Int32) (Int32.ofNat 0 + 1)) = some (zc w b C M (zv_nw r (.inl (4, 10, .inr (.inr (.inr (.inr fun _ => none))))) 10)) := znR_ok (n := 10) (by decide) hr0
    unfold mJx4a65c_add_72be8 mJx4a65c_add_72be8_0 mJx4a65c_grow_d5877 mJx4a65c_grow_d5877_0 mJx4a65c_grow_92f84 mJx4a65c_grow_92f84_0
    rw [e1, Option.bind_some, if_pos (show Int32.ofNat 0 = 0 from rfl), if_pos zqk_8, zqg_8_2, Option.bind_some, h1, if_pos zqk_8, zqg_8_1 h2, Option.bind_some, e1, Option.bind_some, if_neg (by decide), Option.bind_some, if_pos (show y = (zc w b C M r).2.2.2.1 from g1), e2, Option.bind_some]
    have e3 := zqp_8_1 (w := w) (b := b) (C := C) (M := M) (r := zv_nw r (.inl (4, 10, .inr (.inr (.inr (.inr fun _ => none))))) 10) r.2.1
    show (((zm_p (zc w b C M (zv_nw r (.inl (4, 10, .inr (.inr (.inr (.inr fun _ => none))))) 10)) (b + 8) 5 1 (.ref r.2.1)).bind fun x9 => some (x9, r.2.1)).bind fun o3 => some (o3.1, o3.2)).bind _ = _
    rw [e3]
    rfl
  · have hx : ∀ M, (zc w b C M r).1 y = some (.inl (4, cap, .inr (.inr (.inr (.inr g))))) := fun M => (zc_o' g2).trans g1
    have en : ∀ M, zm_n (zc w b C M r) y = some (Int32.ofNat cap) := fun M => zo_n (hx M) (by decide)
    by_cases c : nm = cap
    · -- grows
      have main : ∀ nc : Nat, nm < nc → nc ≤ 22 → nc = 15 ∨ nc = 22 → (∀ x : zv_X, mJ8_newLength_cabcc N (Int32.ofNat nm) (Int32.ofNat (nm + 1) - Int32.ofNat nm) (Int32.ofNat nm >>> ((1 : Int32) &&& 31)) x = some (x, Int32.ofNat nc)) → ∃ (C' : zC) (r' : zv_X) (y' cap : Nat) (g : Nat → Option Nat), (∀ M a, mJx4a65c_add_72be8 N (b + 8) a y (Int32.ofNat nm) (zc w b C M r) = mJx4a65c_add_72be8_11 N (b + 8) a y' (Int32.ofNat nm) (zc w b C' M r')) ∧ C'.1 = C.1 ∧ C'.2.1 = C.2.1 ∧ (∀ o k, ¬ (o = 8 ∧ k = 1) → C'.2.2 o k = C.2.2 o k) ∧ C'.2.2 8 1 = .ref y' ∧
          r'.1 y' = some (.inl (4, cap, .inr (.inr (.inr (.inr g))))) ∧ b + 113 ≤ y' ∧ (cap = 10 ∨ cap = 15 ∨ cap = 22) ∧ nm < cap ∧ (∀ i, i < nm → g i = some (ra i)) ∧ zRk r r' ∧ zRr b r' ∧ r.2.1 ≤ r'.2.1 ∧ r'.2.1 ≤ r.2.1 + 1 ∧ r'.2.2.1 ≤ r.2.2.1 + 22 := fun nc hc1 hc2 hc3 hl => by
        refine ⟨zV C 8 1 (.ref r.2.1), zv_nw r (.inl (4, nc, .inr (.inr (.inr (.inr (va_cpy g (fun _ => none) 0 0 nm)))))) nc, r.2.1, nc, va_cpy g (fun _ => none) 0 0 nm, fun M a => ?_, rfl, rfl, fun o k e => if_neg e, rfl, znw_at, hr0, Or.inr hc3, hc1, fun i hi => ?_, kept _ _, rr _ _, Nat.le_succ _, Nat.le_refl _, by show r.2.2.1 + nc ≤ r.2.2.1 + 22; omega⟩
        · have hy : y ≠ r.2.1 := fun c => by rw [c, hr.2.2 _ (Nat.le_refl _)] at g1; cases g1
          have e1 : zm_kq (zc w b C M r) y = true := by
            unfold zm_kq
            rw [hx M]
            rfl
          have e2 : zm_nR 4 (zc w b C M r) (Int32.ofNat nc) = some (zc w b C M (zv_nw r (.inl (4, nc, .inr (.inr (.inr (.inr fun _ => none))))) nc)) := znR_ok (by omega) hr0
          have e3 : (zc w b C M (zv_nw r (.inl (4, nc, .inr (.inr (.inr (.inr fun _ => none))))) nc)).1 y = some (.inl (4, cap, .inr (.inr (.inr (.inr g))))) := (zc_o' g2).trans ((znw_ne hy).trans g1)
          have e4 : zm_n (zc w b C M (zv_nw r (.inl (4, nc, .inr (.inr (.inr (.inr fun _ => none))))) nc)) y = some (Int32.ofNat cap) := zo_n e3 (by decide)
          have e5 : zm_min (Int32.ofNat cap) (Int32.ofNat nc) = Int32.ofNat nm := by
            unfold zm_min
            rw [if_neg (by rw [zi_lt (by omega) (by omega)]; omega), c]
          have e6 := zcpR_ok (x := zc w b C M (zv_nw r (.inl (4, nc, .inr (.inr (.inr (.inr fun _ => none))))) nc)) (a0 := y) (a := r.2.1) (m := nm) e3 ((zc_o' hr0).trans znw_at) (by omega) (by omega) (by omega) (fun i hi => ⟨ra i, g5 i hi, ((hall i hi).rk (kept _ _)).k⟩)
          rw [zc_sto hr0, zst_nw] at e6
          have e7 := zqp_8_1 (w := w) (b := b) (C := C) (M := M) (r := zv_nw r (.inl (4, nc, .inr (.inr (.inr (.inr (va_cpy g (fun _ => none) 0 0 nm)))))) nc) r.2.1
          have e8 : mJ7_copyOf_1904c N y (Int32.ofNat nc) (zc w b C M r) = some (zc w b C M (zv_nw r (.inl (4, nc, .inr (.inr (.inr (.inr (va_cpy g (fun _ => none) 0 0 nm)))))) nc), r.2.1) := by
            unfold mJ7_copyOf_1904c mJ7_copyOf_1904c_0 mJ7_copyOf_6403c mJ7_copyOf_6403c_0
            rw [if_pos e1, if_pos rfl, e2, Option.bind_some, e4, Option.bind_some, e5]
            show (((zm_cp (zc w b C M (zv_nw r (.inl (4, nc, .inr (.inr (.inr (.inr fun _ => none))))) nc)) y 0 r.2.1 0 (Int32.ofNat nm)).bind fun x5 => some (x5, r.2.1)).bind fun o1 => some (o1.1, o1.2)) = _
            rw [e6]
            rfl
          unfold mJx4a65c_add_72be8 mJx4a65c_add_72be8_0 mJx4a65c_grow_d5877 mJx4a65c_grow_d5877_0 mJx4a65c_grow_92f84 mJx4a65c_grow_92f84_0 mJx4a65c_grow_92f84_20
          rw [en M, Option.bind_some, if_pos (show Int32.ofNat nm = Int32.ofNat cap by rw [c]), if_pos zqk_8, zqg_8_2, Option.bind_some, h1, if_pos zqk_8, zqg_8_1 h2, Option.bind_some, en M, Option.bind_some, if_pos (show (0 : Int32) < Int32.ofNat cap by rw [zi_l0, zi_lt (by omega) (by omega)]; omega), ← c, show Int32.ofNat nm + 1 = Int32.ofNat (nm + 1) from zi_add nm 1, hl, Option.bind_some, zqg_8_1 h2, Option.bind_some, e8, Option.bind_some, e7, Option.bind_some]
          rfl
        · show (if 0 ≤ i ∧ i < 0 + nm then g (0 + (i - 0)) else none) = some (ra i)
          rw [if_pos ⟨Nat.zero_le i, by omega⟩, show 0 + (i - 0) = i by omega]
          exact g5 i hi
      have h3 : nm = 10 ∨ nm = 15 := by omega
      rcases h3 with h3 | h3
      · subst h3
        exact main 15 (by decide) (by decide) (Or.inl rfl) znl10
      · subst h3
        exact main 22 (by decide) (by decide) (Or.inr rfl) znl15
    · refine ⟨C, r, y, cap, g, fun M a => ?_, rfl, rfl, fun _ _ _ => rfl, h2, g1, g2, g3, by omega, g5, zRk.rf, hr, Nat.le_refl _, by omega, by omega⟩
      unfold mJx4a65c_add_72be8 mJx4a65c_add_72be8_0
      rw [en M, Option.bind_some, if_neg (by rw [zi_eq (by omega) (by omega)]; exact c)]
theorem zd_ladd (hL : zLst b C r nm ra) (hn : nm < 20) (hall : ∀ m, m < nm → zRt b r (ra m) (μs m)) (hr : zRr b r) (ha : zRt b r a μ) :
    ∃ (C' : zC) (r' : zv_X), zHC w b (mJx4a65c_add_9ea2d N (b + 8) a) C r (fun x => (x, 1)) C' r' ∧ zLst b C' r' (nm + 1) (fun m => if m = nm then a else ra m) ∧ (∀ o k, o ≠ 8 → C'.1 o k = C.1 o k) ∧ C'.2.1 = C.2.1 ∧ (∀ o k, ¬ (o = 8 ∧ k = 1) → C'.2.2 o k = C.2.2 o k) ∧ zRk r r' ∧ zRr b r' ∧ r.2.1 ≤ r'.2.1 ∧ r'.2.1 ≤ r.2.1 + 1 ∧ r'.2.2.1 ≤ r.2.2.1 + 22 := by
  have hL' : zLst b (zI C 8 0 (C.1 8 0 + 1)) r nm ra := by
    unfold zLst at hL ⊢
    rw [zI1, if_neg (by omega)]
    exact hL
  obtain ⟨C', r', y, cap, g, t1, t2, t3, t4, t5, t6, t7, t8, t9, t10, t11, t12, t13, t14, t15⟩ := zd_grow (N := N) (w := w) hL' hn hall hr
  obtain ⟨h1, y0, h2, _⟩ := hL
  have y8 : (match (zI C 8 0 (C.1 8 0 + 1)).2.2 8 1 with | .ref v => v | _ => 0) = y0 := by
    show (match C.2.2 8 1 with | .ref v => v | _ => 0) = y0
    rw [h2]
  rw [y8] at t1
  refine ⟨zI C' 8 2 (Int32.ofNat (nm + 1)), zv_st r' y (.inl (4, cap, .inr (.inr (.inr (.inr (va_up g nm (some a))))))), fun M => ?_, ⟨rfl, y, t5, Or.inr ⟨cap, va_up g nm (some a), zst_at, t7, t8, by omega, fun i hi => ?_⟩⟩, fun o k e => ?_, t3, t4, t11.tr ⟨fun q e h he => ?_, rfl⟩, ⟨t12.1, t12.2.1, fun q hq => ?_⟩, t13, t14, t15⟩
  · have k1 := zsR_ok (x := zc w b C' M r') (a := y) (n := nm) (y := a) ((zc_o' t7).trans t6) t9 (by omega) ((ha.rk t11).k)
    rw [zc_sto t7] at k1
    have k2 := t1 M a
    unfold mJx4a65c_add_9ea2d mJx4a65c_add_9ea2d_0
    rw [zqg_8_0, Option.bind_some, zqp_8_0, Option.bind_some, zqg_8_1 (C := zI C 8 0 (C.1 8 0 + 1)) h2, Option.bind_some, zqg_8_2, Option.bind_some, show (zI C 8 0 (C.1 8 0 + 1)).1 8 2 = Int32.ofNat nm from h1, if_pos zqk_8, k2]
    unfold mJx4a65c_add_72be8_11
    rw [k1, Option.bind_some, zi_l1, zi_add, zqp_8_2, Option.bind_some]
    rfl
  · show (if i = nm then some a else g i) = some (if i = nm then a else ra i)
    by_cases c : i = nm
    · rw [if_pos c, if_pos c]
    · rw [if_neg c, if_neg c]
      exact t10 i (by omega)
  · rw [zI1, if_neg (by omega), t2, zI1, if_neg (by omega)]
  · rw [zst_ne (fun c => by
      rw [c, t6] at h
      injection h with h
      exact he _ _ h.symm)]
    exact h
  · have hq' : r'.2.1 ≤ q := hq
    rw [zst_ne (fun c => by rw [← c, t12.2.2 q hq'] at t6; cases t6)]
    exact t12.2.2 q hq'
end ZAD
