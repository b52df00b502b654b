/-! ===== the class's judge: small methods ===== -/
/-- what judging needs and leaves alone: types, the list, the methods (number nm is the one that is judged) -/
def zEv (b K : Nat) (F ρ α π : Nat → Nat) (r : zv_X) (C : zC) (M : zM) (nm : Nat) (ra : Nat → Nat) (μs : Nat → zMu) : Prop :=
  zTy C M K F ρ α π ∧ zLst b C r nm ra ∧ nm < 20 ∧ C.2.2 9 8 = .ref (ra nm) ∧ ∀ m, m ≤ nm → zRt b r (ra m) (μs m) ∧ zMuOk K (μs m)
def zF9 (C C' : zC) : Prop := (∀ o k, ¬ (o = 9 ∧ 9 ≤ k) → C'.1 o k = C.1 o k) ∧ C'.2 = C.2
def zO (C : zC) (o : Option (List Nat × (Nat → Nat))) : Prop := match o with
  | none => C.1 9 9 = 0
  | some v => C.1 9 9 = 1 ∧ C.1 9 10 = Int32.ofNat (zpS v.1) ∧ C.1 9 11 = Int32.ofNat (zpk v.2 16) ∧ zkS v.1 ∧ v.1.length ≤ 12 ∧ zk16 v.2
theorem zi_l0 : (0 : Int32) = Int32.ofNat 0 := rfl
theorem zi_l1 : (1 : Int32) = Int32.ofNat 1 := rfl
theorem zi_l2 : (2 : Int32) = Int32.ofNat 2 := rfl
theorem zi_l3 : (3 : Int32) = Int32.ofNat 3 := rfl
theorem zi_l4 : (4 : Int32) = Int32.ofNat 4 := rfl
theorem zi_l16 : (16 : Int32) = Int32.ofNat 16 := rfl
section ZSM
variable {N w b K nm : Nat} {F ρ α π : Nat → Nat} {C C' : zC} {M : zM} {r : zv_X} {ra : Nat → Nat} {μs : Nat → zMu} {μ : zMu} {a : Nat} {o : Option (List Nat × (Nat → Nat))}
theorem zF9.rf : zF9 C C := ⟨fun _ _ _ => rfl, rfl⟩
theorem zF9.tr {C1 C2 : zC} (h : zF9 C C1) (h' : zF9 C1 C2) : zF9 C C2 := ⟨fun o k e => (h'.1 o k e).trans (h.1 o k e), h'.2.trans h.2⟩
theorem zF9.I {k : Nat} {v : Int32} (h : 9 ≤ k) : zF9 C (zI C 9 k v) := ⟨fun o j e => by rw [zI1, if_neg (by omega)], rfl⟩
theorem zEv.cong (h : zEv b K F ρ α π r C M nm ra μs) (h1 : ∀ o k, o < 9 → C'.1 o k = C.1 o k) (h2 : C'.2.2 = C.2.2) : zEv b K F ρ α π r C' M nm ra μs := by
  obtain ⟨a1, a2, a3, a4, a5⟩ := h
  refine ⟨a1.cong (h1 1 3 (by decide)) (funext fun k => h1 2 k (by decide)) (funext fun k => h1 3 k (by decide)) (funext fun k => h1 4 k (by decide)) rfl rfl rfl rfl, ?_, a3, by rw [h2]; exact a4, a5⟩
  unfold zLst at a2 ⊢
  rw [h1 8 2 (by decide), h2]
  exact a2
theorem zEv.f9 (h : zEv b K F ρ α π r C M nm ra μs) (h' : zF9 C C') : zEv b K F ρ α π r C' M nm ra μs := h.cong (fun o k e => h'.1 o k (by omega)) (by rw [h'.2])
theorem zEv.R (h : zEv b K F ρ α π r C M nm ra μs) : zRt b r (ra nm) (μs nm) := (h.2.2.2.2 nm (Nat.le_refl nm)).1
theorem zEv.ok (h : zEv b K F ρ α π r C M nm ra μs) : zMuOk K (μs nm) := (h.2.2.2.2 nm (Nat.le_refl nm)).2
/-- fields of a routine -/
theorem ze_f2 {M0 : zM} (hR : zRt b r a μ) : zm_I (zc w b C M0 r) a 6 2 = some (Int32.ofNat (uNa μ)) := by
  obtain ⟨ha, cf, hf, r1, r2, r3, r4, r5⟩ := hR
  unfold zm_I; rw [zo_g ((zc_o ha).trans r1)]; rfl
theorem ze_f3 {M0 : zM} (hR : zRt b r a μ) : zm_I (zc w b C M0 r) a 6 3 = some (Int32.ofNat (zpk (uKd μ) (uNa μ))) := by
  obtain ⟨ha, cf, hf, r1, r2, r3, r4, r5⟩ := hR
  unfold zm_I; rw [zo_g ((zc_o ha).trans r1)]; rfl
theorem ze_f4 {M0 : zM} (hR : zRt b r a μ) : zm_I (zc w b C M0 r) a 6 4 = some (Int32.ofNat (uLo μ)) := by
  obtain ⟨ha, cf, hf, r1, r2, r3, r4, r5⟩ := hR
  unfold zm_I; rw [zo_g ((zc_o ha).trans r1)]; rfl
theorem ze_f5 {M0 : zM} (hR : zRt b r a μ) : zm_I (zc w b C M0 r) a 6 5 = some (Int32.ofNat (uSk μ)) := by
  obtain ⟨ha, cf, hf, r1, r2, r3, r4, r5⟩ := hR
  unfold zm_I; rw [zo_g ((zc_o ha).trans r1)]; rfl
theorem ze_f6 {M0 : zM} (hR : zRt b r a μ) : zm_I (zc w b C M0 r) a 6 6 = some (Int32.ofNat (uRs μ)) := by
  obtain ⟨ha, cf, hf, r1, r2, r3, r4, r5⟩ := hR
  unfold zm_I; rw [zo_g ((zc_o ha).trans r1)]; rfl
theorem ze_f0 {M0 : zM} (hR : zRt b r a μ) : zm_R (zc w b C M0 r) a 6 0 = some (a + 1) := by
  obtain ⟨ha, cf, hf, r1, r2, r3, r4, r5⟩ := hR
  unfold zm_R; rw [zo_g ((zc_o ha).trans r1)]; rfl
theorem ze_f1 {M0 : zM} (hR : zRt b r a μ) : zm_R (zc w b C M0 r) a 6 1 = some (a + 2) := by
  obtain ⟨ha, cf, hf, r1, r2, r3, r4, r5⟩ := hR
  unfold zm_R; rw [zo_g ((zc_o ha).trans r1)]; rfl
theorem ze_n0 {M0 : zM} (hR : zRt b r a μ) (hK : zMuOk K μ) : zm_n (zc w b C M0 r) (a + 1) = some (Int32.ofNat (uLen μ)) := by
  obtain ⟨ha, cf, hf, r1, r2, r3, r4, r5⟩ := hR
  exact zo_n ((zc_o (by omega)).trans r2) (by have := hK.1; omega)
theorem ze_n1 {M0 : zM} (hR : zRt b r a μ) (hK : zMuOk K μ) : zm_n (zc w b C M0 r) (a + 2) = some (Int32.ofNat (4 * uH μ)) := by
  obtain ⟨ha, cf, hf, r1, r2, r3, r4, r5⟩ := hR
  exact zo_n ((zc_o (by omega)).trans r3) (by have := hK.2.2.1; omega)
theorem ze_a1 {M0 : zM} {i : Nat} (hR : zRt b r a μ) (hK : zMuOk K μ) (hi : i < 4 * uH μ) : zm_aI (zc w b C M0 r) (a + 2) (Int32.ofNat i) = some (Int32.ofNat (uHs μ i)) := by
  obtain ⟨ha, cf, hf, r1, r2, r3, r4, r5⟩ := hR
  rw [zo_aI ((zc_o (by omega)).trans r3) hi (by have := hK.2.2.1; omega), r5 i hi]
/-- require -/
def zrq (C : zC) (v : Int32) : zC := if v = 0 then zI C 9 9 0 else C
theorem zd_req (v : Int32) : zHC w b (mX3_require N (b + 9) v) C r id (zrq C v) r := by
  intro M0
  unfold mX3_require mX3_require_0 mX3_require_9 zrq
  by_cases c : v = 0
  · rw [if_pos c, if_pos c, zqp_9_9, Option.bind_some]; rfl
  · rw [if_neg c, if_neg c]; rfl
theorem zd_reqr {M0 : zM} (v : Int32) : mX3_require N (b + 9) v (zc w b C M0 r) = some (zc w b (zrq C v) M0 r) := zd_req v M0
theorem zrq_f9 {v : Int32} : zF9 C (zrq C v) := by
  unfold zrq
  split
  · exact zF9.I (by decide)
  · exact zF9.rf
theorem zrq_B {v : Int32} (h : C.1 9 9 = 0) : (zrq C v).1 9 9 = 0 := by
  unfold zrq
  split
  · rfl
  · exact h
theorem zrq_k {v : Int32} {k : Nat} (h : k ≠ 9) : (zrq C v).1 9 k = C.1 9 k := by
  unfold zrq
  split
  · rw [zI1, if_neg (by omega)]
  · rfl
theorem zrq_0 : (zrq C 0).1 9 9 = 0 := rfl
theorem zrq_1 : zrq C 1 = C := if_neg (by decide)
theorem zO.rq1 (h : zO C o) : zO (zrq C 1) o := by rw [zrq_1]; exact h
theorem zO.rq0 : zO (zrq C 0) none := rfl
/-- take -/
def ztk (C : zC) (kinds : Int32) (n : Nat) : zC := zI (zrq C (if C.1 9 10 &&& Int32.ofNat (2 ^ (2 * n) - 1) = kinds then 1 else 0)) 9 10 ((Int32.toUInt32 (C.1 9 10) >>> (Int32.toUInt32 (Int32.ofNat (2 * n)) &&& Int32.toUInt32 31)).toInt32)
theorem zd_take0 {n : Nat} (hn : n ≤ 3) (kinds : Int32) : zHC w b (mX3_take_29 N (b + 9) kinds (Int32.ofNat (2 * n))) C r id (ztk C kinds n) r := by
  intro M0
  have e : ∀ n, n ≤ 3 → ((1 : Int32) <<< (Int32.ofNat (2 * n) &&& 31)) - 1 = Int32.ofNat (2 ^ (2 * n) - 1) := by decide +kernel
  have key : ∀ v : Int32, mX3_take_50 N (b + 9) (Int32.ofNat (2 * n)) v (b + 9) (zc w b C M0 r) = some (zc w b (zI (zrq C v) 9 10 ((Int32.toUInt32 (C.1 9 10) >>> (Int32.toUInt32 (Int32.ofNat (2 * n)) &&& Int32.toUInt32 31)).toInt32)) M0 r) := fun v => by
    unfold mX3_take_50
    rw [if_pos zqk_9, zd_reqr v, Option.bind_some]
    rw [zqg_9_10, Option.bind_some, zrq_k (by decide), zqp_9_10, Option.bind_some]
  unfold mX3_take_29
  rw [zqg_9_10, Option.bind_some, e n hn]
  by_cases c : C.1 9 10 &&& Int32.ofNat (2 ^ (2 * n) - 1) = kinds
  · rw [if_pos c, key]; unfold ztk; rw [if_pos c]; rfl
  · rw [if_neg c, key]; unfold ztk; rw [if_neg c]; rfl
theorem zkS.nil : zkS [] := fun k hk => absurd hk (List.not_mem_nil)
theorem zd_take1 {ks : List Nat} (hk : zkS ks) (hl : ks.length ≤ 3) : mX3_take N (b + 9) (Int32.ofNat (zpS ks)) = mX3_take_29 N (b + 9) (Int32.ofNat (zpS ks)) (Int32.ofNat (2 * ks.length)) := by
  funext x
  unfold mX3_take mX3_take_0
  have l1 := zps_lt hk
  cases ks with
  | nil => rw [if_pos (show Int32.ofNat (zpS []) = 0 from rfl)]; rfl
  | cons k1 ks =>
    have h1 := hk.hd
    cases ks with
    | nil =>
      have e : zpS [k1] = k1 := rfl
      have e2 : Int32.ofNat (2 * [k1].length) = 2 := rfl
      rw [e, e2, zi_l0, zi_l4, zi_l16, if_neg (by rw [zi_eq (by omega) (by omega)]; omega), if_neg (by rw [zi_le (by omega) (by omega)]; omega)]
    | cons k2 ks =>
      have h2 := hk.tl.hd
      cases ks with
      | nil =>
        have e : zpS [k1, k2] = k1 + 4 * k2 := rfl
        have e2 : Int32.ofNat (2 * [k1, k2].length) = 4 := rfl
        rw [e, e2, zi_l0, zi_l16, if_neg (by rw [zi_eq (by omega) (by omega)]; omega), if_pos (by rw [show (4 : Int32) = Int32.ofNat 4 from rfl, zi_le (by omega) (by omega)]; omega), if_neg (by rw [zi_le (by omega) (by omega)]; omega)]
      | cons k3 ks =>
        have h3 := hk.tl.tl.hd
        cases ks with
        | nil =>
          have e : zpS [k1, k2, k3] = k1 + 4 * (k2 + 4 * k3) := rfl
          have e2 : Int32.ofNat (2 * [k1, k2, k3].length) = 6 := rfl
          rw [e, e2, zi_l0, zi_l4, if_neg (by rw [zi_eq (by omega) (by omega)]; omega), if_pos (by rw [zi_le (by omega) (by omega)]; omega), if_pos (by rw [show (16 : Int32) = Int32.ofNat 16 from rfl, zi_le (by omega) (by omega)]; omega)]
        | cons k4 ks => have : ks.length + 4 ≤ 3 := hl; omega
theorem ztk_f9 {kinds : Int32} {n : Nat} : zF9 C (ztk C kinds n) := by
  unfold ztk
  exact zrq_f9.tr (zF9.I (by decide))
theorem ztk_B {kinds : Int32} {n : Nat} (h : C.1 9 9 = 0) : (ztk C kinds n).1 9 9 = 0 := by
  unfold ztk
  rw [zI1, if_neg (by decide)]
  exact zrq_B h
theorem zd_take {ks : List Nat} (hk : zkS ks) (hl : ks.length ≤ 3) (h : zO C o) : ∃ C', zHC w b (mX3_take N (b + 9) (Int32.ofNat (zpS ks))) C r id C' r ∧ zF9 C C' ∧ zO C' (o.bind fun v => (zpop ks v.1).map fun s => (s, v.2)) := by
  rw [zd_take1 hk hl]
  refine ⟨_, zd_take0 hl _, ztk_f9, ?_⟩
  cases o with
  | none => exact ztk_B h
  | some v =>
    obtain ⟨h1, h2, h3, h4, h5, h6⟩ := h
    have hb : zpS v.1 < 2 ^ 32 := Nat.lt_of_lt_of_le ((zps_len h4 (s := 12)).mpr h5) (by decide)
    have e4 : 2 ^ (2 * ks.length) = 4 ^ ks.length := by rw [Nat.pow_mul]
    have kb : zpS ks < 2 ^ 31 := Nat.lt_of_lt_of_le ((zps_len hk (s := 12)).mpr (by omega)) (by decide)
    rw [Option.bind_some]
    unfold ztk
    rw [h2, zps_lo hb (by omega), zps_sh hb (by omega), e4]
    have mb : zpS v.1 % 4 ^ ks.length < 2 ^ 31 := by
      have h7 : zpS v.1 % 4 ^ ks.length ≤ zpS v.1 := Nat.mod_le _ _
      have h8 := (zps_len h4 (s := 12)).mpr h5
      have : (4 : Nat) ^ 12 < 2 ^ 31 := by decide
      omega
    rcases zpop_ps hk h4 with ⟨a1, a2⟩ | ⟨st', a1, a2, a3⟩
    · rw [a1, if_neg (by rw [zi_eq mb kb]; exact a2)]
      rfl
    · rw [a1, if_pos (by rw [a2]), zrq_1]
      obtain ⟨k1, k2⟩ := zpop_k h4 a1
      refine ⟨by rw [zI1, if_neg (by decide)]; exact h1, by rw [zI1, if_pos ⟨rfl, rfl⟩, a3], by rw [zI1, if_neg (by decide)]; exact h3, k1, Nat.le_trans k2 h5, h6⟩
/-- give -/
def zgv (C : zC) (s : Nat) (k : Int32) : zC := if k = 0 then C else zrq (zI C 9 10 ((C.1 9 10 <<< ((2 : Int32) &&& 31)) ||| k)) (if ((Int32.toUInt32 ((C.1 9 10 <<< ((2 : Int32) &&& 31)) ||| k) >>> (Int32.toUInt32 (Int32.ofNat (2 * s)) &&& Int32.toUInt32 31)).toInt32) = 0 then 1 else 0)
theorem zd_give0 (hR : zRt b r a μ) (h8 : C.2.2 9 8 = .ref a) (k : Int32) : zHC w b (mX3_give N (b + 9) k) C r id (zgv C (uSk μ) k) r := by
  intro M0
  unfold mX3_give mX3_give_0 zgv
  by_cases c : k = 0
  · rw [if_pos c, if_pos c]; rfl
  · rw [if_neg c, if_neg c, zqg_9_10, Option.bind_some, zqp_9_10, Option.bind_some, zqg_9_10, Option.bind_some, zI1, if_pos ⟨rfl, rfl⟩, zqg_9_8 (show (zI C 9 10 ((C.1 9 10 <<< ((2 : Int32) &&& 31)) ||| k)).2.2 9 8 = .ref a from h8), Option.bind_some, ze_f5 hR, Option.bind_some, zi_l2, zi_mul]
    have key : ∀ v : Int32, mX3_give_40 N v (b + 9) (zc w b (zI C 9 10 ((C.1 9 10 <<< (Int32.ofNat 2 &&& 31)) ||| k)) M0 r) = some (zc w b (zrq (zI C 9 10 ((C.1 9 10 <<< (Int32.ofNat 2 &&& 31)) ||| k)) v) M0 r) := fun v => by
      unfold mX3_give_40
      rw [if_pos zqk_9, zd_reqr v, Option.bind_some]
    split
    · rw [key]; rfl
    · rw [key]; rfl
theorem zgv_f9 {s : Nat} {k : Int32} : zF9 C (zgv C s k) := by
  unfold zgv
  split
  · exact zF9.rf
  · exact (zF9.I (by decide)).tr zrq_f9
theorem zgv_B {s : Nat} {k : Int32} (h : C.1 9 9 = 0) : (zgv C s k).1 9 9 = 0 := by
  unfold zgv
  split
  · exact h
  · exact zrq_B (by rw [zI1, if_neg (by decide)]; exact h)
def zga (s k : Nat) (v : List Nat × (Nat → Nat)) : Option (List Nat × (Nat → Nat)) := if k = 0 then some v else if (k :: v.1).length ≤ s then some (k :: v.1, v.2) else none
theorem zgv_O {s k : Nat} (hs : s ≤ 12) (hk : k ≤ 3) (h : zO C o) : zO (zgv C s (Int32.ofNat k)) (o.bind (zga s k)) := by
  cases o with
  | none => exact zgv_B h
  | some v =>
    obtain ⟨h1, h2, h3, h4, h5, h6⟩ := h
    rw [Option.bind_some]
    unfold zgv zga
    by_cases c : k = 0
    · rw [if_pos (by rw [c]; rfl), if_pos c]
      exact ⟨h1, h2, h3, h4, h5, h6⟩
    · rw [if_neg (by rw [zi_l0, zi_eq (by omega) (by omega)]; exact c), if_neg c, h2, zps_push hk]
      have h7 := (zps_len h4 (s := 12)).mpr h5
      have h8 := h4.cons (show 1 ≤ k by omega) hk
      have h9 : zpS (k :: v.1) < 2 ^ 32 := Nat.lt_of_lt_of_le ((zps_len h8 (s := 13)).mpr (Nat.succ_le_succ h5)) (by decide)
      have e0 : k + 4 * zpS v.1 = zpS (k :: v.1) := rfl
      rw [e0, zps_sh h9 (by omega), show 2 ^ (2 * s) = 4 ^ s by rw [Nat.pow_mul]]
      have hd : zpS (k :: v.1) / 4 ^ s < 2 ^ 31 := by
        have := Nat.div_le_self (zpS (k :: v.1)) (4 ^ s)
        have := (zps_len h8 (s := 13)).mpr (Nat.succ_le_succ h5)
        have : (4 : Nat) ^ 13 < 2 ^ 31 := by decide
        omega
      have hz : (Int32.ofNat (zpS (k :: v.1) / 4 ^ s) = 0) = ((k :: v.1).length ≤ s) := by
        rw [zi_l0, zi_eq hd (by decide)]
        refine propext ?_
        rw [← zps_len h8, Nat.div_eq_zero_iff]
        have : 0 < 4 ^ s := Nat.pow_pos (by decide)
        omega
      by_cases d : (k :: v.1).length ≤ s
      · rw [if_pos d, if_pos (by rw [hz]; exact d), zrq_1]
        exact ⟨by rw [zI1, if_neg (by decide)]; exact h1, by rw [zI1, if_pos ⟨rfl, rfl⟩], by rw [zI1, if_neg (by decide)]; exact h3, h8, Nat.le_trans d hs, h6⟩
      · rw [if_neg d, if_neg (by rw [hz]; exact d)]
        exact zO.rq0
/-- takeNarrow -/
def ztn (C : zC) : zC := zI (zrq C (if C.1 9 10 &&& Int32.ofNat 3 = Int32.ofNat 1 ∨ C.1 9 10 &&& Int32.ofNat 3 = Int32.ofNat 3 then 1 else 0)) 9 10 ((Int32.toUInt32 (C.1 9 10) >>> (Int32.toUInt32 (Int32.ofNat 2) &&& Int32.toUInt32 31)).toInt32)
theorem zd_narrow : zHC w b (mX3_takeNarrow N (b + 9)) C r (fun x => (x, C.1 9 10 &&& Int32.ofNat 3)) (ztn C) r := by
  intro M0
  have key : ∀ v : Int32, ∀ l1, mX3_takeNarrow_23 N (b + 9) l1 v (b + 9) (zc w b C M0 r) = some (zc w b (zI (zrq C v) 9 10 ((Int32.toUInt32 (C.1 9 10) >>> (Int32.toUInt32 (Int32.ofNat 2) &&& Int32.toUInt32 31)).toInt32)) M0 r, l1) := fun v l1 => by
    unfold mX3_takeNarrow_23
    rw [if_pos zqk_9, zd_reqr v, Option.bind_some]
    rw [zqg_9_10, Option.bind_some, zrq_k (by decide), zqp_9_10, Option.bind_some]
    rfl
  unfold mX3_takeNarrow mX3_takeNarrow_0 mX3_takeNarrow_18
  rw [zqg_9_10, Option.bind_some]
  unfold ztn
  rw [show (3 : Int32) = Int32.ofNat 3 from rfl, show (1 : Int32) = Int32.ofNat 1 from rfl]
  by_cases c1 : C.1 9 10 &&& Int32.ofNat 3 = Int32.ofNat 1
  · rw [if_pos c1, if_pos (Or.inl c1), key]
  · rw [if_neg c1]
    by_cases c3 : C.1 9 10 &&& Int32.ofNat 3 = Int32.ofNat 3
    · rw [if_pos c3, if_pos (Or.inr c3), key]
    · rw [if_neg c3, if_neg (by rintro (h | h); exact c1 h; exact c3 h), key]
theorem ztn_f9 : zF9 C (ztn C) := by
  unfold ztn
  exact zrq_f9.tr (zF9.I (by decide))
theorem ztn_B (h : C.1 9 9 = 0) : (ztn C).1 9 9 = 0 := by
  unfold ztn
  rw [zI1, if_neg (by decide)]
  exact zrq_B h
theorem ztn_O {v : List Nat × (Nat → Nat)} (h : zO C (some v)) : (∃ k st, v.1 = k :: st ∧ (k = 1 ∨ k = 3) ∧ C.1 9 10 &&& Int32.ofNat 3 = Int32.ofNat k ∧ zO (ztn C) (some (st, v.2))) ∨ ((ztn C).1 9 9 = 0 ∧ ∀ k st, v.1 = k :: st → ¬ (k = 1 ∨ k = 3)) := by
  obtain ⟨h1, h2, h3, h4, h5, h6⟩ := h
  have hb : zpS v.1 < 2 ^ 32 := Nat.lt_of_lt_of_le ((zps_len h4 (s := 12)).mpr h5) (by decide)
  have e1 : C.1 9 10 &&& Int32.ofNat 3 = Int32.ofNat (zpS v.1 % 4) := by
    have := zps_lo hb (m := 2) (by decide)
    rw [h2]
    exact this
  have lt : zpS v.1 % 4 < 2 ^ 31 := by omega
  unfold ztn
  have hc : (Int32.ofNat (zpS v.1 % 4) = Int32.ofNat 1 ∨ Int32.ofNat (zpS v.1 % 4) = Int32.ofNat 3) ↔ (zpS v.1 % 4 = 1 ∨ zpS v.1 % 4 = 3) := by rw [zi_eq lt (by decide), zi_eq lt (by decide)]
  rw [e1, h2, zps_sh hb (by decide)]
  cases hv : v.1 with
  | nil =>
    right
    refine ⟨?_, fun k st e => by cases e⟩
    rw [if_neg (by decide)]
    rfl
  | cons k st =>
    rw [hv] at h4 h5 hc
    have hk := h4.hd
    have e2 : zpS (k :: st) % 4 = k := by show (k + 4 * zpS st) % 4 = k; omega
    have e3 : zpS (k :: st) / 2 ^ 2 = zpS st := by show (k + 4 * zpS st) / 4 = _; omega
    rw [e2] at hc
    rw [e2, e3]
    by_cases c : k = 1 ∨ k = 3
    · left
      rw [if_pos (hc.mpr c), zrq_1]
      exact ⟨k, st, rfl, c, rfl, by rw [zI1, if_neg (by decide)]; exact h1, by rw [zI1, if_pos ⟨rfl, rfl⟩], by rw [zI1, if_neg (by decide)]; exact h3, h4.tl, Nat.le_of_succ_le h5, h6⟩
    · right
      rw [if_neg (fun e => c (hc.mp e))]
      refine ⟨rfl, fun k' st' e => ?_⟩
      injection e with e4 e5
      rw [← e4]
      exact c
end ZSM
