/-! ===== the class's judge: heed ===== -/
def zhg (E : zEn) (m : Nat) (μ : zMu) (op a b : Nat) (v : List Nat × (Nat → Nat)) : Option (List Nat × (Nat → Nat)) := (zheed E m μ op a b v.1 v.2).bind fun q => if q.1.length ≤ uSk μ then some q else none
section ZHE
variable {N w b K nm p : Nat} {F ρ α π : Nat → Nat} {C C' : zC} {M : zM} {r : zv_X} {ra : Nat → Nat} {μs : Nat → zMu} {μ : zMu} {a : Nat} {o : Option (List Nat × (Nat → Nat))} {E : zEn} {m : Nat} {x y : Nat}
theorem zd_giver {M0 : zM} (hE : zEv b K F ρ α π r C M nm ra μs) (k : Int32) : mX3_give N (b + 9) k (zc w b C M0 r) = some (zc w b (zgv C (uSk (μs nm)) k) M0 r) := zd_give0 hE.R hE.2.2.2.1 k M0
theorem zd_narrowr {M0 : zM} : mX3_takeNarrow N (b + 9) (zc w b C M0 r) = some (zc w b (ztn C) M0 r, C.1 9 10 &&& Int32.ofNat 3) := zd_narrow M0
theorem zd_dup (hE : zEv b K F ρ α π r C M nm ra μs) (h : zO C o) (hl : ∀ v, o = some v → v.1.length ≤ uSk (μs nm)) : ∃ C', zHC w b (mX3_duplicate N (b + 9)) C r id C' r ∧ zF9 C C' ∧ zO C' (o.bind (zhg E m (μs nm) 89 x y)) := by
  have h12 : uSk (μs nm) ≤ 12 := hE.ok.2.2.2.2.2.2.2.2.2.1
  refine ⟨zgv (zgv (ztn C) (uSk (μs nm)) (C.1 9 10 &&& Int32.ofNat 3)) (uSk (μs nm)) (C.1 9 10 &&& Int32.ofNat 3), fun M0 => ?_, ztn_f9.tr (zgv_f9.tr zgv_f9), ?_⟩
  · unfold mX3_duplicate mX3_duplicate_0
    rw [if_pos zqk_9, zd_narrowr, Option.bind_some]
    show (if zm_k (zc w b (ztn C) M0 r) (b + 9) 3 = true then (mX3_give N (b + 9) (C.1 9 10 &&& Int32.ofNat 3) (zc w b (ztn C) M0 r)).bind _ else none) = _
    rw [if_pos zqk_9, zd_giver (hE.f9 ztn_f9), Option.bind_some, if_pos zqk_9, zd_giver (hE.f9 (ztn_f9.tr zgv_f9)), Option.bind_some]
    rfl
  · cases o with
    | none => exact zgv_B (zgv_B (ztn_B h))
    | some v =>
      have hv := hl v rfl
      rw [Option.bind_some]
      rcases ztn_O h with ⟨k, st, e1, e2, e3, e4⟩ | ⟨e1, e2⟩
      · rw [e3]
        have k1 := zgv_O (s := uSk (μs nm)) (k := k) h12 (by omega) e4
        rw [Option.bind_some] at k1
        have k2 := zgv_O (s := uSk (μs nm)) (k := k) h12 (by omega) k1
        have e5 : zhg E m (μs nm) 89 x y v = (zga (uSk (μs nm)) k (st, v.2)).bind (zga (uSk (μs nm)) k) := by
          unfold zhg zga
          rw [e1] at hv ⊢
          show (if k = 1 ∨ k = 3 then some (k :: k :: st, v.2) else none).bind _ = _
          rw [if_pos e2, if_neg (show k ≠ 0 by omega), if_pos hv, Option.bind_some, Option.bind_some, if_neg (show k ≠ 0 by omega)]
        rw [e5]
        exact k2
      · have e5 : zhg E m (μs nm) 89 x y v = none := by
          unfold zhg
          cases hq : v.1 with
          | nil => rfl
          | cons k st =>
            show (if k = 1 ∨ k = 3 then some (k :: k :: st, v.2) else none).bind _ = _
            rw [if_neg (e2 k st hq)]
            rfl
        rw [e5]
        exact zgv_B (zgv_B e1)
theorem zd_exch (hE : zEv b K F ρ α π r C M nm ra μs) (h : zO C o) (hl : ∀ v, o = some v → v.1.length ≤ uSk (μs nm)) : ∃ C', zHC w b (mX3_exchange N (b + 9)) C r id C' r ∧ zF9 C C' ∧ zO C' (o.bind (zhg E m (μs nm) 95 x y)) := by
  have h12 : uSk (μs nm) ≤ 12 := hE.ok.2.2.2.2.2.2.2.2.2.1
  refine ⟨zgv (zgv (ztn (ztn C)) (uSk (μs nm)) (C.1 9 10 &&& Int32.ofNat 3)) (uSk (μs nm)) ((ztn C).1 9 10 &&& Int32.ofNat 3), fun M0 => ?_, (ztn_f9.tr ztn_f9).tr (zgv_f9.tr zgv_f9), ?_⟩
  · unfold mX3_exchange mX3_exchange_0
    rw [if_pos zqk_9, zd_narrowr, Option.bind_some]
    show (if zm_k (zc w b (ztn C) M0 r) (b + 9) 3 = true then (mX3_takeNarrow N (b + 9) (zc w b (ztn C) M0 r)).bind _ else none) = _
    rw [if_pos zqk_9, zd_narrowr, Option.bind_some]
    show (if zm_k (zc w b (ztn (ztn C)) M0 r) (b + 9) 3 = true then (mX3_give N (b + 9) (C.1 9 10 &&& Int32.ofNat 3) (zc w b (ztn (ztn C)) M0 r)).bind _ else none) = _
    rw [if_pos zqk_9, zd_giver (hE.f9 (ztn_f9.tr ztn_f9)), Option.bind_some]
    show (if zm_k _ (b + 9) 3 = true then (mX3_give N (b + 9) ((ztn C).1 9 10 &&& Int32.ofNat 3) (zc w b (zgv (ztn (ztn C)) (uSk (μs nm)) (C.1 9 10 &&& Int32.ofNat 3)) M0 r)).bind _ else none) = _
    rw [if_pos zqk_9, zd_giver (hE.f9 ((ztn_f9.tr ztn_f9).tr zgv_f9)), Option.bind_some]
    rfl
  · cases o with
    | none => exact zgv_B (zgv_B (ztn_B (ztn_B h)))
    | some v =>
      have hv := hl v rfl
      rw [Option.bind_some]
      rcases ztn_O h with ⟨k, st, e1, e2, e3, e4⟩ | ⟨e1, e2⟩
      · rcases ztn_O e4 with ⟨j, st2, f1, f2, f3, f4⟩ | ⟨f1, f2⟩
        · rw [e3, f3]
          have k1 := zgv_O (s := uSk (μs nm)) (k := k) h12 (by omega) f4
          rw [Option.bind_some] at k1
          have k2 := zgv_O (s := uSk (μs nm)) (k := j) h12 (by omega) k1
          have e5 : zhg E m (μs nm) 95 x y v = (zga (uSk (μs nm)) k (st2, v.2)).bind (zga (uSk (μs nm)) j) := by
            unfold zhg zga
            have f1' : st = j :: st2 := f1
            rw [e1, f1'] at hv ⊢
            have hv' : st2.length + 1 + 1 ≤ uSk (μs nm) := hv
            show (if (k = 1 ∨ k = 3) ∧ (j = 1 ∨ j = 3) then some (j :: k :: st2, v.2) else none).bind _ = _
            rw [if_pos ⟨e2, f2⟩, if_neg (show k ≠ 0 by omega), if_pos (show (k :: st2).length ≤ uSk (μs nm) by show st2.length + 1 ≤ _; omega), Option.bind_some, Option.bind_some, if_neg (show j ≠ 0 by omega)]
          rw [e5]
          exact k2
        · have e5 : zhg E m (μs nm) 95 x y v = none := by
            unfold zhg
            rw [e1]
            cases hq : st with
            | nil => rfl
            | cons j st2 =>
              show (if (k = 1 ∨ k = 3) ∧ (j = 1 ∨ j = 3) then some (j :: k :: st2, v.2) else none).bind _ = _
              rw [if_neg (fun e => f2 j st2 hq e.2)]
              rfl
          rw [e5]
          exact zgv_B (zgv_B f1)
      · have e5 : zhg E m (μs nm) 95 x y v = none := by
          unfold zhg
          cases hq : v.1 with
          | nil => rfl
          | cons k st =>
            cases hq2 : st with
            | nil => rfl
            | cons j st2 =>
              show (if (k = 1 ∨ k = 3) ∧ (j = 1 ∨ j = 3) then some (j :: k :: st2, v.2) else none).bind _ = _
              rw [if_neg (fun e => e2 k st hq e.1)]
              rfl
        rw [e5]
        exact zgv_B (zgv_B (ztn_B e1))
theorem zd_pop (hE : zEv b K F ρ α π r C M nm ra μs) (h : zO C o) (hl : ∀ v, o = some v → v.1.length ≤ uSk (μs nm)) : zF9 C (ztn C) ∧ zO (ztn C) (o.bind (zhg E m (μs nm) 87 x y)) := by
  refine ⟨ztn_f9, ?_⟩
  cases o with
  | none => exact ztn_B h
  | some v =>
    have hv := hl v rfl
    rw [Option.bind_some]
    rcases ztn_O h with ⟨k, st, e1, e2, e3, e4⟩ | ⟨e1, e2⟩
    · have e5 : zhg E m (μs nm) 87 x y v = some (st, v.2) := by
        unfold zhg
        rw [e1] at hv ⊢
        have hv' : st.length + 1 ≤ uSk (μs nm) := hv
        show (if k = 1 ∨ k = 3 then some (st, v.2) else none).bind _ = _
        rw [if_pos e2, Option.bind_some, if_pos (show st.length ≤ uSk (μs nm) by omega)]
      rw [e5]
      exact e4
    · have e5 : zhg E m (μs nm) 87 x y v = none := by
        unfold zhg
        cases hq : v.1 with
        | nil => rfl
        | cons k st =>
          show (if k = 1 ∨ k = 3 then some (st, v.2) else none).bind _ = _
          rw [if_neg (e2 k st hq)]
          rfl
      rw [e5]
      exact e1
/-- locals -/
theorem zd_readL {n : Nat} (hE : zEv b K F ρ α π r C M nm ra μs) (hn : n < 256) (k : Int32) : zHC w b (mX3_readLocal N (b + 9) (Int32.ofNat n) k) C r id (zrq C (if n < uLo (μs nm) ∧ (Int32.toUInt32 (C.1 9 11) >>> (Int32.toUInt32 (Int32.ofNat (2 * n)) &&& Int32.toUInt32 31)).toInt32 &&& Int32.ofNat 3 = k then 1 else 0)) r := by
  intro M0
  have h16 : uLo (μs nm) ≤ 16 := hE.ok.2.2.2.2.2.2.2.2.1
  have key : ∀ v : Int32, mX3_readLocal_31 N v (b + 9) (zc w b C M0 r) = some (zc w b (zrq C v) M0 r) := fun v => by
    unfold mX3_readLocal_31
    rw [if_pos zqk_9, zd_reqr v, Option.bind_some]
  unfold mX3_readLocal mX3_readLocal_0 mX3_readLocal_30
  rw [zqg_9_8 hE.2.2.2.1, Option.bind_some, ze_f4 hE.R, Option.bind_some]
  by_cases c : n < uLo (μs nm)
  · rw [if_neg (by rw [zi_le (by omega) (by omega)]; omega), zqg_9_11, Option.bind_some, zi_l2, zi_mul, zi_l3]
    by_cases d : (Int32.toUInt32 (C.1 9 11) >>> (Int32.toUInt32 (Int32.ofNat (2 * n)) &&& Int32.toUInt32 31)).toInt32 &&& Int32.ofNat 3 = k
    · rw [if_pos d, key, if_pos ⟨c, d⟩]; rfl
    · rw [if_neg d, key, if_neg (fun e => d e.2)]; rfl
  · rw [if_pos (by rw [zi_le (by omega) (by omega)]; omega), key, if_neg (fun e => c e.1)]; rfl
theorem zd_setL {n : Nat} (hE : zEv b K F ρ α π r C M nm ra μs) (hn : n < 256) (k : Int32) : zHC w b (mX3_setLocal N (b + 9) (Int32.ofNat n) k) C r id (zI (zrq C (if n < uLo (μs nm) then 1 else 0)) 9 11 ((C.1 9 11 &&& ((Int32.ofNat 3 <<< (Int32.ofNat (2 * n) &&& 31)) ^^^ (-1 : Int32))) ||| (k <<< (Int32.ofNat (2 * n) &&& 31)))) r := by
  intro M0
  have h16 : uLo (μs nm) ≤ 16 := hE.ok.2.2.2.2.2.2.2.2.1
  have key : ∀ v : Int32, mX3_setLocal_17 N (b + 9) (Int32.ofNat n) k v (b + 9) (zc w b C M0 r) = some (zc w b (zI (zrq C v) 9 11 ((C.1 9 11 &&& ((Int32.ofNat 3 <<< (Int32.ofNat (2 * n) &&& 31)) ^^^ (-1 : Int32))) ||| (k <<< (Int32.ofNat (2 * n) &&& 31)))) M0 r) := fun v => by
    unfold mX3_setLocal_17
    rw [if_pos zqk_9, zd_reqr v, Option.bind_some, zqg_9_11, Option.bind_some, zrq_k (by decide), zi_l2, zi_mul, zqp_9_11, Option.bind_some]
    rfl
  unfold mX3_setLocal mX3_setLocal_0
  rw [zqg_9_8 hE.2.2.2.1, Option.bind_some, ze_f4 hE.R, Option.bind_some]
  by_cases c : n < uLo (μs nm)
  · rw [if_neg (by rw [zi_le (by omega) (by omega)]; omega), key, if_pos c]; rfl
  · rw [if_pos (by rw [zi_le (by omega) (by omega)]; omega), key, if_neg c]; rfl
/-- reading: what is asked of a local, whichever instruction asks -/
theorem zd_readO {n k : Nat} (hE : zEv b K F ρ α π r C M nm ra μs) (hn : n < 256) (hk : k ≤ 3) (h : zO C o) : ∃ C', zHC w b (mX3_readLocal N (b + 9) (Int32.ofNat n) (Int32.ofNat k)) C r id C' r ∧ zF9 C C' ∧ zO C' (o.bind fun v => if n < uLo (μs nm) ∧ v.2 n = k then some v else none) := by
  have h16 : uLo (μs nm) ≤ 16 := hE.ok.2.2.2.2.2.2.2.2.1
  refine ⟨_, zd_readL hE hn _, zrq_f9, ?_⟩
  cases o with
  | none => exact zrq_B h
  | some v =>
    obtain ⟨h1, h2, h3, h4, h5, h6⟩ := h
    rw [Option.bind_some]
    by_cases c : n < uLo (μs nm)
    · rw [h3, zpk_rd h6 (by omega)]
      have hv := h6.1 n
      by_cases d : v.2 n = k
      · rw [if_pos ⟨c, by rw [d]⟩, if_pos ⟨c, d⟩, zrq_1]
        exact ⟨h1, h2, h3, h4, h5, h6⟩
      · rw [if_neg (fun e => d (zi_inj (by omega) (by omega) e.2)), if_neg (fun e => d e.2)]
        exact zO.rq0
    · rw [if_neg (fun e => c e.1), if_neg (fun e => c e.1)]
      exact zO.rq0
theorem zd_setO {n k : Nat} (hE : zEv b K F ρ α π r C M nm ra μs) (hn : n < 256) (hk : k ≤ 3) (h : zO C o) : ∃ C', zHC w b (mX3_setLocal N (b + 9) (Int32.ofNat n) (Int32.ofNat k)) C r id C' r ∧ zF9 C C' ∧ zO C' (o.bind fun v => if n < uLo (μs nm) then some (v.1, zset v.2 n k) else none) := by
  have h16 : uLo (μs nm) ≤ 16 := hE.ok.2.2.2.2.2.2.2.2.1
  refine ⟨_, zd_setL hE hn _, zrq_f9.tr (zF9.I (by decide)), ?_⟩
  cases o with
  | none =>
    show (zI _ 9 11 _).1 9 9 = 0
    rw [zI1, if_neg (by decide)]
    exact zrq_B h
  | some v =>
    obtain ⟨h1, h2, h3, h4, h5, h6⟩ := h
    rw [Option.bind_some]
    by_cases c : n < uLo (μs nm)
    · rw [h3, zpk_wr h6 (by omega) hk, if_pos c, if_pos c, zrq_1]
      exact ⟨by rw [zI1, if_neg (by decide)]; exact h1, by rw [zI1, if_neg (by decide)]; exact h2, by rw [zI1, if_pos ⟨rfl, rfl⟩], h4, h5, h6.set (by omega) hk⟩
    · rw [if_neg c, if_neg c]
      rfl
/-- a check that is no matter of stack and locals -/
theorem zd_reqO (P : Prop) [Decidable P] (h : zO C o) : zO (zrq C (if P then 1 else 0)) (o.bind fun v => if P then some v else none) := by
  by_cases c : P
  · rw [if_pos c, zrq_1]
    cases o with
    | none => exact h
    | some v => rw [Option.bind_some, if_pos c]; exact h
  · rw [if_neg c]
    cases o with
    | none => exact zO.rq0
    | some v => rw [Option.bind_some, if_neg c]; exact zO.rq0
theorem zd_has {n : Nat} {M0 : zM} (hE : zEv b K F ρ α π r C M nm ra μs) (hn : n < 256) : mX7_has N (b + 1) (Int32.ofNat n) (zc w b C M0 r) = some (zc w b C M0 r, if n < K then 1 else 0) := by
  have hK : K ≤ 30 := hE.1.2.2.2.1
  rw [ze_has hE.1.1 (Int32.ofNat n) M0]
  simp only [zi_nn (show n < 2 ^ 31 by omega), zi_lt (show n < 2 ^ 31 by omega) (show K < 2 ^ 31 by omega), not_false_eq_true, true_and]
theorem zd_fk (hE : zEv b K F ρ α π r C M nm ra μs) (hp : p + 2 < uLen (μs nm)) : zHC w b (mX3_fieldKind N (b + 9) (Int32.ofNat p)) C r (fun x => (x, if uC (μs nm) (p + 1) < K ∧ uC (μs nm) (p + 2) < F (uC (μs nm) (p + 1)) then Int32.ofNat (zkf ρ (uC (μs nm) (p + 1)) (uC (μs nm) (p + 2))) else 0)) (zrq C (if uC (μs nm) (p + 1) < K ∧ uC (μs nm) (p + 2) < F (uC (μs nm) (p + 1)) then 1 else 0)) r := by
  intro M0
  have hK := hE.ok
  have b1 := hK.2.1 (p + 1) (by omega)
  have b2 := hK.2.1 (p + 2) (by omega)
  have e1 : mX6_at N (ra nm) (Int32.ofNat p + 1) (zc w b C M0 r) = some (zc w b C M0 r, Int32.ofNat (uC (μs nm) (p + 1))) := by
    rw [zi_l1, zi_add]; exact ze_at hE.R hK (by omega) M0
  have e2 : mX6_at N (ra nm) (Int32.ofNat p + 2) (zc w b C M0 r) = some (zc w b C M0 r, Int32.ofNat (uC (μs nm) (p + 2))) := by
    rw [zi_l2, zi_add]; exact ze_at hE.R hK (by omega) M0
  have k51 : ∀ s0 l2 l3, mX3_fieldKind_51 N (b + 9) l2 l3 s0 (zc w b C M0 r) = if s0 = 0 then some (zc w b (zrq C s0) M0 r, 0) else (mX7_kindOfField N (b + 1) l2 l3 (zc w b (zrq C s0) M0 r)).bind fun o5 => some (o5.1, o5.2) := fun s0 l2 l3 => by
    unfold mX3_fieldKind_51
    rw [if_pos zqk_9, zd_reqr, Option.bind_some]
    by_cases c : s0 = 0
    · rw [if_pos c, if_pos c]; rfl
    · rw [if_neg c, if_neg c, zqg_9_0, Option.bind_some, if_pos zqk_1]; rfl
  unfold mX3_fieldKind mX3_fieldKind_0 mX3_fieldKind_50
  simp only [zqg_9_8 hE.2.2.2.1, Option.bind_some, ze_kR hE.R, if_true, e1, e2, zqg_9_0, zqk_1, zd_has hE b1]
  by_cases c1 : uC (μs nm) (p + 1) < K
  · rw [if_pos c1, if_neg (by decide), zqg_1_1, Option.bind_some, zqa_3 (by have := hE.1.2.2.2.1; omega), Option.bind_some, (hE.1.2.2.2.2.2.2.1 _ c1).2.1]
    have hF := (hE.1.2.2.2.2.2.2.1 _ c1).2.2.2.2.1
    by_cases c2 : uC (μs nm) (p + 2) < F (uC (μs nm) (p + 1))
    · rw [if_neg (by rw [zi_le (by omega) (by omega)]; omega), k51, if_neg (by decide), if_pos ⟨c1, c2⟩, if_pos ⟨c1, c2⟩, zrq_1, zd_kof hE.1 c1 (by omega) M0, Option.bind_some]
      unfold zkf
      by_cases c3 : (ρ (uC (μs nm) (p + 1))).testBit (uC (μs nm) (p + 2)) = true
      · rw [if_pos c3, if_pos c3]; rfl
      · rw [if_neg c3, if_neg c3]; rfl
    · rw [if_pos (by rw [zi_le (by omega) (by omega)]; omega), k51, if_pos rfl, if_neg (fun e => c2 e.2), if_neg (fun e => c2 e.2)]
  · rw [if_neg c1, if_pos rfl, k51, if_pos rfl, if_neg (fun e => c1 e.1), if_neg (fun e => c1 e.1)]
theorem zpop_cons {k : Nat} {ks st : List Nat} : zpop (k :: ks) st = (zpop [k] st).bind (zpop ks) := by
  cases st with
  | nil => rfl
  | cons s st =>
    show (if s = k then zpop ks st else none) = (if s = k then zpop [] st else none).bind _
    by_cases c : s = k
    · rw [if_pos c, if_pos c]; rfl
    · rw [if_neg c, if_neg c]; rfl
/-- a call's arguments and its answer -/
theorem zd_pass {mc : Nat} (hmc : mc ≤ nm) : ∀ (n fuel : Nat) (C : zC) (o : Option (List Nat × (Nat → Nat))), n ≤ uNa (μs mc) → n < fuel → zEv b K F ρ α π r C M nm ra μs → zO C o → ∃ C', zHC w b (mX3_passCall_57 N fuel (b + 9) (ra mc) (Int32.ofNat n - 1)) C r id C' r ∧ zF9 C C' ∧ zO C' ((o.bind fun v => (zpop (zargs (uKd (μs mc)) n) v.1).map fun s => (s, v.2)).bind (zga (uSk (μs nm)) (uRs (μs mc))))
  | 0, fuel, C, o, _, hf, hE, h => by
    obtain ⟨fuel, rfl⟩ : ∃ g, fuel = g + 1 := ⟨fuel - 1, by omega⟩
    obtain ⟨hR, hK⟩ := hE.2.2.2.2 mc hmc
    have h12 : uSk (μs nm) ≤ 12 := hE.ok.2.2.2.2.2.2.2.2.2.1
    have h3 : uRs (μs mc) ≤ 3 := hK.2.2.2.2.2.2.2.2.2.2
    refine ⟨zgv C (uSk (μs nm)) (Int32.ofNat (uRs (μs mc))), fun M0 => ?_, zgv_f9, ?_⟩
    · unfold mX3_passCall_57
      rw [if_pos (by decide), ze_f6 hR, Option.bind_some, if_pos zqk_9, zd_giver hE, Option.bind_some]
      rfl
    · have := zgv_O (s := uSk (μs nm)) (k := uRs (μs mc)) h12 h3 h
      have e : (o.bind fun v => (zpop (zargs (uKd (μs mc)) 0) v.1).map fun s => (s, v.2)) = o := by cases o <;> rfl
      rw [e]
      exact this
  | n + 1, fuel, C, o, hn, hf, hE, h => by
    obtain ⟨fuel, rfl⟩ : ∃ g, fuel = g + 1 := ⟨fuel - 1, by omega⟩
    obtain ⟨hR, hK⟩ := hE.2.2.2.2 mc hmc
    have h4 : uNa (μs mc) ≤ 4 := hK.2.2.2.2.2.1
    have hkd := hK.2.2.2.2.2.2.1 n (by omega)
    have hk1 : zkS [uKd (μs mc) n] := zkS.nil.cons hkd.1 hkd.2
    obtain ⟨C1, t1, t2, t3⟩ := zd_take (N := N) (w := w) (b := b) (r := r) hk1 (show 1 ≤ 3 by decide) h
    obtain ⟨C2, s1, s2, s3⟩ := zd_pass hmc n fuel C1 _ (by omega) (by omega) (hE.f9 t2) t3
    refine ⟨C2, fun M0 => ?_, t2.tr s2, ?_⟩
    · have ek : mX6_kindOfArgument N (ra mc) (Int32.ofNat n) (zc w b C M0 r) = some (zc w b C M0 r, Int32.ofNat (uKd (μs mc) n)) := ze_koa hR hK (by omega) M0
      have et : mX3_take N (b + 9) (Int32.ofNat (uKd (μs mc) n)) (zc w b C M0 r) = some (zc w b C1 M0 r) := t1 M0
      have es : mX3_passCall_57 N fuel (b + 9) (ra mc) (Int32.ofNat n - 1) (zc w b C1 M0 r) = some (zc w b C2 M0 r) := s1 M0
      have e0 : Int32.ofNat (n + 1) - 1 = Int32.ofNat n := by rw [zi_l1, zi_sub (by omega)]; rfl
      rw [e0]
      unfold mX3_passCall_57
      rw [if_neg (by rw [zi_nn (by omega)]; exact not_false), if_pos (ze_kR hR), ek, Option.bind_some]
      show (if zm_k (zc w b C M0 r) (b + 9) 3 = true then (mX3_take N (b + 9) (Int32.ofNat (uKd (μs mc) n)) (zc w b C M0 r)).bind _ else none) = _
      rw [if_pos zqk_9, et, Option.bind_some]
      show mX3_passCall_57 N fuel (b + 9) (ra mc) (Int32.ofNat n + -1) (zc w b C1 M0 r) = _
      rw [← Int32.sub_eq_add_neg]
      exact es
    · have e : (o.bind fun v => (zpop (zargs (uKd (μs mc)) (n + 1)) v.1).map fun s => (s, v.2)) = ((o.bind fun v => (zpop [uKd (μs mc) n] v.1).map fun s => (s, v.2)).bind fun v => (zpop (zargs (uKd (μs mc)) n) v.1).map fun s => (s, v.2)) := by
        cases o with
        | none => rfl
        | some v =>
          rw [Option.bind_some, Option.bind_some]
          show (zpop (uKd (μs mc) n :: zargs (uKd (μs mc)) n) v.1).map _ = _
          rw [zpop_cons]
          cases zpop [uKd (μs mc) n] v.1 <;> rfl
      rw [e]
      exact s3
end ZHE
