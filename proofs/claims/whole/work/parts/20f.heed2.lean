/-! ===== the class's judge: heed, all of it ===== -/
def zshp (op : Nat) : Nat := (zsh op).1 * 65536 + zpS (zsh op).2.1 * 256 + zpS (zsh op).2.2
theorem zsh_tab : ∀ op, op < 256 → pX5_shape (Int32.ofNat op) = some (Int32.ofNat (zshp op)) := by decide +kernel
theorem zsh_tab2 : ∀ op, op < 256 → (Int32.ofNat (zshp op) >>> ((16 : Int32) &&& 31) = Int32.ofNat (zsh op).1 ∧ (Int32.ofNat (zshp op) >>> ((8 : Int32) &&& 31)) &&& (255 : Int32) = Int32.ofNat (zpS (zsh op).2.1) ∧ Int32.ofNat (zshp op) &&& (255 : Int32) = Int32.ofNat (zpS (zsh op).2.2)) := by decide +kernel
theorem zsh_tab3 : ∀ op, op < 256 → ((zsh op).2.1.length ≤ 3 ∧ (zsh op).2.2.length ≤ 1 ∧ (zsh op).1 ≤ 3 ∧ ∀ k, k ∈ (zsh op).2.1 → 1 ≤ k ∧ k ≤ 3) := by decide +kernel
theorem zsh_jump : ∀ op, op < 256 → (pX5_jumps (Int32.ofNat op) = some (if 153 ≤ op ∧ op ≤ 167 ∨ op = 198 ∨ op = 199 then 1 else 0) ∧ pX5_goesOn (Int32.ofNat op) = some (if op < 167 ∨ 177 < op ∧ op ≠ 191 then 1 else 0)) := by decide +kernel
theorem zsort_tab : ∀ a, a < 256 → pX3_isSortOfNumbers (Int32.ofNat a) = some (if 4 ≤ a ∧ a ≤ 11 ∧ a ≠ 6 ∧ a ≠ 7 then 1 else 0) := by decide +kernel
section ZH2
variable {N w b K nm p : Nat} {F ρ α π : Nat → Nat} {C C' : zC} {M : zM} {r : zv_X} {ra : Nat → Nat} {μs : Nat → zMu} {o : Option (List Nat × (Nat → Nat))} {E : zEn} {m : Nat} {μ : zMu}
theorem zhg_if (P : Prop) [Decidable P] {op x y : Nat} {v q : List Nat × (Nat → Nat)} (h : zheed E m μ op x y v.1 v.2 = if P then some q else none) (hq : P → q.1.length ≤ uSk μ) : zhg E m μ op x y v = if P then some q else none := by
  unfold zhg
  rw [h]
  by_cases c : P
  · rw [if_pos c, Option.bind_some, if_pos (hq c)]
  · rw [if_neg c]; rfl
theorem zd_atr {M0 : zM} {j : Nat} (hE : zEv b K F ρ α π r C M nm ra μs) (hp : p + j < uLen (μs nm)) : mX6_at N (ra nm) (Int32.ofNat p + Int32.ofNat j) (zc w b C M0 r) = some (zc w b C M0 r, Int32.ofNat (uC (μs nm) (p + j))) := by
  rw [zi_add]; exact ze_at hE.R hE.ok hp M0
theorem zd_h180 {op k : Nat} (hE : zEv b K F ρ α π r C M nm ra μs) (h : zO C o) (hl : ∀ v, o = some v → v.1.length ≤ uSk (μs nm)) (hp : p + 1 < uLen (μs nm)) (hk : k ≤ 3) (e1 : mX3_heed N (b + 9) (Int32.ofNat op) (Int32.ofNat p) (Int32.ofNat (zshp op)) = fun x => (zm_R x (b + 9) 3 8).bind fun v1 => if zm_k x v1 6 = true then ((mX6_at N v1 (Int32.ofNat p + (1 : Int32)) x).bind fun o3 => if zm_k o3.1 (b + 9) 3 = true then ((mX3_readLocal N (b + 9) o3.2 (Int32.ofNat k) o3.1).bind fun o7 => some o7) else none) else none)
    (e2 : ∀ v : List Nat × (Nat → Nat), zheed E m (μs nm) op (uC (μs nm) (p + 1)) (uC (μs nm) (p + 2)) v.1 v.2 = if uC (μs nm) (p + 1) < uLo (μs nm) ∧ v.2 (uC (μs nm) (p + 1)) = k then some (v.1, v.2) else none) :
    ∃ C', zHC w b (mX3_heed N (b + 9) (Int32.ofNat op) (Int32.ofNat p) (Int32.ofNat (zshp op))) C r id C' r ∧ zF9 C C' ∧ zO C' (o.bind (zhg E m (μs nm) op (uC (μs nm) (p + 1)) (uC (μs nm) (p + 2)))) := by
  obtain ⟨C1, t1, t2, t3⟩ := zd_readO (N := N) (w := w) hE (hE.ok.2.1 (p + 1) hp) hk h
  refine ⟨C1, fun M0 => ?_, t2, ?_⟩
  · rw [e1]
    have et : mX3_readLocal N (b + 9) (Int32.ofNat (uC (μs nm) (p + 1))) (Int32.ofNat k) (zc w b C M0 r) = some (zc w b C1 M0 r) := t1 M0
    simp only [zqg_9_8 hE.2.2.2.1, Option.bind_some, ze_kR hE.R, if_true, zi_l1, zd_atr hE hp, zqk_9, et]
    rfl
  · cases o with
    | none => exact t3
    | some v =>
      rw [Option.bind_some] at t3 ⊢
      rw [zhg_if _ (e2 v) (fun _ => hl v rfl)]
      exact t3
theorem zd_h201 {op k : Nat} (hE : zEv b K F ρ α π r C M nm ra μs) (h : zO C o) (hl : ∀ v, o = some v → v.1.length ≤ uSk (μs nm)) (hp : p + 1 < uLen (μs nm)) (hk : k ≤ 3) (e1 : mX3_heed N (b + 9) (Int32.ofNat op) (Int32.ofNat p) (Int32.ofNat (zshp op)) = fun x => (zm_R x (b + 9) 3 8).bind fun v1 => if zm_k x v1 6 = true then ((mX6_at N v1 (Int32.ofNat p + (1 : Int32)) x).bind fun o3 => if zm_k o3.1 (b + 9) 3 = true then ((mX3_setLocal N (b + 9) o3.2 (Int32.ofNat k) o3.1).bind fun o7 => some o7) else none) else none)
    (e2 : ∀ v : List Nat × (Nat → Nat), zheed E m (μs nm) op (uC (μs nm) (p + 1)) (uC (μs nm) (p + 2)) v.1 v.2 = if uC (μs nm) (p + 1) < uLo (μs nm) then some (v.1, zset v.2 (uC (μs nm) (p + 1)) k) else none) :
    ∃ C', zHC w b (mX3_heed N (b + 9) (Int32.ofNat op) (Int32.ofNat p) (Int32.ofNat (zshp op))) C r id C' r ∧ zF9 C C' ∧ zO C' (o.bind (zhg E m (μs nm) op (uC (μs nm) (p + 1)) (uC (μs nm) (p + 2)))) := by
  obtain ⟨C1, t1, t2, t3⟩ := zd_setO (N := N) (w := w) hE (hE.ok.2.1 (p + 1) hp) hk h
  refine ⟨C1, fun M0 => ?_, t2, ?_⟩
  · rw [e1]
    have et : mX3_setLocal N (b + 9) (Int32.ofNat (uC (μs nm) (p + 1))) (Int32.ofNat k) (zc w b C M0 r) = some (zc w b C1 M0 r) := t1 M0
    simp only [zqg_9_8 hE.2.2.2.1, Option.bind_some, ze_kR hE.R, if_true, zi_l1, zd_atr hE hp, zqk_9, et]
    rfl
  · cases o with
    | none => exact t3
    | some v =>
      rw [Option.bind_some] at t3 ⊢
      rw [zhg_if _ (e2 v) (fun _ => hl v rfl)]
      exact t3
/-- a check that leaves stack and locals -/
theorem zd_hreq {op : Nat} {P : Prop} [Decidable P] (h : zO C o) (hl : ∀ v, o = some v → v.1.length ≤ uSk (μs nm)) (e1 : ∀ M0 : zM, mX3_heed N (b + 9) (Int32.ofNat op) (Int32.ofNat p) (Int32.ofNat (zshp op)) (zc w b C M0 r) = some (zc w b (zrq C (if P then 1 else 0)) M0 r))
    (e2 : ∀ v : List Nat × (Nat → Nat), zheed E m (μs nm) op (uC (μs nm) (p + 1)) (uC (μs nm) (p + 2)) v.1 v.2 = if P then some (v.1, v.2) else none) :
    ∃ C', zHC w b (mX3_heed N (b + 9) (Int32.ofNat op) (Int32.ofNat p) (Int32.ofNat (zshp op))) C r id C' r ∧ zF9 C C' ∧ zO C' (o.bind (zhg E m (μs nm) op (uC (μs nm) (p + 1)) (uC (μs nm) (p + 2)))) := by
  refine ⟨_, fun M0 => e1 M0, zrq_f9, ?_⟩
  have t3 := zd_reqO (C := C) P h
  cases o with
  | none => exact t3
  | some v =>
    rw [Option.bind_some] at t3 ⊢
    rw [zhg_if _ (e2 v) (fun _ => hl v rfl)]
    exact t3
theorem zd_h262 {op k : Nat} (hE : zEv b K F ρ α π r C M nm ra μs) (h : zO C o) (hl : ∀ v, o = some v → v.1.length ≤ uSk (μs nm)) (hk : k ≤ 3) (e1 : mX3_heed N (b + 9) (Int32.ofNat op) (Int32.ofNat p) (Int32.ofNat (zshp op)) = fun x => (zm_R x (b + 9) 3 8).bind fun v1 => (zm_I x v1 6 6).bind fun v3 => if v3 = Int32.ofNat k then (mX3_heed_282 N (1 : Int32) (b + 9) x) else (mX3_heed_282 N (0 : Int32) (b + 9) x))
    (e2 : ∀ v : List Nat × (Nat → Nat), zheed E m (μs nm) op (uC (μs nm) (p + 1)) (uC (μs nm) (p + 2)) v.1 v.2 = if uRs (μs nm) = k then some (v.1, v.2) else none) :
    ∃ C', zHC w b (mX3_heed N (b + 9) (Int32.ofNat op) (Int32.ofNat p) (Int32.ofNat (zshp op))) C r id C' r ∧ zF9 C C' ∧ zO C' (o.bind (zhg E m (μs nm) op (uC (μs nm) (p + 1)) (uC (μs nm) (p + 2)))) := by
  refine zd_hreq (P := uRs (μs nm) = k) h hl (fun M0 => ?_) e2
  have h3 : uRs (μs nm) ≤ 3 := hE.ok.2.2.2.2.2.2.2.2.2.2
  have key : ∀ v : Int32, mX3_heed_282 N v (b + 9) (zc w b C M0 r) = some (zc w b (zrq C v) M0 r) := fun v => by
    unfold mX3_heed_282 mX3_heed_378
    rw [if_pos zqk_9, zd_reqr v, Option.bind_some]
  rw [e1]
  simp only [zqg_9_8 hE.2.2.2.1, Option.bind_some, ze_f6 hE.R, key, zi_eq (show uRs (μs nm) < 2 ^ 31 by omega) (show k < 2 ^ 31 by omega)]
  by_cases c : uRs (μs nm) = k
  · rw [if_pos c, if_pos c]
  · rw [if_neg c, if_neg c]
theorem zd_h334 {op : Nat} (hE : zEv b K F ρ α π r C M nm ra μs) (h : zO C o) (hl : ∀ v, o = some v → v.1.length ≤ uSk (μs nm)) (hp : p + 1 < uLen (μs nm)) (e1 : mX3_heed N (b + 9) (Int32.ofNat op) (Int32.ofNat p) (Int32.ofNat (zshp op)) = mX3_heed_334 N (b + 9) (Int32.ofNat p))
    (e2 : ∀ v : List Nat × (Nat → Nat), zheed E m (μs nm) op (uC (μs nm) (p + 1)) (uC (μs nm) (p + 2)) v.1 v.2 = if uC (μs nm) (p + 1) < K then some (v.1, v.2) else none) :
    ∃ C', zHC w b (mX3_heed N (b + 9) (Int32.ofNat op) (Int32.ofNat p) (Int32.ofNat (zshp op))) C r id C' r ∧ zF9 C C' ∧ zO C' (o.bind (zhg E m (μs nm) op (uC (μs nm) (p + 1)) (uC (μs nm) (p + 2)))) := by
  refine zd_hreq (P := uC (μs nm) (p + 1) < K) h hl (fun M0 => ?_) e2
  rw [e1]
  unfold mX3_heed_334 mX3_heed_378
  simp only [zqg_9_0, zqg_9_8 hE.2.2.2.1, Option.bind_some, ze_kR hE.R, if_true, zi_l1, zd_atr hE hp, zqk_1, zd_has hE (hE.ok.2.1 (p + 1) hp), zqk_9, zd_reqr]
theorem zd_heed {op : Nat} (hE : zEv b K F ρ α π r C M nm ra μs) (h : zO C o) (hl : ∀ v, o = some v → v.1.length ≤ uSk (μs nm)) (hN : 5 ≤ N) (ho : uC (μs nm) p = op) (hlt : p < uLen (μs nm)) (hp : p + (zsh op).1 ≤ uLen (μs nm)) :
    ∃ C', zHC w b (mX3_heed N (b + 9) (Int32.ofNat op) (Int32.ofNat p) (Int32.ofNat (zshp op))) C r id C' r ∧ zF9 C C' ∧ zO C' (o.bind (zhg (K, F, ρ, μs) nm (μs nm) op (uC (μs nm) (p + 1)) (uC (μs nm) (p + 2)))) := by
  have h12 : uSk (μs nm) ≤ 12 := hE.ok.2.2.2.2.2.2.2.2.2.1
  by_cases c : op = 21
  · subst c; exact zd_h180 (k := 1) hE h hl hp (by decide) rfl (fun v => rfl)
  by_cases c : op = 22
  · subst c; exact zd_h180 (k := 2) hE h hl hp (by decide) rfl (fun v => rfl)
  by_cases c : op = 25
  · subst c; exact zd_h180 (k := 3) hE h hl hp (by decide) rfl (fun v => rfl)
  by_cases c : op = 132
  · subst c; exact zd_h180 (k := 1) hE h hl (Nat.lt_of_lt_of_le (by show p + 1 < p + 3; omega) hp) (by decide) rfl (fun v => rfl)
  by_cases c : op = 54
  · subst c; exact zd_h201 (k := 1) hE h hl hp (by decide) rfl (fun v => rfl)
  by_cases c : op = 55
  · subst c; exact zd_h201 (k := 2) hE h hl hp (by decide) rfl (fun v => rfl)
  by_cases c : op = 58
  · subst c; exact zd_h201 (k := 3) hE h hl hp (by decide) rfl (fun v => rfl)
  by_cases c : op = 172
  · subst c; exact zd_h262 (k := 1) hE h hl (by decide) rfl (fun v => rfl)
  by_cases c : op = 173
  · subst c; exact zd_h262 (k := 2) hE h hl (by decide) rfl (fun v => rfl)
  by_cases c : op = 176
  · subst c; exact zd_h262 (k := 3) hE h hl (by decide) rfl (fun v => rfl)
  by_cases c : op = 177
  · subst c; exact zd_h262 (k := 0) hE h hl (by decide) rfl (fun v => rfl)
  by_cases c : op = 187
  · subst c; exact zd_h334 hE h hl hp rfl (fun v => rfl)
  by_cases c : op = 192
  · subst c; exact zd_h334 hE h hl hp rfl (fun v => rfl)
  by_cases c : op = 193
  · subst c; exact zd_h334 hE h hl hp rfl (fun v => rfl)
  by_cases c : op = 188
  · subst c
    refine zd_hreq (P := 4 ≤ uC (μs nm) (p + 1) ∧ uC (μs nm) (p + 1) ≤ 11 ∧ uC (μs nm) (p + 1) ≠ 6 ∧ uC (μs nm) (p + 1) ≠ 7) h hl (fun M0 => ?_) (fun v => rfl)
    have e0 : mX3_heed N (b + 9) (Int32.ofNat 188) (Int32.ofNat p) (Int32.ofNat (zshp 188)) (zc w b C M0 r) = ((zm_R (zc w b C M0 r) (b + 9) 3 8).bind fun v47 => if zm_k (zc w b C M0 r) v47 6 = true then ((mX6_at N v47 (Int32.ofNat p + (1 : Int32)) (zc w b C M0 r)).bind fun o49 => (mX3_isSortOfNumbers N o49.2 o49.1).bind fun o51 => if zm_k o51.1 (b + 9) 3 = true then ((mX3_require N (b + 9) o51.2 o51.1).bind fun o53 => mX3_heed_378 N o53) else none) else none) := rfl
    rw [e0]
    unfold mX3_heed_378
    have hp1 : p + 1 < uLen (μs nm) := hp
    simp only [zqg_9_8 hE.2.2.2.1, Option.bind_some, ze_kR hE.R, if_true, zi_l1, zd_atr hE hp1, qX3_isSortOfNumbers, zsort_tab _ (hE.ok.2.1 (p + 1) hp1), Option.map_some, zqk_9, zd_reqr]
  by_cases c : op = 87
  · subst c
    obtain ⟨t2, t3⟩ := zd_pop (E := (K, F, ρ, μs)) (m := nm) (x := uC (μs nm) (p + 1)) (y := uC (μs nm) (p + 2)) hE h hl
    refine ⟨ztn C, fun M0 => ?_, t2, t3⟩
    have e0 : mX3_heed N (b + 9) (Int32.ofNat 87) (Int32.ofNat p) (Int32.ofNat (zshp 87)) (zc w b C M0 r) = (if zm_k (zc w b C M0 r) (b + 9) 3 = true then ((mX3_takeNarrow N (b + 9) (zc w b C M0 r)).bind fun o7 => mX3_heed_378 N o7.1) else none) := rfl
    rw [e0, if_pos zqk_9, zd_narrowr]
    rfl
  by_cases c : op = 89
  · subst c
    obtain ⟨C1, t1, t2, t3⟩ := zd_dup (N := N) (w := w) (E := (K, F, ρ, μs)) (m := nm) (x := uC (μs nm) (p + 1)) (y := uC (μs nm) (p + 2)) hE h hl
    refine ⟨C1, fun M0 => ?_, t2, t3⟩
    have e0 : mX3_heed N (b + 9) (Int32.ofNat 89) (Int32.ofNat p) (Int32.ofNat (zshp 89)) (zc w b C M0 r) = (if zm_k (zc w b C M0 r) (b + 9) 3 = true then ((mX3_duplicate N (b + 9) (zc w b C M0 r)).bind fun o7 => mX3_heed_378 N o7) else none) := rfl
    rw [e0, if_pos zqk_9, t1 M0]
    rfl
  by_cases c : op = 95
  · subst c
    obtain ⟨C1, t1, t2, t3⟩ := zd_exch (N := N) (w := w) (E := (K, F, ρ, μs)) (m := nm) (x := uC (μs nm) (p + 1)) (y := uC (μs nm) (p + 2)) hE h hl
    refine ⟨C1, fun M0 => ?_, t2, t3⟩
    have e0 : mX3_heed N (b + 9) (Int32.ofNat 95) (Int32.ofNat p) (Int32.ofNat (zshp 95)) (zc w b C M0 r) = (if zm_k (zc w b C M0 r) (b + 9) 3 = true then ((mX3_exchange N (b + 9) (zc w b C M0 r)).bind fun o7 => mX3_heed_378 N o7) else none) := rfl
    rw [e0, if_pos zqk_9, t1 M0]
    rfl
  by_cases c : op = 180
  · subst c
    have hp2 : p + 2 < uLen (μs nm) := hp
    have fk := zd_fk (N := N) (w := w) hE hp2
    have zk : zkf ρ (uC (μs nm) (p + 1)) (uC (μs nm) (p + 2)) ≤ 3 ∧ zkf ρ (uC (μs nm) (p + 1)) (uC (μs nm) (p + 2)) ≠ 0 := by unfold zkf; split <;> omega
    have hq := zd_reqO (C := C) (uC (μs nm) (p + 1) < K ∧ uC (μs nm) (p + 2) < F (uC (μs nm) (p + 1))) h
    refine ⟨zgv (zrq C (if uC (μs nm) (p + 1) < K ∧ uC (μs nm) (p + 2) < F (uC (μs nm) (p + 1)) then 1 else 0)) (uSk (μs nm)) (if uC (μs nm) (p + 1) < K ∧ uC (μs nm) (p + 2) < F (uC (μs nm) (p + 1)) then Int32.ofNat (zkf ρ (uC (μs nm) (p + 1)) (uC (μs nm) (p + 2))) else 0), fun M0 => ?_, zrq_f9.tr zgv_f9, ?_⟩
    · have e0 : mX3_heed N (b + 9) (Int32.ofNat 180) (Int32.ofNat p) (Int32.ofNat (zshp 180)) (zc w b C M0 r) = (if zm_k (zc w b C M0 r) (b + 9) 3 = true then ((mX3_fieldKind N (b + 9) (Int32.ofNat p) (zc w b C M0 r)).bind fun o27 => if zm_k o27.1 (b + 9) 3 = true then ((mX3_give N (b + 9) o27.2 o27.1).bind fun o29 => mX3_heed_378 N o29) else none) else none) := rfl
      rw [e0, if_pos zqk_9, fk M0, Option.bind_some]
      dsimp only
      rw [if_pos zqk_9, zd_giver (hE.f9 zrq_f9)]
      rfl
    · by_cases d : uC (μs nm) (p + 1) < K ∧ uC (μs nm) (p + 2) < F (uC (μs nm) (p + 1))
      · rw [if_pos d, zrq_1, if_pos d]
        have t3 := zgv_O (s := uSk (μs nm)) h12 zk.1 h
        cases o with
        | none => exact t3
        | some v =>
          rw [Option.bind_some] at t3 ⊢
          have e5 : zhg (K, F, ρ, μs) nm (μs nm) 180 (uC (μs nm) (p + 1)) (uC (μs nm) (p + 2)) v = zga (uSk (μs nm)) (zkf ρ (uC (μs nm) (p + 1)) (uC (μs nm) (p + 2))) v := by
            unfold zhg zga
            show (if uC (μs nm) (p + 1) < K ∧ uC (μs nm) (p + 2) < F (uC (μs nm) (p + 1)) then some (zkf ρ (uC (μs nm) (p + 1)) (uC (μs nm) (p + 2)) :: v.1, v.2) else none).bind _ = _
            rw [if_pos d, Option.bind_some, if_neg zk.2]
          rw [e5]
          exact t3
      · rw [if_neg d, if_neg d]
        have e6 : (o.bind (zhg (K, F, ρ, μs) nm (μs nm) 180 (uC (μs nm) (p + 1)) (uC (μs nm) (p + 2)))) = none := by
          cases o with
          | none => rfl
          | some v =>
            rw [Option.bind_some]
            unfold zhg
            show (if uC (μs nm) (p + 1) < K ∧ uC (μs nm) (p + 2) < F (uC (μs nm) (p + 1)) then some (zkf ρ (uC (μs nm) (p + 1)) (uC (μs nm) (p + 2)) :: v.1, v.2) else none).bind _ = _
            rw [if_neg d]
            rfl
        rw [e6]
        exact zgv_B zrq_0
  by_cases c : op = 181
  · subst c
    have hp2 : p + 2 < uLen (μs nm) := hp
    have fk := zd_fk (N := N) (w := w) hE hp2
    have zk : 1 ≤ zkf ρ (uC (μs nm) (p + 1)) (uC (μs nm) (p + 2)) ∧ zkf ρ (uC (μs nm) (p + 1)) (uC (μs nm) (p + 2)) ≤ 3 := by unfold zkf; split <;> omega
    have hq := zd_reqO (C := C) (uC (μs nm) (p + 1) < K ∧ uC (μs nm) (p + 2) < F (uC (μs nm) (p + 1))) h
    have hk3 : zkS [3] := zkS.nil.cons (by decide) (by decide)
    by_cases d : uC (μs nm) (p + 1) < K ∧ uC (μs nm) (p + 2) < F (uC (μs nm) (p + 1))
    · rw [if_pos d, if_pos d, zrq_1] at fk
      obtain ⟨C1, t1, t2, t3⟩ := zd_take (N := N) (w := w) (b := b) (r := r) (zkS.nil.cons zk.1 zk.2) (show 1 ≤ 3 by decide) h
      obtain ⟨C2, s1, s2, s3⟩ := zd_take (N := N) (w := w) (b := b) (r := r) hk3 (show 1 ≤ 3 by decide) t3
      refine ⟨C2, fun M0 => ?_, t2.tr s2, ?_⟩
      · have e0 : mX3_heed N (b + 9) (Int32.ofNat 181) (Int32.ofNat p) (Int32.ofNat (zshp 181)) (zc w b C M0 r) = (if zm_k (zc w b C M0 r) (b + 9) 3 = true then ((mX3_fieldKind N (b + 9) (Int32.ofNat p) (zc w b C M0 r)).bind fun o32 => if zm_k o32.1 (b + 9) 3 = true then ((mX3_take N (b + 9) o32.2 o32.1).bind fun o34 => if zm_k o34 (b + 9) 3 = true then ((mX3_take N (b + 9) (3 : Int32) o34).bind fun o36 => mX3_heed_378 N o36) else none) else none) else none) := rfl
        have et : mX3_take N (b + 9) (Int32.ofNat (zkf ρ (uC (μs nm) (p + 1)) (uC (μs nm) (p + 2)))) (zc w b C M0 r) = some (zc w b C1 M0 r) := t1 M0
        have es : mX3_take N (b + 9) 3 (zc w b C1 M0 r) = some (zc w b C2 M0 r) := s1 M0
        rw [e0, if_pos zqk_9, fk M0, Option.bind_some]
        dsimp only
        rw [if_pos zqk_9, et, Option.bind_some, if_pos zqk_9, es]
        rfl
      · cases o with
        | none => exact s3
        | some v =>
          rw [Option.bind_some] at s3 ⊢
          have e5 : zhg (K, F, ρ, μs) nm (μs nm) 181 (uC (μs nm) (p + 1)) (uC (μs nm) (p + 2)) v = ((zpop [zkf ρ (uC (μs nm) (p + 1)) (uC (μs nm) (p + 2))] v.1).map fun s => (s, v.2)).bind fun v => (zpop [3] v.1).map fun s => (s, v.2) := by
            unfold zhg
            show (if uC (μs nm) (p + 1) < K ∧ uC (μs nm) (p + 2) < F (uC (μs nm) (p + 1)) then (zpop [zkf ρ (uC (μs nm) (p + 1)) (uC (μs nm) (p + 2)), 3] v.1).map fun st => (st, v.2) else none).bind _ = _
            rw [if_pos d, zpop_cons]
            have hv := hl v rfl
            have hS := h.2.2.2.1
            cases e6 : zpop [zkf ρ (uC (μs nm) (p + 1)) (uC (μs nm) (p + 2))] v.1 with
            | none => rfl
            | some s1 =>
              have k1 := zpop_k hS e6
              rw [Option.bind_some]
              show ((zpop [3] s1).map _).bind _ = (zpop [3] s1).map _
              cases e7 : zpop [3] s1 with
              | none => rfl
              | some s2 =>
                have k2 := zpop_k k1.1 e7
                show (if s2.length ≤ uSk (μs nm) then some (s2, v.2) else none) = some (s2, v.2)
                rw [if_pos (by omega)]
          rw [e5]
          exact s3
    · rw [if_neg d, if_neg d] at fk
      have hb : zO (zrq C 0) (none : Option (List Nat × (Nat → Nat))) := zO.rq0
      obtain ⟨C1, t1, t2, t3⟩ := zd_take (N := N) (w := w) (b := b) (r := r) (ks := []) zkS.nil (by decide) hb
      obtain ⟨C2, s1, s2, s3⟩ := zd_take (N := N) (w := w) (b := b) (r := r) hk3 (show 1 ≤ 3 by decide) t3
      refine ⟨C2, fun M0 => ?_, zrq_f9.tr (t2.tr s2), ?_⟩
      · have e0 : mX3_heed N (b + 9) (Int32.ofNat 181) (Int32.ofNat p) (Int32.ofNat (zshp 181)) (zc w b C M0 r) = (if zm_k (zc w b C M0 r) (b + 9) 3 = true then ((mX3_fieldKind N (b + 9) (Int32.ofNat p) (zc w b C M0 r)).bind fun o32 => if zm_k o32.1 (b + 9) 3 = true then ((mX3_take N (b + 9) o32.2 o32.1).bind fun o34 => if zm_k o34 (b + 9) 3 = true then ((mX3_take N (b + 9) (3 : Int32) o34).bind fun o36 => mX3_heed_378 N o36) else none) else none) else none) := rfl
        have et : mX3_take N (b + 9) 0 (zc w b (zrq C 0) M0 r) = some (zc w b C1 M0 r) := t1 M0
        have es : mX3_take N (b + 9) 3 (zc w b C1 M0 r) = some (zc w b C2 M0 r) := s1 M0
        rw [e0, if_pos zqk_9, fk M0, Option.bind_some]
        dsimp only
        rw [if_pos zqk_9, et, Option.bind_some, if_pos zqk_9, es]
        rfl
      · have e6 : (o.bind (zhg (K, F, ρ, μs) nm (μs nm) 181 (uC (μs nm) (p + 1)) (uC (μs nm) (p + 2)))) = none := by
          cases o with
          | none => rfl
          | some v =>
            rw [Option.bind_some]
            unfold zhg
            show (if uC (μs nm) (p + 1) < K ∧ uC (μs nm) (p + 2) < F (uC (μs nm) (p + 1)) then (zpop [zkf ρ (uC (μs nm) (p + 1)) (uC (μs nm) (p + 2)), 3] v.1).map fun st => (st, v.2) else none).bind _ = _
            rw [if_neg d]
            rfl
        rw [e6]
        exact s3
  by_cases c : op = 184
  · subst c
    have hp1 : p + 1 < uLen (μs nm) := hp
    have ha := hE.ok.2.1 (p + 1) hp1
    have hq := zd_reqO (C := C) (uC (μs nm) (p + 1) ≤ nm) h
    have h20 := hE.2.2.1
    have hmc : (if uC (μs nm) (p + 1) < nm then uC (μs nm) (p + 1) else nm) ≤ nm := by split <;> omega
    generalize hmc' : (if uC (μs nm) (p + 1) < nm then uC (μs nm) (p + 1) else nm) = mc at hmc
    have h4 : uNa (μs mc) ≤ 4 := (hE.2.2.2.2 mc hmc).2.2.2.2.2.2.1
    obtain ⟨C1, t1, t2, t3⟩ := zd_pass (N := N) (w := w) (b := b) (r := r) (M := M) (ra := ra) (μs := μs) (nm := nm) hmc (uNa (μs mc)) N _ _ (Nat.le_refl _) (by omega) (hE.f9 zrq_f9) hq
    refine ⟨C1, fun M0 => ?_, zrq_f9.tr t2, ?_⟩
    · have e0 : mX3_heed N (b + 9) (Int32.ofNat 184) (Int32.ofNat p) (Int32.ofNat (zshp 184)) (zc w b C M0 r) = ((zm_R (zc w b C M0 r) (b + 9) 3 8).bind fun v39 => if zm_k (zc w b C M0 r) v39 6 = true then ((mX6_at N v39 (Int32.ofNat p + (1 : Int32)) (zc w b C M0 r)).bind fun o41 => if zm_k o41.1 (b + 9) 3 = true then ((mX3_passCall N (b + 9) o41.2 o41.1).bind fun o43 => mX3_heed_378 N o43) else none) else none) := rfl
      have hsz : ∀ C : zC, C.1 8 2 = Int32.ofNat nm → mJx4a65c_size_8abf5 N (b + 8) (zc w b C M0 r) = some (zc w b C M0 r, Int32.ofNat nm) := fun C h => by
        unfold mJx4a65c_size_8abf5 mJx4a65c_size_8abf5_0
        rw [zqg_8_2, Option.bind_some, h]
      have key : ∀ v : Int32, zEv b K F ρ α π r (zrq C v) M nm ra μs → mX3_passCall_17 N (b + 9) (Int32.ofNat (uC (μs nm) (p + 1))) v (b + 9) (zc w b C M0 r) = mX3_passCall_57 N N (b + 9) (ra mc) (Int32.ofNat (uNa (μs mc)) - 1) (zc w b (zrq C v) M0 r) := fun v hE' => by
        unfold mX3_passCall_17 mX3_passCall_49
        rw [if_pos zqk_9, zd_reqr v, Option.bind_some, zqg_9_1, Option.bind_some, if_pos zqk_8, hsz _ hE'.2.1.1, Option.bind_some]
        dsimp only
        by_cases d : uC (μs nm) (p + 1) < nm
        · have : mc = uC (μs nm) (p + 1) := by rw [← hmc', if_pos d]
          subst this
          rw [if_neg (by rw [zi_le (by omega) (by omega)]; omega), zqg_9_1, Option.bind_some, if_pos zqk_8, zd_get hE'.2.1 d (by omega) M0, Option.bind_some]
          dsimp only
          rw [if_pos (ze_kR (hE'.2.2.2.2 _ hmc).1), ze_f2 (hE'.2.2.2.2 _ hmc).1, Option.bind_some]
        · have : mc = nm := by rw [← hmc', if_neg d]
          subst this
          rw [if_pos (by rw [zi_le (by omega) (by omega)]; omega), zqg_9_8 hE'.2.2.2.1, Option.bind_some, ze_f2 (hE'.2.2.2.2 _ hmc).1, Option.bind_some]
      rw [e0, zqg_9_8 hE.2.2.2.1, Option.bind_some, if_pos (ze_kR hE.R), zi_l1, zd_atr hE hp1, Option.bind_some]
      dsimp only
      rw [if_pos zqk_9]
      unfold mX3_passCall mX3_passCall_0
      rw [zqg_9_1, Option.bind_some, if_pos zqk_8, hsz _ hE.2.1.1, Option.bind_some]
      dsimp only
      have et := t1 M0
      by_cases d : uC (μs nm) (p + 1) ≤ nm
      · rw [if_pos d] at et
        rw [if_neg (by rw [zi_lt (by omega) (by omega)]; omega), key 1 (hE.f9 zrq_f9), et]
        rfl
      · rw [if_neg d] at et
        rw [if_pos (by rw [zi_lt (by omega) (by omega)]; omega), key 0 (hE.f9 zrq_f9), et]
        rfl
    · cases o with
      | none => exact t3
      | some v =>
        rw [Option.bind_some] at t3 ⊢
        have hv := hl v rfl
        have hS := h.2.2.2.1
        by_cases d : uC (μs nm) (p + 1) ≤ nm
        · have : mc = uC (μs nm) (p + 1) := by rw [← hmc']; split <;> omega
          subst this
          rw [if_pos d, Option.bind_some] at t3
          have e5 : zhg (K, F, ρ, μs) nm (μs nm) 184 (uC (μs nm) (p + 1)) (uC (μs nm) (p + 2)) v = ((zpop (zargs (uKd (μs (uC (μs nm) (p + 1)))) (uNa (μs (uC (μs nm) (p + 1))))) v.1).map fun s => (s, v.2)).bind (zga (uSk (μs nm)) (uRs (μs (uC (μs nm) (p + 1))))) := by
            unfold zhg
            show (if uC (μs nm) (p + 1) ≤ nm then (zpop (zargs (uKd (μs (uC (μs nm) (p + 1)))) (uNa (μs (uC (μs nm) (p + 1))))) v.1).map fun st => (if uRs (μs (uC (μs nm) (p + 1))) = 0 then st else uRs (μs (uC (μs nm) (p + 1))) :: st, v.2) else none).bind _ = _
            rw [if_pos d]
            cases e6 : zpop (zargs (uKd (μs (uC (μs nm) (p + 1)))) (uNa (μs (uC (μs nm) (p + 1))))) v.1 with
            | none => rfl
            | some s1 =>
              have k1 := zpop_k hS e6
              show (if (if uRs (μs (uC (μs nm) (p + 1))) = 0 then s1 else uRs (μs (uC (μs nm) (p + 1))) :: s1).length ≤ uSk (μs nm) then some ((if uRs (μs (uC (μs nm) (p + 1))) = 0 then s1 else uRs (μs (uC (μs nm) (p + 1))) :: s1), v.2) else none) = zga (uSk (μs nm)) (uRs (μs (uC (μs nm) (p + 1)))) (s1, v.2)
              unfold zga
              by_cases z : uRs (μs (uC (μs nm) (p + 1))) = 0
              · rw [if_pos z, if_pos z, if_pos (by omega)]
              · rw [if_neg z, if_neg z]
          rw [e5]
          exact t3
        · rw [if_neg d] at t3
          have e5 : zhg (K, F, ρ, μs) nm (μs nm) 184 (uC (μs nm) (p + 1)) (uC (μs nm) (p + 2)) v = none := by
            unfold zhg
            show (if uC (μs nm) (p + 1) ≤ nm then (zpop (zargs (uKd (μs (uC (μs nm) (p + 1)))) (uNa (μs (uC (μs nm) (p + 1))))) v.1).map fun st => (if uRs (μs (uC (μs nm) (p + 1))) = 0 then st else uRs (μs (uC (μs nm) (p + 1))) :: st, v.2) else none).bind _ = _
            rw [if_neg d]
            rfl
          rw [e5]
          exact t3
  have h256 : op < 256 := by rw [← ho]; exact hE.ok.2.1 p hlt
  refine ⟨C, fun M0 => ?_, zF9.rf, ?_⟩
  · have ne : ∀ k, k < 256 → op ≠ k → ¬ (Int32.ofNat op = Int32.ofNat k) := fun k hk h => by rw [zi_eq (by omega) (by omega)]; exact h
    unfold mX3_heed mX3_heed_0
    rw [if_neg (show ¬ Int32.ofNat op = 21 from ne 21 (by decide) (by omega)), if_neg (show ¬ Int32.ofNat op = 22 from ne 22 (by decide) (by omega)), if_neg (show ¬ Int32.ofNat op = 25 from ne 25 (by decide) (by omega)), if_neg (show ¬ Int32.ofNat op = 54 from ne 54 (by decide) (by omega)), if_neg (show ¬ Int32.ofNat op = 55 from ne 55 (by decide) (by omega)), if_neg (show ¬ Int32.ofNat op = 58 from ne 58 (by decide) (by omega)), if_neg (show ¬ Int32.ofNat op = 87 from ne 87 (by decide) (by omega)), if_neg (show ¬ Int32.ofNat op = 89 from ne 89 (by decide) (by omega)), if_neg (show ¬ Int32.ofNat op = 95 from ne 95 (by decide) (by omega)), if_neg (show ¬ Int32.ofNat op = 132 from ne 132 (by decide) (by omega)), if_neg (show ¬ Int32.ofNat op = 172 from ne 172 (by decide) (by omega)), if_neg (show ¬ Int32.ofNat op = 173 from ne 173 (by decide) (by omega)), if_neg (show ¬ Int32.ofNat op = 176 from ne 176 (by decide) (by omega)), if_neg (show ¬ Int32.ofNat op = 177 from ne 177 (by decide) (by omega)), if_neg (show ¬ Int32.ofNat op = 180 from ne 180 (by decide) (by omega)), if_neg (show ¬ Int32.ofNat op = 181 from ne 181 (by decide) (by omega)), if_neg (show ¬ Int32.ofNat op = 184 from ne 184 (by decide) (by omega)), if_neg (show ¬ Int32.ofNat op = 187 from ne 187 (by decide) (by omega)), if_neg (show ¬ Int32.ofNat op = 188 from ne 188 (by decide) (by omega)), if_neg (show ¬ Int32.ofNat op = 192 from ne 192 (by decide) (by omega)), if_neg (show ¬ Int32.ofNat op = 193 from ne 193 (by decide) (by omega))]
    rfl
  · cases o with
    | none => exact h
    | some v =>
      rw [Option.bind_some]
      have e5 : zhg (K, F, ρ, μs) nm (μs nm) op (uC (μs nm) (p + 1)) (uC (μs nm) (p + 2)) v = some v := by
        unfold zhg
        have : zheed (K, F, ρ, μs) nm (μs nm) op (uC (μs nm) (p + 1)) (uC (μs nm) (p + 2)) v.1 v.2 = some (v.1, v.2) := by
          unfold zheed
          split <;> first | rfl | omega
        rw [this, Option.bind_some, if_pos (hl v rfl)]
      rw [e5]
      exact h
end ZH2
