/-! ===== the class's judge: a look, all looks ===== -/
section ZFG
variable {N w b K nm p q n : Nat} {F ρ α π : Nat → Nat} {C C' : zC} {M : zM} {r : zv_X} {ra : Nat → Nat} {μs : Nat → zMu} {σ σ' σ0 : zTau} {wt wt' wt0 : Nat → Bool} {st : List Nat} {l : Nat → Nat} {n0 : Nat} {o : Option zTau}
theorem zJs.cong (h : zJs (μs nm) C o σ0 wt0 n0) (h9 : C'.1 9 9 = C.1 9 9) (h7 : C'.1 9 7 = C.1 9 7) (h1 : ∀ o k, 10 ≤ o → o ≤ 14 → C'.1 o k = C.1 o k) : zJs (μs nm) C' o σ0 wt0 n0 := by
  cases o with
  | none => exact h9.trans h
  | some σ =>
    obtain ⟨a1, a2, wt, n, a3, a4, a5⟩ := h
    exact ⟨h9.trans a1, a2, wt, n, a3.cong h7 h1, a4, a5⟩
theorem zd_handlers (hp : p ≤ 200) (hl : zk16 l) : ∀ (c fuel j : Nat) (C : zC) (o : Option zTau), j + c = uH (μs nm) → c < fuel → zEv b K F ρ α π r C M nm ra μs → C.1 9 11 = Int32.ofNat (zpk l 16) → zJs (μs nm) C o σ0 wt0 n0 →
    ∃ C', zHC w b (mX3_leadToHandlers_10 N fuel (b + 9) (Int32.ofNat p) (ra nm + 2) (Int32.ofNat (4 * j))) C r id C' r ∧ zFl C C' ∧ zJs (μs nm) C' (o.bind (zhan (μs nm) p l c j)) σ0 wt0 n0
  | 0, fuel, j, C, o, hj, hf, hE, h11, h => by
    obtain ⟨fuel, rfl⟩ : ∃ g, fuel = g + 1 := ⟨fuel - 1, by omega⟩
    have h8 := hE.ok.2.2.1
    refine ⟨C, fun M0 => ?_, zFl.rf, ?_⟩
    · unfold mX3_leadToHandlers_10
      rw [ze_n1 hE.R hE.ok, Option.bind_some, if_pos (by rw [zi_le (by omega) (by omega)]; omega)]
      rfl
    · have : (o.bind (zhan (μs nm) p l 0 j)) = o := by cases o <;> rfl
      rw [this]
      exact h
  | c + 1, fuel, j, C, o, hj, hf, hE, h11, h => by
    obtain ⟨fuel, rfl⟩ : ∃ g, fuel = g + 1 := ⟨fuel - 1, by omega⟩
    have h8 := hE.ok.2.2.1
    have h12 : uSk (μs nm) ≤ 12 := hE.ok.2.2.2.2.2.2.2.2.2.1
    have hat := hE.ok.2.2.2.1 (4 * j + 2) (by omega)
    have head : ∀ (C : zC) (M0 : zM), zEv b K F ρ α π r C M nm ra μs → mX3_leadToHandlers_10 N (fuel + 1) (b + 9) (Int32.ofNat p) (ra nm + 2) (Int32.ofNat (4 * j)) (zc w b C M0 r) = if uHs (μs nm) (4 * j) ≤ p ∧ p < uHs (μs nm) (4 * j + 1) then mX3_leadToHandlers_47 (mX3_leadToHandlers_10 N fuel) N (b + 9) (Int32.ofNat p) (ra nm + 2) (Int32.ofNat (4 * j)) (if 0 < uSk (μs nm) then 1 else 0) (b + 9) (zc w b C M0 r) else mX3_leadToHandlers_10 N fuel (b + 9) (Int32.ofNat p) (ra nm + 2) (Int32.ofNat (4 * (j + 1))) (zc w b C M0 r) := fun C M0 hE => by
      have e4 : Int32.ofNat (4 * j) + 4 = Int32.ofNat (4 * (j + 1)) := by rw [zi_l4, zi_add]; rfl
      conv => lhs; unfold mX3_leadToHandlers_10
      rw [ze_n1 hE.R hE.ok, Option.bind_some, if_neg (by rw [zi_le (by omega) (by omega)]; omega), zqg_9_8 hE.2.2.2.1, Option.bind_some, if_pos (ze_kR hE.R), ze_guards hE.R hE.ok (by omega) hp M0, Option.bind_some]
      dsimp only
      by_cases g : uHs (μs nm) (4 * j) ≤ p ∧ p < uHs (μs nm) (4 * j + 1)
      · rw [if_pos g, if_neg (by decide), if_pos g, zqg_9_8 hE.2.2.2.1, Option.bind_some, ze_f5 hE.R, Option.bind_some]
        by_cases z : 0 < uSk (μs nm)
        · rw [if_neg (by rw [zi_l0, zi_le (by omega) (by omega)]; omega), if_pos z]
        · rw [if_pos (by rw [zi_l0, zi_le (by omega) (by omega)]; omega), if_neg z]
      · rw [if_neg g, if_pos rfl, if_neg g]
        unfold mX3_leadToHandlers_64
        rw [e4]
    by_cases g : uHs (μs nm) (4 * j) ≤ p ∧ p < uHs (μs nm) (4 * j + 1)
    · have e4 : Int32.ofNat (4 * j) + 4 = Int32.ofNat (4 * (j + 1)) := by rw [zi_l4, zi_add]; rfl
      have h1 : zJs (μs nm) (zrq C (if 0 < uSk (μs nm) then 1 else 0)) (o.bind fun σ => if 0 < uSk (μs nm) then some σ else none) σ0 wt0 n0 := by
        by_cases z : 0 < uSk (μs nm)
        · rw [if_pos z, zrq_1]
          have : (o.bind fun σ => if 0 < uSk (μs nm) then some σ else none) = o := by
            cases o with
            | none => rfl
            | some σ => rw [Option.bind_some, if_pos z]
          rw [this]
          exact h
        · rw [if_neg z]
          have : (o.bind fun σ => if 0 < uSk (μs nm) then some σ else none) = none := by
            cases o with
            | none => rfl
            | some σ => rw [Option.bind_some, if_neg z]
          rw [this]
          exact zrq_0
      have hE1 := hE.f9 (zrq_f9 (v := if 0 < uSk (μs nm) then 1 else 0))
      have ex : ∃ C2, zHC w b (mX3_lead N (b + 9) (Int32.ofNat (uHs (μs nm) (4 * j + 2))) 3 (Int32.ofNat (zpk l 16))) (zrq C (if 0 < uSk (μs nm) then 1 else 0)) r id C2 r ∧ zFl (zrq C (if 0 < uSk (μs nm) then 1 else 0)) C2 ∧ zJs (μs nm) C2 (o.bind fun σ => if 0 < uSk (μs nm) then zlead (uLen (μs nm)) (uHs (μs nm) (4 * j + 2) : Nat) [3] l σ else none) σ0 wt0 n0 := by
        by_cases z : 0 < uSk (μs nm)
        · obtain ⟨C2, t1, t2, t3⟩ := zd_lead (N := N) (w := w) (z := (uHs (μs nm) (4 * j + 2) : Nat)) (st := [3]) (l := l) hE1 h1 (by omega) (zkS.nil.cons (by decide) (by decide)) z hl
          refine ⟨C2, t1, t2, ?_⟩
          have : (o.bind fun σ => if 0 < uSk (μs nm) then zlead (uLen (μs nm)) (uHs (μs nm) (4 * j + 2) : Nat) [3] l σ else none) = (o.bind fun σ => if 0 < uSk (μs nm) then some σ else none).bind (zlead (uLen (μs nm)) (uHs (μs nm) (4 * j + 2) : Nat) [3] l) := by
            cases o with
            | none => rfl
            | some σ => rw [Option.bind_some, Option.bind_some, if_pos z, if_pos z]; rfl
          rw [this]
          exact t3
        · have hb : (zrq C (if 0 < uSk (μs nm) then 1 else 0)).1 9 9 = 0 := by rw [if_neg z]; exact zrq_0
          obtain ⟨C2, t1, t2, t3⟩ := zd_leadB (N := N) (w := w) (l1 := Int32.ofNat (uHs (μs nm) (4 * j + 2))) (l2 := 3) (l3 := Int32.ofNat (zpk l 16)) hE1 hb
          refine ⟨C2, t1, t2, ?_⟩
          have : (o.bind fun σ => if 0 < uSk (μs nm) then zlead (uLen (μs nm)) (uHs (μs nm) (4 * j + 2) : Nat) [3] l σ else none) = none := by
            cases o with
            | none => rfl
            | some σ => rw [Option.bind_some, if_neg z]
          rw [this]
          exact t3
      obtain ⟨C2, t1, t2, t3⟩ := ex
      have t2' : zFl C C2 := zrq_fl.tr t2
      obtain ⟨C3, s1, s2, s3⟩ := zd_handlers hp hl c fuel (j + 1) C2 _ (by omega) (by omega) (hE.fl t2') ((t2'.1 9 11 (by omega) (by omega)).trans h11) t3
      refine ⟨C3, fun M0 => ?_, t2'.tr s2, ?_⟩
      · rw [head C M0 hE, if_pos g]
        unfold mX3_leadToHandlers_47 mX3_leadToHandlers_64
        have et : mX3_lead N (b + 9) (Int32.ofNat (uHs (μs nm) (4 * j + 2))) 3 (Int32.ofNat (zpk l 16)) (zc w b (zrq C (if 0 < uSk (μs nm) then 1 else 0)) M0 r) = some (zc w b C2 M0 r) := t1 M0
        rw [if_pos zqk_9, zd_reqr, Option.bind_some, zi_l2, zi_add, ze_a1 hE.R hE.ok (by omega), Option.bind_some, zqg_9_11, Option.bind_some, zrq_k (by decide), h11, if_pos zqk_9, et, Option.bind_some]
        show mX3_leadToHandlers_10 N fuel (b + 9) (Int32.ofNat p) (ra nm + 2) (Int32.ofNat (4 * j) + 4) (zc w b C2 M0 r) = _
        rw [e4]
        exact s1 M0
      · have : (o.bind (zhan (μs nm) p l (c + 1) j)) = (o.bind fun σ => if 0 < uSk (μs nm) then zlead (uLen (μs nm)) (uHs (μs nm) (4 * j + 2) : Nat) [3] l σ else none).bind (zhan (μs nm) p l c (j + 1)) := by
          cases o with
          | none => rfl
          | some σ =>
            rw [Option.bind_some, Option.bind_some]
            show (if uHs (μs nm) (4 * j) ≤ p ∧ p < uHs (μs nm) (4 * j + 1) then _ else some σ).bind _ = _
            rw [if_pos g]
        rw [this]
        exact s3
    · obtain ⟨C3, s1, s2, s3⟩ := zd_handlers hp hl c fuel (j + 1) C o (by omega) (by omega) hE h11 h
      refine ⟨C3, fun M0 => ?_, s2, ?_⟩
      · rw [head C M0 hE, if_neg g]
        exact s1 M0
      · have : (o.bind (zhan (μs nm) p l (c + 1) j)) = o.bind (zhan (μs nm) p l c (j + 1)) := by
          cases o with
          | none => rfl
          | some σ =>
            rw [Option.bind_some, Option.bind_some]
            show (if uHs (μs nm) (4 * j) ≤ p ∧ p < uHs (μs nm) (4 * j + 1) then _ else some σ).bind _ = _
            rw [if_neg g]
            rfl
        rw [this]
        exact s3
theorem ztr_eq {E : zEn} {m op x y : Nat} {μ : zMu} (ho : op < 256) : ztr E m μ op x y st l = (((zpop (zsh op).2.1 st).map fun s => (s, l)).bind (zhg E m μ op x y)).bind (zga (uSk μ) (zpS (zsh op).2.2)) := by
  unfold ztr zhg
  cases zpop (zsh op).2.1 st with
  | none => rfl
  | some s1 =>
    show (zheed E m μ op x y s1 l).bind _ = ((zheed E m μ op x y s1 l).bind _).bind _
    cases zheed E m μ op x y s1 l with
    | none => rfl
    | some v =>
      rw [Option.bind_some, Option.bind_some]
      have h1 := (zsh_tab3 op ho).2.1
      have h2 := zsh_k op ho
      cases e : (zsh op).2.2 with
      | nil =>
        show (if v.1.length ≤ uSk μ then some (v.1, v.2) else none) = _
        by_cases c : v.1.length ≤ uSk μ
        · rw [if_pos c]; rfl
        · rw [if_neg c]; rfl
      | cons k ks =>
        rw [e] at h1 h2
        cases ks with
        | cons k2 ks => have : ks.length + 1 + 1 ≤ 1 := h1; omega
        | nil =>
          have hk := h2 k (List.mem_cons_self)
          show (if (k :: v.1).length ≤ uSk μ then some (k :: v.1, v.2) else none) = (if v.1.length ≤ uSk μ then some v else none).bind (zga (uSk μ) k)
          by_cases c : (k :: v.1).length ≤ uSk μ
          · have c' : v.1.length + 1 ≤ uSk μ := c
            rw [if_pos c, if_pos (by omega), Option.bind_some]
            unfold zga
            rw [if_neg (by omega), if_pos c]
          · rw [if_neg c]
            by_cases d : v.1.length ≤ uSk μ
            · rw [if_pos d, Option.bind_some]
              unfold zga
              rw [if_neg (by omega), if_neg c]
            · rw [if_neg d]; rfl
theorem zto_b {p x y : Nat} (hp : p ≤ 200) (hx : x < 256) (hy : y < 256) : -2 ^ 31 ≤ zto p x y ∧ zto p x y < 2 ^ 31 := by
  unfold zto zsg
  split <;> omega
/-- frame of a look -/
def zF14 (C C' : zC) : Prop := (∀ o k, ¬ (9 ≤ o ∧ o ≤ 14) → C'.1 o k = C.1 o k) ∧ C'.2 = C.2
theorem zF14.rf : zF14 C C := ⟨fun _ _ _ => rfl, rfl⟩
theorem zF14.tr {C1 C2 : zC} (h : zF14 C C1) (h' : zF14 C1 C2) : zF14 C C2 := ⟨fun o k e => (h'.1 o k e).trans (h.1 o k e), h'.2.trans h.2⟩
theorem zFl.f14 (h : zFl C C') : zF14 C C' := ⟨fun o k e => h.1 o k (by omega) (by omega), h.2⟩
theorem zF9.f14 (h : zF9 C C') : zF14 C C' := ⟨fun o k e => h.1 o k (by omega), h.2⟩
theorem zEv.f14 (h : zEv b K F ρ α π r C M nm ra μs) (h' : zF14 C C') : zEv b K F ρ α π r C' M nm ra μs := h.cong (fun o k e => h'.1 o k (by omega)) (by rw [h'.2])
theorem zd_look (hE : zEv b K F ρ α π r C M nm ra μs) (hN : 9 ≤ N) (h : zJs (μs nm) C (some σ) σ0 wt0 n0) (hp : σ p = some (st, l)) :
    ∃ C', zHC w b (mX3_look N (b + 9) (Int32.ofNat p)) C r id C' r ∧ zF14 C C' ∧ zJs (μs nm) C' (zlook (K, F, ρ, μs) nm (μs nm) p st l σ) σ0 wt0 n0 := by
  obtain ⟨h1, hO, wt, n, hJ, hW, hm⟩ := h
  obtain ⟨p1, p2, p3, p4⟩ := hO p st l hp
  have hn : uLen (μs nm) ≤ 200 := hE.ok.1
  have h12 : uSk (μs nm) ≤ 12 := hE.ok.2.2.2.2.2.2.2.2.2.1
  have h16 : uLo (μs nm) ≤ 16 := hE.ok.2.2.2.2.2.2.2.2.1
  have h8 := hE.ok.2.2.1
  have hop := hE.ok.2.1 p p1
  obtain ⟨tb1, tb2, tb3⟩ := zsh_tab2 (uC (μs nm) p) hop
  obtain ⟨tc1, tc2, tc3, tc4⟩ := zsh_tab3 (uC (μs nm) p) hop
  obtain ⟨k13, k14⟩ := hJ.2.2.2.2.2.2.1 p st l hp
  have hR3 : ∀ a, a ≤ nm → uRs (μs a) ≤ 3 := fun a ha => (hE.2.2.2.2 a ha).2.2.2.2.2.2.2.2.2.2.2
  have head : ∀ M0 : zM, mX3_look N (b + 9) (Int32.ofNat p) (zc w b C M0 r) = mX3_look_47 N (b + 9) (Int32.ofNat p) (Int32.ofNat (uC (μs nm) p)) (Int32.ofNat (zshp (uC (μs nm) p))) (Int32.ofNat (p + (zsh (uC (μs nm) p)).1)) (if 0 < (zsh (uC (μs nm) p)).1 ∧ p + (zsh (uC (μs nm) p)).1 ≤ uLen (μs nm) then 1 else 0) (b + 9) (zc w b C M0 r) := fun M0 => by
    unfold mX3_look mX3_look_0 mX3_look_46
    rw [zqg_9_8 hE.2.2.2.1, Option.bind_some, if_pos (ze_kR hE.R), ze_at hE.R hE.ok p1 M0, Option.bind_some]
    dsimp only
    rw [qX5_shape, zsh_tab _ hop, Option.map_some, Option.bind_some]
    dsimp only
    unfold mX5_bytes mX5_bytes_0
    rw [Option.bind_some]
    dsimp only
    rw [tb1, zi_add]
    by_cases c1 : 0 < (zsh (uC (μs nm) p)).1
    · rw [if_neg (by rw [zi_le (by omega) (by omega)]; omega), zqg_9_8 hE.2.2.2.1, Option.bind_some, ze_f0 hE.R, Option.bind_some, ze_n0 hE.R hE.ok, Option.bind_some]
      by_cases c2 : p + (zsh (uC (μs nm) p)).1 ≤ uLen (μs nm)
      · rw [if_neg (by rw [zi_lt (by omega) (by omega)]; omega), if_pos ⟨c1, c2⟩]
      · rw [if_pos (by rw [zi_lt (by omega) (by omega)]; omega), if_neg (fun e => c2 e.2)]
    · rw [if_pos (by rw [zi_le (by omega) (by omega)]; omega), if_neg (fun e => c1 e.1)]
  by_cases c : 0 < (zsh (uC (μs nm) p)).1 ∧ p + (zsh (uC (μs nm) p)).1 ≤ uLen (μs nm)
  · have hN' : uH (μs nm) < N := by omega
    have f1 : zF14 C (zI (zI C 9 10 (Int32.ofNat (zpS st))) 9 11 (Int32.ofNat (zpk l 16))) := ((zF9.I (by decide)).tr (zF9.I (by decide))).f14
    have hJs1 : zJs (μs nm) (zI (zI C 9 10 (Int32.ofNat (zpS st))) 9 11 (Int32.ofNat (zpk l 16))) (some σ) σ0 wt0 n0 := ⟨h1, hO, wt, n, hJ.cong rfl (fun o k h1 h2 => by rw [zI1, if_neg (by omega), zI1, if_neg (by omega)]), hW, hm⟩
    obtain ⟨C2, t1, t2, t3⟩ := zd_handlers (N := N) (w := w) (p := p) (l := l) (σ0 := σ0) (wt0 := wt0) (n0 := n0) (by omega) p4 (uH (μs nm)) N 0 _ _ (by omega) hN' (hE.f14 f1) rfl hJs1
    rw [Option.bind_some] at t3
    have hE2 := (hE.f14 f1).fl t2
    have s10 : C2.1 9 10 = Int32.ofNat (zpS st) := t2.1 9 10 (by omega) (by omega)
    have s11 : C2.1 9 11 = Int32.ofNat (zpk l 16) := t2.1 9 11 (by omega) (by omega)
    have hO2 : zO C2 ((zhan (μs nm) p l (uH (μs nm)) 0 σ).map fun _ => (st, l)) := by
      cases e : zhan (μs nm) p l (uH (μs nm)) 0 σ with
      | none => rw [e] at t3; exact t3
      | some σ1 => rw [e] at t3; exact ⟨t3.1, s10, s11, p3, by show st.length ≤ 12; omega, p4⟩
    obtain ⟨C3, u1, u2, u3⟩ := zd_take (N := N) (w := w) (b := b) (r := r) (ks := (zsh (uC (μs nm) p)).2.1) tc4 tc1 hO2
    obtain ⟨C4, v1, v2, v3⟩ := zd_heed (N := N) (w := w) (op := uC (μs nm) p) (p := p) (hE2.f9 u2) u3 (fun v hv => by
      cases e : zhan (μs nm) p l (uH (μs nm)) 0 σ with
      | none => rw [e] at hv; cases hv
      | some σ1 =>
        rw [e] at hv
        cases e2 : zpop (zsh (uC (μs nm) p)).2.1 st with
        | none =>
          have hv' : (zpop (zsh (uC (μs nm) p)).2.1 st).map (fun s => (s, l)) = some v := hv
          rw [e2] at hv'; cases hv'
        | some s1 =>
          have hv' : (zpop (zsh (uC (μs nm) p)).2.1 st).map (fun s => (s, l)) = some v := hv
          rw [e2] at hv'
          injection hv' with hv'
          rw [← hv']
          exact Nat.le_trans (zpop_k p3 e2).2 p2) (by omega) rfl p1 c.2
    have v4 := zgv_O (s := uSk (μs nm)) (k := zpS (zsh (uC (μs nm) p)).2.2) h12 (by
      have h1 := tc2
      have h2 := zsh_k (uC (μs nm) p) hop
      cases e : (zsh (uC (μs nm) p)).2.2 with
      | nil => exact Nat.zero_le _
      | cons k ks =>
        rw [e] at h1 h2
        cases ks with
        | cons k2 ks => have : ks.length + 1 + 1 ≤ 1 := h1; omega
        | nil => exact (h2 k (List.mem_cons_self)).2) v3
    have f4 : zF14 C2 (zgv C4 (uSk (μs nm)) (Int32.ofNat (zpS (zsh (uC (μs nm) p)).2.2))) := ((u2.tr v2).tr zgv_f9).f14
    have f49 : zF9 C2 (zgv C4 (uSk (μs nm)) (Int32.ofNat (zpS (zsh (uC (μs nm) p)).2.2))) := (u2.tr v2).tr zgv_f9
    generalize hC5 : zgv C4 (uSk (μs nm)) (Int32.ofNat (zpS (zsh (uC (μs nm) p)).2.2)) = C5 at v4 f4 f49
    have hE5 := hE2.f14 f4
    have mid : ∀ M0 : zM, mX3_look N (b + 9) (Int32.ofNat p) (zc w b C M0 r) = if C5.1 9 9 = 0 then some (zc w b C5 M0 r) else ((mX5_jumps N (Int32.ofNat (uC (μs nm) p)) (zc w b C5 M0 r)).bind fun o31 => if o31.2 = 0 then (mX3_look_145 N (b + 9) (Int32.ofNat (uC (μs nm) p)) (Int32.ofNat (p + (zsh (uC (μs nm) p)).1)) o31.1) else ((zm_R o31.1 (b + 9) 3 8).bind fun v33 => if zm_k o31.1 v33 6 = true then ((mX6_pairAt N v33 (Int32.ofNat p + (1 : Int32)) o31.1).bind fun o35 => (zm_I o35.1 (b + 9) 3 10).bind fun v37 => (zm_I o35.1 (b + 9) 3 11).bind fun v39 => if zm_k o35.1 (b + 9) 3 = true then ((mX3_lead N (b + 9) (Int32.ofNat p + o35.2) v37 v39 o35.1).bind fun o41 => mX3_look_145 N (b + 9) (Int32.ofNat (uC (μs nm) p)) (Int32.ofNat (p + (zsh (uC (μs nm) p)).1)) o41) else none) else none)) := fun M0 => by
      rw [head M0, if_pos c]
      have e1 : mX3_leadToHandlers_10 N N (b + 9) (Int32.ofNat p) (ra nm + 2) 0 (zc w b (zI (zI C 9 10 (Int32.ofNat (zpS st))) 9 11 (Int32.ofNat (zpk l 16))) M0 r) = some (zc w b C2 M0 r) := t1 M0
      have e2 : mX3_take N (b + 9) (Int32.ofNat (zpS (zsh (uC (μs nm) p)).2.1)) (zc w b C2 M0 r) = some (zc w b C3 M0 r) := u1 M0
      have e3 : mX3_heed N (b + 9) (Int32.ofNat (uC (μs nm) p)) (Int32.ofNat p) (Int32.ofNat (zshp (uC (μs nm) p))) (zc w b C3 M0 r) = some (zc w b C4 M0 r) := v1 M0
      unfold mX3_look_47
      rw [if_pos zqk_9, zd_reqr, Option.bind_some, zrq_1, zqg_9_9, Option.bind_some, h1, if_neg (by decide), zqg_9_5, Option.bind_some, zqa_13 (by omega), Option.bind_some, k13, zqp_9_10, Option.bind_some, zqg_9_6, Option.bind_some, zqa_14 (by omega), Option.bind_some, show (zI C 9 10 (Int32.ofNat (zpS st))).1 14 p = Int32.ofNat (zpk l 16) from k14, zqp_9_11, Option.bind_some, if_pos zqk_9]
      unfold mX3_leadToHandlers mX3_leadToHandlers_0
      rw [zqg_9_8 (hE.f14 f1).2.2.2.1, Option.bind_some, ze_f1 hE.R, Option.bind_some, e1, Option.bind_some]
      unfold mX5_takes mX5_takes_0
      rw [Option.bind_some]
      dsimp only
      rw [if_pos zqk_9, tb2, e2, Option.bind_some, if_pos zqk_9, e3, Option.bind_some]
      unfold mX5_leaves mX5_leaves_0
      rw [Option.bind_some]
      dsimp only
      rw [if_pos zqk_9, tb3, zd_giver (hE2.f9 (u2.tr v2)), Option.bind_some, hC5, zqg_9_9, Option.bind_some]
    have hlk : zlook (K, F, ρ, μs) nm (μs nm) p st l σ = (zhan (μs nm) p l (uH (μs nm)) 0 σ).bind fun σ1 => (ztr (K, F, ρ, μs) nm (μs nm) (uC (μs nm) p) (uC (μs nm) (p + 1)) (uC (μs nm) (p + 2)) st l).bind fun v => zout (μs nm) p v σ1 := if_pos c
    cases e1 : zhan (μs nm) p l (uH (μs nm)) 0 σ with
    | none =>
      rw [e1] at v4
      have v4' : C5.1 9 9 = 0 := v4
      rw [hlk, e1]
      refine ⟨C5, fun M0 => ?_, (f1.tr t2.f14).tr f4, v4'⟩
      rw [mid, if_pos v4']
      rfl
    | some σ1 =>
      rw [e1] at v4 t3
      have e6 : ((((some σ1).map fun _ => (st, l)).bind fun v => (zpop (zsh (uC (μs nm) p)).2.1 v.1).map fun s => (s, v.2)).bind (zhg (K, F, ρ, μs) nm (μs nm) (uC (μs nm) p) (uC (μs nm) (p + 1)) (uC (μs nm) (p + 2)))).bind (zga (uSk (μs nm)) (zpS (zsh (uC (μs nm) p)).2.2)) = ztr (K, F, ρ, μs) nm (μs nm) (uC (μs nm) p) (uC (μs nm) (p + 1)) (uC (μs nm) (p + 2)) st l := (ztr_eq hop).symm
      rw [e6] at v4
      rw [hlk, e1, Option.bind_some]
      cases e2 : ztr (K, F, ρ, μs) nm (μs nm) (uC (μs nm) p) (uC (μs nm) (p + 1)) (uC (μs nm) (p + 2)) st l with
      | none =>
        rw [e2] at v4
        have v4' : C5.1 9 9 = 0 := v4
        refine ⟨C5, fun M0 => ?_, (f1.tr t2.f14).tr f4, v4'⟩
        rw [mid, if_pos v4']
        rfl
      | some v =>
        rw [e2] at v4
        obtain ⟨w1, w2, w3, w4, w5, w6⟩ := v4
        obtain ⟨x1, x2, x3⟩ := ztr_k hop h16 hR3 p3 p4 (show _ = some (v.1, v.2) from e2)
        have t5 : zJs (μs nm) C5 (some σ1) σ0 wt0 n0 := zJs.cong t3 (w1.trans t3.1.symm) (f49.1 9 7 (by omega)) (fun o k h1 h2 => f49.1 o k (by omega))
        rw [Option.bind_some]
        unfold zout
        obtain ⟨jt, gt⟩ := zsh_jump (uC (μs nm) p) hop
        -- the last step
        have last : ∀ (C6 : zC) (o : Option zTau), zEv b K F ρ α π r C6 M nm ra μs → C6.1 9 10 = Int32.ofNat (zpS v.1) → C6.1 9 11 = Int32.ofNat (zpk v.2 16) → zJs (μs nm) C6 o σ0 wt0 n0 → ∃ C7, (∀ M0 : zM, mX3_look_145 N (b + 9) (Int32.ofNat (uC (μs nm) p)) (Int32.ofNat (p + (zsh (uC (μs nm) p)).1)) (zc w b C6 M0 r) = some (zc w b C7 M0 r)) ∧ zF14 C6 C7 ∧ zJs (μs nm) C7 (o.bind fun σ2 => if uC (μs nm) p < 167 ∨ 177 < uC (μs nm) p ∧ uC (μs nm) p ≠ 191 then zlead (uLen (μs nm)) (p + (zsh (uC (μs nm) p)).1 : Nat) v.1 v.2 σ2 else some σ2) σ0 wt0 n0 := fun C6 o hE6 y1 y2 y3 => by
          by_cases g : uC (μs nm) p < 167 ∨ 177 < uC (μs nm) p ∧ uC (μs nm) p ≠ 191
          · obtain ⟨C7, z1, z2, z3⟩ := zd_lead (N := N) (w := w) (z := (p + (zsh (uC (μs nm) p)).1 : Nat)) hE6 y3 (by omega) x2 x1 x3
            refine ⟨C7, fun M0 => ?_, z2.f14, ?_⟩
            · have ez : mX3_lead N (b + 9) (Int32.ofNat (p + (zsh (uC (μs nm) p)).1)) (Int32.ofNat (zpS v.1)) (Int32.ofNat (zpk v.2 16)) (zc w b C6 M0 r) = some (zc w b C7 M0 r) := z1 M0
              unfold mX3_look_145 mX3_look_166
              rw [qX5_goesOn, gt, if_pos g, Option.map_some, Option.bind_some]
              dsimp only
              rw [if_neg (by decide), zqg_9_10, Option.bind_some, zqg_9_11, Option.bind_some, y1, y2, if_pos zqk_9, ez, Option.bind_some]
            · have : (o.bind fun σ2 => if uC (μs nm) p < 167 ∨ 177 < uC (μs nm) p ∧ uC (μs nm) p ≠ 191 then zlead (uLen (μs nm)) (p + (zsh (uC (μs nm) p)).1 : Nat) v.1 v.2 σ2 else some σ2) = o.bind (zlead (uLen (μs nm)) (p + (zsh (uC (μs nm) p)).1 : Nat) v.1 v.2) := by
                cases o with
                | none => rfl
                | some σ2 => rw [Option.bind_some, if_pos g]; rfl
              rw [this]
              exact z3
          · refine ⟨C6, fun M0 => ?_, zF14.rf, ?_⟩
            · unfold mX3_look_145 mX3_look_166
              rw [qX5_goesOn, gt, if_neg g, Option.map_some, Option.bind_some]
              dsimp only
              rw [if_pos rfl]
            · have : (o.bind fun σ2 => if uC (μs nm) p < 167 ∨ 177 < uC (μs nm) p ∧ uC (μs nm) p ≠ 191 then zlead (uLen (μs nm)) (p + (zsh (uC (μs nm) p)).1 : Nat) v.1 v.2 σ2 else some σ2) = o := by
                cases o with
                | none => rfl
                | some σ2 => rw [Option.bind_some, if_neg g]
              rw [this]
              exact y3
        by_cases g : 153 ≤ uC (μs nm) p ∧ uC (μs nm) p ≤ 167 ∨ uC (μs nm) p = 198 ∨ uC (μs nm) p = 199
        · have hb : (zsh (uC (μs nm) p)).1 = 3 := by
            have d : ∀ op, op < 256 → (153 ≤ op ∧ op ≤ 167 ∨ op = 198 ∨ op = 199) → (zsh op).1 = 3 := by decide +kernel
            exact d _ hop g
          have y1 := hE.ok.2.1 (p + 1) (by omega)
          have y2 := hE.ok.2.1 (p + 2) (by omega)
          obtain ⟨C6, z1, z2, z3⟩ := zd_lead (N := N) (w := w) (z := zto p (uC (μs nm) (p + 1)) (uC (μs nm) (p + 2))) hE5 t5 (zto_b (by omega) y1 y2) x2 x1 x3
          obtain ⟨C7, q1, q2, q3⟩ := last C6 _ (hE5.fl z2) ((z2.1 9 10 (by omega) (by omega)).trans w2) ((z2.1 9 11 (by omega) (by omega)).trans w3) z3
          refine ⟨C7, fun M0 => ?_, ((f1.tr t2.f14).tr f4).tr (z2.f14.tr q2), ?_⟩
          · have ez : mX3_lead N (b + 9) (Int32.ofInt (zto p (uC (μs nm) (p + 1)) (uC (μs nm) (p + 2)))) (Int32.ofNat (zpS v.1)) (Int32.ofNat (zpk v.2 16)) (zc w b C5 M0 r) = some (zc w b C6 M0 r) := z1 M0
            have ea : Int32.ofNat p + Int32.ofInt (zsg (uC (μs nm) (p + 1)) * 256 + uC (μs nm) (p + 2)) = Int32.ofInt (zto p (uC (μs nm) (p + 1)) (uC (μs nm) (p + 2))) := by
              rw [← zi_ofnn, ← Int32.ofInt_add]
              unfold zto
              rw [Int.add_assoc]
            have ep : mX6_pairAt N (ra nm) (Int32.ofNat p + 1) (zc w b C5 M0 r) = some (zc w b C5 M0 r, Int32.ofInt (zsg (uC (μs nm) (p + 1)) * 256 + uC (μs nm) (p + 2))) := by
              rw [zi_l1, zi_add]
              exact ze_pairAt hE.R hE.ok (by omega) M0
            rw [mid, if_neg (by rw [w1]; decide), qX5_jumps, jt, if_pos g, Option.map_some, Option.bind_some]
            dsimp only
            rw [if_neg (by decide), zqg_9_8 hE5.2.2.2.1, Option.bind_some, if_pos (ze_kR hE5.R), ep, Option.bind_some]
            dsimp only
            rw [zqg_9_10, Option.bind_some, zqg_9_11, Option.bind_some, w2, w3, if_pos zqk_9, ea, ez, Option.bind_some, q1 M0]
            rfl
          · rw [if_pos g]
            exact q3
        · obtain ⟨C7, q1, q2, q3⟩ := last C5 _ hE5 w2 w3 t5
          refine ⟨C7, fun M0 => ?_, ((f1.tr t2.f14).tr f4).tr q2, ?_⟩
          · rw [mid, if_neg (by rw [w1]; decide), qX5_jumps, jt, if_neg g, Option.map_some, Option.bind_some]
            dsimp only
            rw [if_pos rfl, q1 M0]
            rfl
          · rw [if_neg g]
            exact q3
  · refine ⟨zrq C 0, fun M0 => ?_, zrq_f9.f14, ?_⟩
    · rw [head M0, if_neg c]
      unfold mX3_look_47
      rw [if_pos zqk_9, zd_reqr, Option.bind_some, zqg_9_9, Option.bind_some, zrq_0, if_pos rfl]
      rfl
    · unfold zlook
      rw [if_neg c]
      exact zrq_0
end ZFG
