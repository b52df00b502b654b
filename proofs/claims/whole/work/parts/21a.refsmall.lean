/-! ===== the reference's judge: small methods ===== -/
def zNm (s : Nat) (M : zM) (o : Option (List Nat × (Nat → Nat))) : Prop := match o with
  | none => M.1 100 27 = 0
  | some v => M.1 100 27 = 1 ∧ M.1 100 25 = Int32.ofNat v.1.length ∧ v.1 = zrv (fun k => zN (M.1 24 k)) v.1.length ∧ (∀ k, k < 16 → M.1 26 k = Int32.ofNat (v.2 k)) ∧ zkS v.1 ∧ v.1.length ≤ s ∧ zk16 v.2
def zM9 (M M' : zM) : Prop := (∀ o k, ¬ (o = 24 ∨ o = 26 ∨ o = 100 ∧ (k = 25 ∨ k = 27)) → M'.1 o k = M.1 o k) ∧ M'.2 = M.2
/-- what the reference's judging needs and leaves alone -/
def zEm (K : Nat) (F ρ α π : Nat → Nat) (C : zC) (M : zM) (nm : Nat) (μs : Nat → zMu) : Prop := zTy C M K F ρ α π ∧ nm < 20 ∧ M.1 100 19 = Int32.ofNat nm ∧ ∀ m, m ≤ nm → zMt M m (μs m) ∧ zMuOk K (μs m)
section ZRS
variable {N w b K nm s k : Nat} {F ρ α π : Nat → Nat} {C0 : zC} {M M' : zM} {μs : Nat → zMu} {o : Option (List Nat × (Nat → Nat))}
theorem zM9.rf : zM9 M M := ⟨fun _ _ _ => rfl, rfl⟩
theorem zM9.tr {M1 M2 : zM} (h : zM9 M M1) (h' : zM9 M1 M2) : zM9 M M2 := ⟨fun o k e => (h'.1 o k e).trans (h.1 o k e), h'.2.trans h.2⟩
theorem zM9.J {o k : Nat} {v : Int32} (h : o = 24 ∨ o = 26 ∨ o = 100 ∧ (k = 25 ∨ k = 27)) : zM9 M (zJ M o k v) := ⟨fun o' k' e => by rw [zJ1, if_neg (by rintro ⟨rfl, rfl⟩; exact e h)], rfl⟩
theorem zMt.cong {m : Nat} {μ : zMu} (h : zMt M m μ) (hM : ∀ o k, o < 20 → M'.1 o k = M.1 o k) : zMt M' m μ := by
  have row : ∀ a, a < 20 → M'.1 a = M.1 a := fun a h => funext fun k => hM a k h
  unfold zMt at h ⊢
  rw [row 18 (by decide), row 17 (by decide), row 11 (by decide), row 10 (by decide), row 12 (by decide), row 13 (by decide), row 14 (by decide), row 15 (by decide), row 16 (by decide)]
  exact h
theorem zEm.cong (h : zEm K F ρ α π C0 M nm μs) (h1 : ∀ o k, o < 20 → M'.1 o k = M.1 o k) (h2 : ∀ k, k < 20 → M'.1 100 k = M.1 100 k) : zEm K F ρ α π C0 M' nm μs := by
  obtain ⟨a1, a2, a3, a4⟩ := h
  refine ⟨a1.cong rfl rfl rfl rfl (h2 5 (by decide)) (funext fun k => h1 2 k (by decide)) (funext fun k => h1 3 k (by decide)) (funext fun k => h1 4 k (by decide)), a2, (h2 19 (by decide)).trans a3, fun m hm => ⟨(a4 m hm).1.cong h1, (a4 m hm).2⟩⟩
theorem zEm.m9 (h : zEm K F ρ α π C0 M nm μs) (h' : zM9 M M') : zEm K F ρ α π C0 M' nm μs := h.cong (fun o k e => h'.1 o k (by omega)) (fun k e => h'.1 100 k (by omega))
theorem zEm.mt (h : zEm K F ρ α π C0 M nm μs) : zMt M nm (μs nm) := (h.2.2.2 nm (Nat.le_refl nm)).1
theorem zEm.ok (h : zEm K F ρ α π C0 M nm μs) : zMuOk K (μs nm) := (h.2.2.2 nm (Nat.le_refl nm)).2
theorem zrv_eq {f g : Nat → Nat} : ∀ {n : Nat}, (∀ k, k < n → f k = g k) → zrv f n = zrv g n
  | 0, _ => rfl
  | n + 1, h => by
    show f n :: zrv f n = g n :: zrv g n
    rw [h n (by omega), zrv_eq (fun k hk => h k (by omega))]
/-- pop -/
theorem zj_pop (hk : k ≤ 3) (h12 : s ≤ 12) (h : zNm s M o) : ∃ M', zHM w b (mX9_pop N (b + 75) (Int32.ofNat k)) M id M' ∧ zM9 M M' ∧ zNm s M' (o.bind fun v => (zpop [k] v.1).map fun t => (t, v.2)) := by
  have key : ∀ (M1 : zM) (s0 : Int32) (C : zC) (r : zv_X), s0 = 0 ∨ s0 = 1 → mX9_pop_43 N (b + 75) s0 (b + 75) (zc w b C M1 r) = some (zc w b C (zJ (zJ M1 100 27 s0) 100 25 (if 0 ≤ M1.1 100 25 then M1.1 100 25 else 0)) r) := fun M1 s0 C r hs => by
    have e25 : (zJ M1 100 27 s0).1 100 25 = M1.1 100 25 := rfl
    unfold mX9_pop_43 mX9_pop_62
    rw [if_pos hs, zqp_75_27, Option.bind_some, zqg_75_25, Option.bind_some, e25]
    by_cases c : 0 ≤ M1.1 100 25
    · rw [if_pos c, if_pos c, Option.bind_some, zqp_75_25, Option.bind_some]
    · rw [if_neg c, if_neg c, zqp_75_25, Option.bind_some]
  have fr : ∀ (v s0 v2 : Int32), zM9 M (zJ (zJ (zJ M 100 25 v) 100 27 s0) 100 25 v2) := fun v s0 v2 => ((zM9.J (by omega)).tr (zM9.J (by omega))).tr (zM9.J (by omega))
  cases o with
  | none =>
    have h' : M.1 100 27 = 0 := h
    refine ⟨zJ (zJ (zJ M 100 25 (M.1 100 25 - 1)) 100 27 0) 100 25 (if 0 ≤ M.1 100 25 - 1 then M.1 100 25 - 1 else 0), fun C r => ?_, fr _ _ _, rfl⟩
    unfold mX9_pop mX9_pop_0 mX9_pop_42
    rw [zqg_75_25, Option.bind_some, zqp_75_25, Option.bind_some, zqg_75_27, Option.bind_some, show (zJ M 100 25 (M.1 100 25 - 1)).1 100 27 = 0 from h', if_pos rfl, key _ _ _ _ (Or.inl rfl)]
    rfl
  | some v =>
    obtain ⟨st, l⟩ := v
    obtain ⟨h1, h2, h3, h4, h5, h6, h7⟩ := h
    dsimp only at h2 h3 h4 h5 h6 h7
    rw [Option.bind_some]
    cases st with
    | nil =>
      refine ⟨zJ (zJ (zJ M 100 25 (M.1 100 25 - 1)) 100 27 0) 100 25 (if 0 ≤ M.1 100 25 - 1 then M.1 100 25 - 1 else 0), fun C r => ?_, fr _ _ _, rfl⟩
      unfold mX9_pop mX9_pop_0 mX9_pop_42
      rw [zqg_75_25, Option.bind_some, zqp_75_25, Option.bind_some, zqg_75_27, Option.bind_some, show (zJ M 100 25 (M.1 100 25 - 1)).1 100 27 = 1 from h1, if_neg (by decide), zqg_75_25, Option.bind_some, show (zJ M 100 25 (M.1 100 25 - 1)).1 100 25 = M.1 100 25 - 1 from rfl, if_pos (by rw [h2]; decide), key _ _ _ _ (Or.inl rfl)]
      rfl
    | cons a st =>
      have hlen : st.length + 1 ≤ s := h6
      have h3' : a :: st = zN (M.1 24 st.length) :: zrv (fun k => zN (M.1 24 k)) st.length := h3
      injection h3' with e1 e2
      have ea : M.1 24 st.length = Int32.ofNat a := by rw [e1, zN_of]
      have e0 : M.1 100 25 - 1 = Int32.ofNat st.length := by
        rw [h2, zi_l1, zi_sub (by show 1 ≤ st.length + 1; omega)]
        rfl
      have hk5 := h5.hd
      have run : ∀ (C : zC) (r : zv_X), mX9_pop N (b + 75) (Int32.ofNat k) (zc w b C M r) = mX9_pop_43 N (b + 75) (if a = k then 1 else 0) (b + 75) (zc w b C (zJ M 100 25 (Int32.ofNat st.length)) r) := fun C r => by
        unfold mX9_pop mX9_pop_0 mX9_pop_42
        rw [zqg_75_25, Option.bind_some, e0, zqp_75_25, Option.bind_some, zqg_75_27, Option.bind_some, show (zJ M 100 25 (Int32.ofNat st.length)).1 100 27 = 1 from h1, if_neg (by decide), zqg_75_25, Option.bind_some, show (zJ M 100 25 (Int32.ofNat st.length)).1 100 25 = Int32.ofNat st.length from rfl, if_neg (by rw [zi_nn (by omega)]; exact not_false), zqg_75_24, Option.bind_some, Option.bind_some, zqa_94 (by omega), Option.bind_some, show (zJ M 100 25 (Int32.ofNat st.length)).1 24 st.length = Int32.ofNat a from ea]
        by_cases c : a = k
        · rw [if_pos (by rw [c]), if_pos c]
        · rw [if_neg (by rw [zi_eq (by omega) (by omega)]; exact c), if_neg c]
      refine ⟨_, fun C r => (run C r).trans (key _ _ _ _ (by split; exact Or.inr rfl; exact Or.inl rfl)), fr _ _ _, ?_⟩
      have ez : zpop [k] (a :: st) = if a = k then some st else none := rfl
      rw [ez]
      by_cases c : a = k
      · rw [if_pos c, if_pos c]
        refine ⟨rfl, ?_, e2, h4, h5.tl, by show st.length ≤ s; omega, h7⟩
        rw [zJ1, if_pos ⟨rfl, rfl⟩, show (zJ M 100 25 (Int32.ofNat st.length)).1 100 25 = Int32.ofNat st.length from rfl, if_pos (by rw [zi_p0 (by omega)]; exact True.intro)]
      · rw [if_neg c, if_neg c]
        rfl
/-- push -/
theorem zj_push (hE : zEm K F ρ α π C0 M nm μs) (hk : 1 ≤ k ∧ k ≤ 3) (h : zNm (uSk (μs nm)) M o) : ∃ M', zHM w b (mX9_push N (b + 75) (Int32.ofNat nm) (Int32.ofNat k)) M id M' ∧ zM9 M M' ∧ zNm (uSk (μs nm)) M' (o.bind (zga (uSk (μs nm)) k)) := by
  have h12 : uSk (μs nm) ≤ 12 := hE.ok.2.2.2.2.2.2.2.2.2.1
  have h20 := hE.2.1
  have bad : ∀ (C : zC) (r : zv_X), mX9_push_25 N (b + 75) (Int32.ofNat k) (b + 75) (zc w b C M r) = some (zc w b C (zJ M 100 27 0) r) := fun C r => by
    unfold mX9_push_25 mX9_push_26 mX9_push_56
    rw [if_pos (Or.inl rfl), zqp_75_27, Option.bind_some, zqg_75_27, Option.bind_some, show (zJ M 100 27 0).1 100 27 = 0 from rfl, if_pos rfl]
  cases o with
  | none =>
    have h' : M.1 100 27 = 0 := h
    refine ⟨zJ M 100 27 0, fun C r => ?_, zM9.J (by omega), rfl⟩
    · unfold mX9_push mX9_push_0
      rw [zqg_75_27, Option.bind_some, h', if_pos rfl, bad]
      rfl
  | some v =>
    obtain ⟨st, l⟩ := v
    obtain ⟨h1, h2, h3, h4, h5, h6, h7⟩ := h
    dsimp only at h2 h3 h4 h5 h6 h7
    have e15 : M.1 15 nm = Int32.ofNat (uSk (μs nm)) := hE.mt.2.2.2.2.2.2.2.1
    rw [Option.bind_some]
    unfold zga
    rw [if_neg (by omega)]
    by_cases c : (k :: st).length ≤ uSk (μs nm)
    · have c' : st.length + 1 ≤ uSk (μs nm) := c
      rw [if_pos c]
      refine ⟨zJ (zJ (zJ M 100 27 1) 24 st.length (Int32.ofNat k)) 100 25 (Int32.ofNat (st.length + 1)), fun C r => ?_, ((zM9.J (by omega)).tr (zM9.J (by omega))).tr (zM9.J (by omega)), ?_⟩
      · unfold mX9_push mX9_push_0 mX9_push_26 mX9_push_56
        rw [zqg_75_27, Option.bind_some, h1, if_neg (by decide), zqg_75_25, Option.bind_some, zqg_75_15, Option.bind_some, zqa_86 (by omega), Option.bind_some, h2, e15, if_neg (by rw [zi_le (by omega) (by omega)]; omega), if_pos (Or.inr rfl), zqp_75_27, Option.bind_some, zqg_75_27, Option.bind_some, show (zJ M 100 27 1).1 100 27 = 1 from rfl, if_neg (by decide), zqg_75_24, Option.bind_some, zqg_75_25, Option.bind_some, show (zJ M 100 27 1).1 100 25 = Int32.ofNat st.length from h2, zqs_94 (by omega), Option.bind_some, zqg_75_25, Option.bind_some, show (zJ (zJ M 100 27 1) 24 st.length (Int32.ofNat k)).1 100 25 = Int32.ofNat st.length from h2, zi_l1, zi_add, zqp_75_25, Option.bind_some]
        rfl
      · refine ⟨rfl, rfl, ?_, h4, h5.cons hk.1 hk.2, c, h7⟩
        show k :: st = zN ((zJ (zJ (zJ M 100 27 1) 24 st.length (Int32.ofNat k)) 100 25 (Int32.ofNat (st.length + 1))).1 24 st.length) :: zrv _ st.length
        have e1 : zN ((zJ (zJ (zJ M 100 27 1) 24 st.length (Int32.ofNat k)) 100 25 (Int32.ofNat (st.length + 1))).1 24 st.length) = k := by
          rw [zJ1, if_neg (by omega), zJ1, if_pos ⟨rfl, rfl⟩, zN_nat (by omega)]
        rw [e1]
        congr 1
        rw [h3, zrv_len]
        refine zrv_eq fun j hj => ?_
        rw [zJ1, if_neg (by omega), zJ1, if_neg (by omega), zJ1, if_neg (by omega)]
    · have c' : ¬ st.length + 1 ≤ uSk (μs nm) := c
      rw [if_neg c]
      refine ⟨zJ M 100 27 0, fun C r => ?_, zM9.J (by omega), rfl⟩
      · unfold mX9_push mX9_push_0
        rw [zqg_75_27, Option.bind_some, h1, if_neg (by decide), zqg_75_25, Option.bind_some, zqg_75_15, Option.bind_some, zqa_86 (by omega), Option.bind_some, h2, e15, if_pos (by rw [zi_le (by omega) (by omega)]; omega), bad]
        rfl
/-- popEither -/
theorem zj_either (h12 : s ≤ 12) (h : zNm s M o) : ∃ M' kd, zHM w b (mX9_popEither N (b + 75)) M (fun x => (x, Int32.ofNat kd)) M' ∧ zM9 M M' ∧ 1 ≤ kd ∧ kd ≤ 3 ∧ ((M'.1 100 27 = 0 ∧ ∀ v, o = some v → ∀ k st, v.1 = k :: st → ¬ (k = 1 ∨ k = 3)) ∨ ∃ st l, o = some (kd :: st, l) ∧ (kd = 1 ∨ kd = 3) ∧ zNm s M' (some (st, l))) := by
  have bad : ∀ (C : zC) (r : zv_X), mX9_popEither_34 N (b + 75) (b + 75) (zc w b C M r) = some (zc w b C (zJ M 100 27 0) r, 1) := fun C r => by
    unfold mX9_popEither_34 mX9_popEither_35
    rw [if_pos (Or.inl rfl), zqp_75_27, Option.bind_some, zqg_75_27, Option.bind_some, show (zJ M 100 27 0).1 100 27 = 0 from rfl, if_pos rfl]
  cases o with
  | none =>
    have h' : M.1 100 27 = 0 := h
    refine ⟨zJ M 100 27 0, 1, fun C r => ?_, zM9.J (by omega), by decide, by decide, Or.inl ⟨rfl, fun v e => by cases e⟩⟩
    unfold mX9_popEither mX9_popEither_0
    rw [zqg_75_27, Option.bind_some, h', if_pos rfl, bad]
    rfl
  | some v =>
    obtain ⟨st, l⟩ := v
    obtain ⟨h1, h2, h3, h4, h5, h6, h7⟩ := h
    dsimp only at h2 h3 h4 h5 h6 h7
    cases st with
    | nil =>
      refine ⟨zJ M 100 27 0, 1, fun C r => ?_, zM9.J (by omega), by decide, by decide, Or.inl ⟨rfl, fun v e k st e' => ?_⟩⟩
      · unfold mX9_popEither mX9_popEither_0
        rw [zqg_75_27, Option.bind_some, h1, if_neg (by decide), zqg_75_25, Option.bind_some, h2, if_pos (by decide), bad]
        rfl
      · injection e with e
        rw [← e] at e'
        cases e'
    | cons a st =>
      have hlen : st.length + 1 ≤ s := h6
      have h3' : a :: st = zN (M.1 24 st.length) :: zrv (fun k => zN (M.1 24 k)) st.length := h3
      injection h3' with e1 e2
      have ea : M.1 24 st.length = Int32.ofNat a := by rw [e1, zN_of]
      have hk5 := h5.hd
      have h2' : M.1 100 25 = Int32.ofNat (st.length + 1) := h2
      by_cases c : a = 2
      · refine ⟨zJ M 100 27 0, 1, fun C r => ?_, zM9.J (by omega), by decide, by decide, Or.inl ⟨rfl, fun v e k st' e' => ?_⟩⟩
        · unfold mX9_popEither mX9_popEither_0
          rw [zqg_75_27, Option.bind_some, h1, if_neg (by decide), zqg_75_25, Option.bind_some, h2', if_neg (by rw [zi_l0, zi_le (by omega) (by omega)]; omega), zqg_75_24, Option.bind_some, Option.bind_some, zi_l1, zi_sub (by omega), show st.length + 1 - 1 = st.length from rfl, zqa_94 (by omega), Option.bind_some, ea, if_pos (by rw [c]; rfl), bad]
          rfl
        · injection e with e
          rw [← e] at e'
          injection e' with e' _
          omega
      · refine ⟨zJ (zJ M 100 27 1) 100 25 (Int32.ofNat st.length), a, fun C r => ?_, (zM9.J (by omega)).tr (zM9.J (by omega)), hk5.1, hk5.2, Or.inr ⟨st, l, rfl, by omega, rfl, rfl, e2, h4, h5.tl, by show st.length ≤ s; omega, h7⟩⟩
        unfold mX9_popEither mX9_popEither_0 mX9_popEither_35
        rw [zqg_75_27, Option.bind_some, h1, if_neg (by decide), zqg_75_25, Option.bind_some, h2', if_neg (by rw [zi_l0, zi_le (by omega) (by omega)]; omega), zqg_75_24, Option.bind_some, Option.bind_some, zi_l1, zi_sub (by omega), show st.length + 1 - 1 = st.length from rfl, zqa_94 (by omega), Option.bind_some, ea, if_neg (by rw [zi_l2, zi_eq (by omega) (by omega)]; exact c), if_pos (Or.inr rfl), zqp_75_27, Option.bind_some, zqg_75_27, Option.bind_some, show (zJ M 100 27 (Int32.ofNat 1)).1 100 27 = Int32.ofNat 1 from rfl, if_neg (by decide), zqg_75_25, Option.bind_some, show (zJ M 100 27 (Int32.ofNat 1)).1 100 25 = Int32.ofNat (st.length + 1) from h2', zi_sub (by omega), show st.length + 1 - 1 = st.length from rfl, zqp_75_25, Option.bind_some, zqg_75_24, Option.bind_some, zqg_75_25, Option.bind_some, show (zJ (zJ M 100 27 (Int32.ofNat 1)) 100 25 (Int32.ofNat st.length)).1 100 25 = Int32.ofNat st.length from rfl, zqa_94 (by omega), Option.bind_some, show (zJ (zJ M 100 27 (Int32.ofNat 1)) 100 25 (Int32.ofNat st.length)).1 24 st.length = Int32.ofNat a from ea]
end ZRS
