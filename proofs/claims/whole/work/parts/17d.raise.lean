/-! ===== both raise; a step of both ===== -/
def zcs (N b : Nat) (x : zv_X) : Option zv_X := (mX4_step N (b + 15) x).bind fun o => if o.2 = 0 then some o.1 else mX4_raise N (b + 15) o.2 o.1
def zStp (N w b K : Nat) (F ρ α π : Nat → Nat) (r : zv_X) (Q : zQo) (C : zC) (M : zM) (S : Nat) : Prop := ∃ C' M', (∀ M0, zcs N b (zc w b C M0 r) = some (zc w b C' M0 r)) ∧ zHM w b (mX9_step N (b + 75)) M id M' ∧ zOut w b K F ρ α π r Q C M S C' M'
section ZRS
variable {N w b K S f0 : Nat} {F ρ α π : Nat → Nat} {D : Nat → Nat → Prop} {C : zC} {M : zM} {r : zv_X} {Q : zQo} {φ : Nat → zFd}
theorem zRn.fs (h : zRn w b K F ρ α π r Q D C M S f0 φ) : zFs D C M Q.2.1 f0 := fun f hf => ⟨_, _, _, _, _, h.2.2.2.2.2.2.2.2.2.2.2.1 f hf⟩
/-- a make in a run -/
theorem zp_mk {ty so n : Nat} (hN : 1700 < N) (hw : w ≤ 400) (hS : S + 1 < 2 ^ 31) (hR : zRn w b K F ρ α π r Q D C M S f0 φ) (hO : zOn C M) (hso : so = 0 ∨ so = 4 ∨ so = 5 ∨ so = 8 ∨ so = 9 ∨ so = 10 ∨ so = 11 ∨ so = 12) (hty : ty < K) (hn0 : so = 0 → n = F ty) (hty0 : so ≠ 0 → ty = 0) (hn : n < 2 ^ 31) :
    (∃ C' M', zHC w b (mX4_make N (b + 15) (zTag so ty) (zLen so n) (Int64.ofNat (zwd so n))) C r (fun x => (x, 0)) C' r ∧ zHM w b (mX9_make N (b + 75) (Int32.ofNat ty) (Int32.ofNat so) (Int32.ofNat n)) M (fun x => (x, 0)) M' ∧ zSC C C' ∧ zSM M M' ∧ zEd w C' M' (S + 1) ∧ zEd w C' (zJ (zJ M 100 48 3) 100 49 1) (S + 1)) ∨
    ∃ C' M' D' u t, zHC w b (mX4_make N (b + 15) (zTag so ty) (zLen so n) (Int64.ofNat (zwd so n))) C r (fun x => (x, Int32.ofNat (u + 1))) C' r ∧ zHM w b (mX9_make N (b + 75) (Int32.ofNat ty) (Int32.ofNat so) (Int32.ofNat n)) M (fun x => (x, Int64.ofNat (t + 1))) M' ∧ zSC C C' ∧ zSM M M' ∧ zRn w b K F ρ α π r Q D' C' M' (S + 1) f0 φ ∧ zOn C' M' ∧ D' (u + 1) t ∧ M'.1 32 t = Int32.ofNat so ∧ zwd so n ≤ w := by
  have hR' := hR
  obtain ⟨r1, r2, r3, r4, r5, r6, r7, r8, r9, r10, r11, r12, t1⟩ := hR
  obtain ⟨n1, n2, n3, n4, n5, n6⟩ := hO
  rcases zp_make (N := N) (w := w) (b := b) (r := r) hN hw r1 r2 hS r4 r5 r7 r8 r9 hR'.fs r11 hso hty hn0 hty0 hn with ⟨C', M', h1, h2, h3, h4, h5, h6, h7, h8, h9, h10, h11, h12⟩ | ⟨C', M', D', h, t, h1, h2, h3, h4, h5, h6, h7, h8, h9, h10, h11, h12, h13, h14, h15⟩
  · refine Or.inl ⟨C', M', h1, h2, h3.sc, h4.sm, ⟨3, Or.inr (Or.inr rfl), h6, h7, h8, ?_, ?_, ?_, ?_, h5⟩, ⟨3, Or.inr (Or.inr rfl), h6, ?_, ?_, ?_, ?_, ?_, ?_, h5⟩⟩
    · rw [h4.1 100 54 (Or.inr (by decide)) (by decide)]; exact n4
    · rw [if_pos rfl, h3.2]; exact n5
    · rw [h9, h11]; exact r10
    · rw [h10, h12]; exact r11
    · rw [zJ1, if_neg (by decide), zJ1, if_pos ⟨rfl, rfl⟩]; rfl
    · rw [zJ1, if_pos ⟨rfl, rfl⟩]
    · rw [zJ1, if_neg (by decide), zJ1, if_neg (by decide)]; exact n4
    · rw [if_pos rfl, h3.2]; exact n5
    · rw [h9, zJ1, if_neg (by decide), zJ1, if_neg (by decide)]; exact r10
    · rw [h10, zJ1, if_neg (by decide), zJ1, if_neg (by decide)]; exact r11
  · have hb := h5.1.1 _ _ h6
    obtain ⟨u, rfl⟩ : ∃ u, h = u + 1 := ⟨h - 1, by omega⟩
    refine Or.inr ⟨C', M', D', u, t, h1, h2, h3.sc, h4.sm, ⟨r1.sc h3.sc h4.sm, h5, r3.sc h3.sc h4.sm, r4, (h3.1 15 6 (by decide)).trans r5, by rw [h3.2]; exact r6, (h4.1 100 47 (Or.inr (by decide)) (by decide)).trans r7, (h3.1 15 3 (by decide)).trans r8, (h4.1 100 1 (Or.inr (by decide)) (by decide)).trans r9, h13, h14, fun f hf => h9 f _ _ _ _ _ hf (r12 f hf), t1⟩, ⟨h10.trans n1, h11.trans n2, h12.trans n3, (h4.1 100 54 (Or.inr (by decide)) (by decide)).trans n4, by rw [h3.2]; exact n5, (h4.2 100 50 (by decide)).trans n6⟩, h6, h7, h15⟩
theorem zp_raise {e : Nat} (hN : 1700 < N) (hw : w ≤ 400) (hS : S + 1 < 2 ^ 31) (h7 : ∀ k, k < 7 → F k = 0) (hR : zRn w b K F ρ α π r Q D C M S f0 φ) (hO : zOn C M) (he : e ≤ 6) :
    ∃ C' M', zHC w b (mX4_raise N (b + 15) (Int32.ofNat e)) C r id C' r ∧ zHM w b (mX9_raise N (b + 75) (Int32.ofNat e)) M id M' ∧ zOut w b K F ρ α π r Q C M S C' M' := by
  have hT := hR.1
  have hK7 := hT.2.2.1
  have hK30 := hT.2.2.2.1
  have eF := (hT.2.2.2.2.2.2.1 e (by omega)).2.1
  rw [h7 e (by omega)] at eF
  have ew : ∀ M0, mX2_wordsOfObject N (b + 16) (Int32.ofNat e) (zc w b C M0 r) = some (zc w b C M0 r, Int32.ofNat 2) := fun M0 => by
    unfold mX2_wordsOfObject mX2_wordsOfObject_0
    rw [zqg_16_0, Option.bind_some, zqg_1_1, Option.bind_some, zqa_3 (by omega), Option.bind_some, eF]
    rfl
  have e64 : (Int32.ofNat 2).toInt64 = Int64.ofNat (zwd 0 0) := by decide
  rcases zp_mk (ty := e) (so := 0) (n := 0) hN hw hS hR hO (Or.inl rfl) (by omega) (fun _ => (h7 e (by omega)).symm) (fun h => absurd rfl h) (by decide) with ⟨C', M', m1, m2, m3, m4, m5, _⟩ | ⟨C', M', D', u, t, m1, m2, m3, m4, m5, m6, m7, m8, _⟩
  · refine ⟨C', M', fun M0 => ?_, fun C0 r0 => ?_, m3, m4, S + 1, Nat.le_refl _, Or.inr m5⟩
    · have e1 := m1 M0
      rw [← e64] at e1
      have e1' : mX4_make N (b + 15) (Int32.ofNat e) 0 (Int32.ofNat 2).toInt64 (zc w b C M0 r) = some (zc w b C' M0 r, 0) := e1
      unfold mX4_raise mX4_raise_0 mX4_raise_25
      rw [zqg_15_2, Option.bind_some, zqk_16, if_pos rfl, ew, Option.bind_some]
      simp only [zqk_15, if_true]
      rw [e1', Option.bind_some, if_pos rfl]
      rfl
    · have e1 : mX9_make N (b + 75) (Int32.ofNat e) 0 0 (zc w b C0 M r0) = some (zc w b C0 M' r0, 0) := m2 C0 r0
      obtain ⟨o, _, _, _, h49, _⟩ := m5
      unfold mX9_raise mX9_raise_0 mX9_raise_23
      rw [zqk_75, if_pos rfl, e1, Option.bind_some, zqg_75_49, Option.bind_some, h49, if_neg (by decide)]
      rfl
  · obtain ⟨C2, M2, u1, u2, u3, u4, u5⟩ := zp_unw (N := N) (u := u) (t := t) hN hw m5 m6 m7 m8
    refine ⟨C2, M2, fun M0 => ?_, fun C0 r0 => ?_, m3.tr u3, m4.tr u4, S + 1, Nat.le_refl _, ?_⟩
    · have e1 := m1 M0
      rw [← e64] at e1
      have e1' : mX4_make N (b + 15) (Int32.ofNat e) 0 (Int32.ofNat 2).toInt64 (zc w b C M0 r) = some (zc w b C' M0 r, Int32.ofNat (u + 1)) := e1
      have e2 : mX4_unwind N (b + 15) (Int32.ofNat (u + 1)) (zc w b C' M0 r) = some (zc w b C2 M0 r) := u1 M0
      have hb := (m5.2.1.1.1 _ _ m7)
      unfold mX4_raise mX4_raise_0 mX4_raise_25
      rw [zqg_15_2, Option.bind_some, zqk_16, if_pos rfl, ew, Option.bind_some]
      simp only [zqk_15, if_true]
      rw [e1', Option.bind_some, if_neg (by rw [show (0 : Int32) = Int32.ofNat 0 from rfl, zi_eq (by omega) (by omega)]; omega)]
      show (if zm_k (zc w b C' M0 r) (b + 15) 4 = true then ((mX4_unwind N (b + 15) (Int32.ofNat (u + 1)) (zc w b C' M0 r)).bind fun o7 => some o7) else none) = _
      rw [zqk_15, if_pos rfl, e2, Option.bind_some]
      rfl
    · have e1 : mX9_make N (b + 75) (Int32.ofNat e) 0 0 (zc w b C0 M r0) = some (zc w b C0 M' r0, Int64.ofNat (t + 1)) := m2 C0 r0
      have e2 : mX9_hurl N (b + 75) (Int32.ofNat t) (zc w b C0 M' r0) = some (zc w b C0 M2 r0) := u2 C0 r0
      have et : (Int64.ofNat (t + 1)).toInt32 - 1 = Int32.ofNat t := by rw [Int64.toInt32_ofNat']; exact zi_sub (a := t + 1) (b := 1) (by omega)
      unfold mX9_raise mX9_raise_0 mX9_raise_23
      rw [zqk_75, if_pos rfl, e1, Option.bind_some, zqg_75_49, Option.bind_some, m6.2.2.1, if_pos rfl, zqk_75, if_pos rfl, et, e2, Option.bind_some]
      rfl
    · rcases u5 with ⟨f', φ', h1, h2⟩ | h1
      · exact Or.inl ⟨D', f', φ', h1, h2⟩
      · exact Or.inr h1
theorem zOut.r54 {C' : zC} {M' : zM} (h : zOut w b K F ρ α π r Q C M S C' M') : M'.1 100 54 = 0 := by
  obtain ⟨_, _, S', _, h⟩ := h
  rcases h with ⟨_, _, _, _, h⟩ | ⟨_, _, _, _, _, h, _⟩
  · exact h.2.2.2.1
  · exact h
/-- fail, and the step's end behind it -/
theorem zn_failed {M' : zM} {e : Nat} {f p n : Int32} (h : zHM w b (mX9_raise N (b + 75) (Int32.ofNat e)) M id M') (h54 : M'.1 100 54 = 0) (C0 : zC) (r0 : zv_X) : (mX9_fail N (b + 75) (Int32.ofNat e) (zc w b C0 M r0)).bind (fun o => mX9_step_327 N (b + 75) f p n o) = some (zc w b C0 M' r0) := by
  have e1 : mX9_raise N (b + 75) (Int32.ofNat e) (zc w b C0 M r0) = some (zc w b C0 M' r0) := h C0 r0
  have e54 : (zJ M' 100 54 1).1 100 54 = 1 := by rw [zJ1, if_pos ⟨rfl, rfl⟩]
  have fin : mX9_step_351 N (b + 75) (zc w b C0 (zJ M' 100 54 1) r0) = some (zc w b C0 M' r0) := by
    unfold mX9_step_351
    rw [zqp_75_54, Option.bind_some, zJJ, zJsame h54]
  unfold mX9_fail mX9_fail_0
  rw [zqk_75, if_pos rfl, e1, Option.bind_some, zqp_75_54, Option.bind_some, Option.bind_some]
  unfold mX9_step_327
  rw [zqg_75_49, Option.bind_some]
  by_cases c : (zJ M' 100 54 1).1 100 49 = 0
  · rw [if_pos c, zqg_75_54, Option.bind_some, e54, if_neg (by decide)]
    exact fin
  · rw [if_neg c]
    exact fin
/-- a step that meets an exception -/
theorem zStp_e {e : Nat} (hN : 1700 < N) (hw : w ≤ 400) (hS : S + 1 < 2 ^ 31) (h7 : ∀ k, k < 7 → F k = 0) (hR : zRn w b K F ρ α π r Q D C M S f0 φ) (hO : zOn C M) (he : 1 ≤ e ∧ e ≤ 6) (hc : ∀ M0, mX4_step N (b + 15) (zc w b C M0 r) = some (zc w b C M0 r, Int32.ofNat e))
    (hm : (∃ f p n : Int32, ∀ C0 r0, mX9_step N (b + 75) (zc w b C0 M r0) = (mX9_fail N (b + 75) (Int32.ofNat e) (zc w b C0 M r0)).bind (fun o => mX9_step_327 N (b + 75) f p n o)) ∨ ∀ C0 r0, mX9_step N (b + 75) (zc w b C0 M r0) = mX9_raise N (b + 75) (Int32.ofNat e) (zc w b C0 M r0)) : zStp N w b K F ρ α π r Q C M S := by
  obtain ⟨C', M', h1, h2, h3⟩ := zp_raise hN hw hS h7 hR hO he.2
  refine ⟨C', M', fun M0 => ?_, fun C0 r0 => ?_, h3⟩
  · unfold zcs
    rw [hc, Option.bind_some, if_neg (show ¬ Int32.ofNat e = 0 by rw [show (0 : Int32) = Int32.ofNat 0 from rfl, zi_eq (by omega) (by omega)]; omega)]
    exact h1 M0
  · rcases hm with ⟨f, p, n, hm⟩ | hm
    · rw [hm]
      exact zn_failed h2 h3.r54 C0 r0
    · rw [hm]
      exact h2 C0 r0
theorem zLe.tr {a b' c : Nat → Nat} (h : zLe a b') (h' : zLe b' c) : zLe a c := fun k hk => by
  rcases h k hk with h | h
  · exact Or.inl h
  · rcases h' k hk with h' | h'
    · exact Or.inl (h.trans h')
    · exact Or.inr (h.trans h')
/-- a step that touches the frame under way alone -/
theorem zStp_q {t p m t' p' : Nat} {lt st lt' st' : Nat → Nat} (hR : zRn w b K F ρ α π r Q D C M S f0 φ) (hO : zOn C M) (hφ : φ f0 = (t, p, m, lt, st)) (hq : zQ w b N D C M r Q.2.1 f0 m t' p' lt' st') (ht : ∃ l', Q.2.2.2 m p' = some (zrv st' t', l') ∧ zLe l' lt') : zStp N w b K F ρ α π r Q C M S := by
  obtain ⟨C', M', q1, q2, q3, q4, q5⟩ := hq
  obtain ⟨r1, r2, r3, r4, r5, r6, r7, r8, r9, r10, r11, r12, t1, t2, t3⟩ := hR
  obtain ⟨n1, n2, n3, n4, n5, n6⟩ := hO
  have sc : zSC C C' := ⟨fun o k h => q4.1 o k (by omega) (by omega), fun o k h => by rw [q4.2.2], q4.1 _ _ (by omega) (by omega), q4.1 _ _ (by omega) (by omega)⟩
  have sm : zSM M M' := ⟨fun o k h => q5.1 o k (by omega) (by omega) (by omega), fun k h => q5.1 _ _ (by omega) (by omega) (by omega), fun k => q5.2 _ _ (by omega) (by omega)⟩
  have hm : (φ f0).2.2.1 = m := by rw [hφ]
  refine ⟨C', M', fun M0 => ?_, q2, sc, sm, S, Nat.le_succ S, Or.inl ⟨D, f0, fun f => if f = f0 then (t', p', m, lt', st') else φ f, ⟨r1.sc sc sm, r2.cong (fun o k h1 h2 => q4.1 o k (by omega) (by omega)) (fun o k h1 h2 => q5.1 o k (by omega) (by omega) (by omega)) (q5.1 _ _ (by omega) (by omega) (by omega)) (q5.1 _ _ (by omega) (by omega) (by omega)) (fun k => q5.2 37 k (by omega) (by omega)), r3.sc sc sm, r4, (q4.1 _ _ (by omega) (by omega)).trans r5, by rw [q4.2.2]; exact r6, (q5.1 _ _ (by omega) (by omega) (by omega)).trans r7, (q4.1 _ _ (by omega) (by omega)).trans r8, (q5.1 _ _ (by omega) (by omega) (by omega)).trans r9, ?_, ?_, fun f hf => ?_, fun f hf => ?_, ?_, fun f hf => ?_⟩, ?_⟩⟩
  · unfold zcs
    rw [q1 M0, Option.bind_some, if_pos rfl]
  · rw [q4.1 _ _ (by omega) (by omega), q5.1 _ _ (by omega) (by omega) (by omega)]; exact r10
  · rw [q4.1 _ _ (by omega) (by omega), q5.1 _ _ (by omega) (by omega) (by omega)]; exact r11
  · show zFa D C' M' Q.2.1 f (if f = f0 then _ else φ f)
    by_cases c : f = f0
    · rw [if_pos c, c]; exact q3
    · rw [if_neg c]
      exact (r12 f hf).low (f := f0) (by omega) r4 (fun o k h1 h2 _ => q4.1 o k h1 h2) (fun o k h _ => q4.2.1 o k h) (fun o k _ => by rw [q4.2.2]) (Or.inl q5)
  · show (if f = f0 then ((t', p', m, lt', st') : zFd) else φ f).2.2.1 < Q.1
    by_cases c : f = f0
    · rw [if_pos c]
      have := t1 f0 (Nat.le_refl _)
      rw [hm] at this
      exact this
    · rw [if_neg c]; exact t1 f hf
  · show zT0 Q (if f0 = f0 then ((t', p', m, lt', st') : zFd) else φ f0)
    rw [if_pos rfl]
    exact ht
  · show zT1 Q (if f = f0 then _ else φ f) (if f + 1 = f0 then ((t', p', m, lt', st') : zFd) else φ (f + 1)).2.2.1
    rw [if_neg (by omega)]
    have h := t3 f hf
    by_cases c : f + 1 = f0
    · rw [if_pos c]
      rw [c, hm] at h
      exact h
    · rw [if_neg c]; exact h
  · exact ⟨(q4.1 _ _ (by omega) (by omega)).trans n1, (q5.1 _ _ (by omega) (by omega) (by omega)).trans n2, (q5.1 _ _ (by omega) (by omega) (by omega)).trans n3, (q5.1 _ _ (by omega) (by omega) (by omega)).trans n4, (q4.2.1 _ _ (by omega)).trans n5, (q5.2 _ _ (by omega) (by omega)).trans n6⟩
/-- what the judge's kinds tell at the place under way -/
theorem zRn.ty {t p m : Nat} {lt st : Nat → Nat} (hR : zRn w b K F ρ α π r Q D C M S f0 φ) (hO : zOn C M) (hφ : φ f0 = (t, p, m, lt, st)) {op : Nat} (hop : uC (Q.2.2.1 m) p = op) :
    zCur b K D C M r Q.2.1 f0 t p m lt st (Q.2.2.1 m) ∧ m < Q.1 ∧ zMuOk K (Q.2.2.1 m) ∧ ∃ l', zLe l' lt ∧ ∃ s1, zpop (zsh op).2.1 (zrv st t) = some s1 ∧ ∃ s2 l2, zheed (K, F, ρ, Q.2.2.1) m (Q.2.2.1 m) op (uC (Q.2.2.1 m) (p + 1)) (uC (Q.2.2.1 m) (p + 2)) s1 l' = some (s2, l2) ∧ ((zsh op).2.2 ++ s2).length ≤ uSk (Q.2.2.1 m) ∧
      (∀ lt', zLe l2 lt' → (zjumps op → ∃ q : Nat, zto p (uC (Q.2.2.1 m) (p + 1)) (uC (Q.2.2.1 m) (p + 2)) = (q : Int) ∧ ∃ l3, Q.2.2.2 m q = some ((zsh op).2.2 ++ s2, l3) ∧ zLe l3 lt') ∧ (zgoes op → ∃ l3, Q.2.2.2 m (p + (zsh op).1) = some ((zsh op).2.2 ++ s2, l3) ∧ zLe l3 lt')) := by
  obtain ⟨r1, r2, r3, r4, r5, r6, r7, r8, r9, r10, r11, r12, t1, ⟨l', y1, y2⟩, t3⟩ := hR
  obtain ⟨n1, n2, n3, n4, n5, n6⟩ := hO
  have hm : m < Q.1 := by
    have := t1 f0 (Nat.le_refl _)
    rw [hφ] at this
    exact this
  have hfr := r12 f0 (Nat.le_refl _)
  rw [hφ] at y1 y2 hfr
  obtain ⟨g1, g2, g3, g4⟩ := r3.2.2.2 m hm
  have hQ := r3.1
  obtain ⟨e1, e2, e3, e4, ⟨s', l2, e5, e6, e7⟩, e8⟩ := g4.2.2 p _ _ y1
  rw [hop] at e5 e6 e7
  unfold ztr at e5
  cases hp : zpop (zsh op).2.1 (zrv st t) with
  | none =>
    have e5' : (zpop (zsh op).2.1 (zrv st t)).bind _ = some (s', l2) := e5
    rw [hp] at e5'
    cases e5'
  | some s1 =>
    have e5' : (zpop (zsh op).2.1 (zrv st t)).bind (fun st1 => (zheed (K, F, ρ, Q.2.2.1) m (Q.2.2.1 m) op (uC (Q.2.2.1 m) (p + 1)) (uC (Q.2.2.1 m) (p + 2)) st1 l').bind fun q => if ((zsh op).2.2 ++ q.1).length ≤ uSk (Q.2.2.1 m) then some ((zsh op).2.2 ++ q.1, q.2) else none) = some (s', l2) := e5
    rw [hp, Option.bind_some] at e5'
    cases hh : zheed (K, F, ρ, Q.2.2.1) m (Q.2.2.1 m) op (uC (Q.2.2.1 m) (p + 1)) (uC (Q.2.2.1 m) (p + 2)) s1 l' with
    | none => rw [hh] at e5'; cases e5'
    | some q =>
      rw [hh, Option.bind_some] at e5'
      obtain ⟨hlen, e9⟩ := zg e5'
      have e10 : (zsh op).2.2 ++ q.1 = s' := congrArg Prod.fst (Option.some.inj e9)
      have e11 : q.2 = l2 := congrArg Prod.snd (Option.some.inj e9)
      have e34 := e3
      refine ⟨⟨r4, r6, r7, n3, n4, hfr, by omega, g1, g2, g3, e3, e4⟩, hm, g3, l', y2, s1, rfl, q.1, q.2, hh, hlen, fun lt' hle => ⟨fun hj => ?_, fun hj => ?_⟩⟩
      · obtain ⟨f1, f2, l3, f3, f4⟩ := e6 hj
        refine ⟨_, (Int.toNat_of_nonneg f1).symm, l3, ?_, ?_⟩
        · rw [e10]; exact f3
        · rw [e11] at hle; exact zLe.tr f4 hle
      · obtain ⟨f1, f2, l3, f3, f4⟩ := e7 hj
        refine ⟨l3, ?_, ?_⟩
        · rw [e10]
          exact f3
        · rw [e11] at hle; exact zLe.tr f4 hle
end ZRS
