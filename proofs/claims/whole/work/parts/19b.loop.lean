/-! ===== the loop of a run ===== -/
def zS2C (C C' : zC) : Prop := (∀ o k, o < 15 → C'.1 o k = C.1 o k) ∧ (∀ o k, o < 15 → C'.2.2 o k = C.2.2 o k) ∧ C'.1 15 3 = C.1 15 3
def zS2M (M M' : zM) : Prop := (∀ o k, o < 29 → M'.1 o k = M.1 o k) ∧ (∀ k, k < 29 → M'.1 100 k = M.1 100 k) ∧ ∀ k, M'.2 99 k = M.2 99 k
/-- a run has ended in both -/
def zFin (w : Nat) (C : zC) (M : zM) (S : Nat) : Prop := zRs C M ∧ M.1 100 54 = 0 ∧ zHr w C S
theorem zm_kR {x : zv_X} {a ci k v : Nat} (h : zm_R x a ci k = some v) : zm_k x a ci = true := by
  unfold zm_R zm_f at h
  unfold zm_k
  cases hx : x.1 a with
  | none => rw [hx] at h; cases h
  | some q =>
    rw [hx] at h
    cases q with
    | inl q => cases h
    | inr q =>
      obtain ⟨c, fs⟩ := q
      by_cases e : c = ci
      · subst e; exact beq_self_eq_true c
      · simp only [if_neg e] at h
        cases h
section ZLP
variable {N w b K S f0 : Nat} {F ρ α π : Nat → Nat} {D : Nat → Nat → Prop} {C : zC} {M : zM} {r : zv_X} {Q : zQo} {φ : Nat → zFd}
theorem zS2C.tr {C1 C2 : zC} (h : zS2C C C1) (h' : zS2C C1 C2) : zS2C C C2 := ⟨fun o k e => (h'.1 o k e).trans (h.1 o k e), fun o k e => (h'.2.1 o k e).trans (h.2.1 o k e), h'.2.2.trans h.2.2⟩
theorem zS2M.tr {M1 M2 : zM} (h : zS2M M M1) (h' : zS2M M1 M2) : zS2M M M2 := ⟨fun o k e => (h'.1 o k e).trans (h.1 o k e), fun k e => (h'.2.1 k e).trans (h.2.1 k e), fun k => (h'.2.2 k).trans (h.2.2 k)⟩
theorem zSC.s2 {C' : zC} (h : zSC C C') : zS2C C C' := ⟨h.1, h.2.1, h.2.2.1⟩
theorem zSM.s2 {M' : zM} (h : zSM M M') : zS2M M M' := ⟨h.1, fun k e => h.2.1 k (Or.inl e), h.2.2⟩
theorem zRn.tick (hR : zRn w b K F ρ α π r Q D C M S f0 φ) (hO : zOn C M) (v v' : Int32) : zRn w b K F ρ α π r Q D (zI C 15 9 v) (zJ M 100 51 v') S f0 φ ∧ zOn (zI C 15 9 v) (zJ M 100 51 v') := by
  obtain ⟨r1, r2, r3, r4, r5, r6, r7, r8, r9, r10, r11, r12, t1⟩ := hR
  obtain ⟨n1, n2, n3, n4, n5, n6⟩ := hO
  have oC : ∀ o k, ¬ (o = 15 ∧ k = 9) → (zI C 15 9 v).1 o k = C.1 o k := fun o k h => by rw [zI1, if_neg h]
  have oM : ∀ o k, ¬ (o = 100 ∧ k = 51) → (zJ M 100 51 v').1 o k = M.1 o k := fun o k h => by rw [zJ1, if_neg h]
  have rC : ∀ o, o ≠ 15 → (zI C 15 9 v).1 o = C.1 o := fun o h => funext fun k => oC o k (by omega)
  have rM : ∀ o, o ≠ 100 → (zJ M 100 51 v').1 o = M.1 o := fun o h => funext fun k => oM o k (by omega)
  refine ⟨⟨r1.cong (oC _ _ (by omega)) (rC 2 (by decide)) (rC 3 (by decide)) (rC 4 (by decide)) (oM _ _ (by omega)) (rM 2 (by decide)) (rM 3 (by decide)) (rM 4 (by decide)), r2.cong (fun o k h1 h2 => oC o k (by omega)) (fun o k h1 h2 => oM o k (by omega)) (oM _ _ (by omega)) (oM _ _ (by omega)) (fun k => rfl), ⟨r3.1, (oM _ _ (by omega)).trans r3.2.1, ?_, fun m hm => ?_⟩, r4, (oC _ _ (by omega)).trans r5, r6, (oM _ _ (by omega)).trans r7, (oC _ _ (by omega)).trans r8, (oM _ _ (by omega)).trans r9, ?_, ?_, fun f hf => ?_, t1⟩, (oC _ _ (by omega)).trans n1, (oM _ _ (by omega)).trans n2, (oM _ _ (by omega)).trans n3, (oM _ _ (by omega)).trans n4, n5, n6⟩
  · have := r3.2.2.1
    unfold zLst at this ⊢
    rw [oC _ _ (by omega)]
    exact this
  · obtain ⟨a1, a2, a3, a4⟩ := r3.2.2.2 m hm
    refine ⟨a1, ?_, a3, a4⟩
    unfold zMt at a2 ⊢
    rw [rM 18 (by decide), rM 17 (by decide), rM 11 (by decide), rM 10 (by decide), rM 12 (by decide), rM 13 (by decide), rM 14 (by decide), rM 15 (by decide), rM 16 (by decide)]
    exact a2
  · rw [oC _ _ (by omega), oM _ _ (by omega)]; exact r10
  · rw [oC _ _ (by omega), oM _ _ (by omega)]; exact r11
  · exact zFr.mv2 (r12 f hf) (oC _ _ (by omega)) (oC _ _ (by omega)) rfl (fun k => rfl) (fun k => oC _ _ (by omega)) (oM _ _ (by omega)) (oM _ _ (by omega)) (oM _ _ (by omega)) (fun k hk => ⟨oM _ _ (by omega), rfl⟩) (fun k hk => ⟨oM _ _ (by omega), rfl⟩)
/-- behind the end -/
theorem zp_over {s fl g g' : Nat} (hE : zEd w C M S) (h9 : C.1 15 9 = Int32.ofNat s) (h51 : M.1 100 51 = Int32.ofNat s) :
    ∃ (C' : zC) (M' : zM) (o : Nat), zHC w b (mX4_perform_40 N (g + 1) (b + 15) (Int32.ofNat fl)) C r (fun x => (x, Int32.ofNat o)) C' r ∧ zHM w b (mX9_run_240 N (g' + 1) (b + 75) (Int32.ofNat fl)) M (fun x => (x, Int32.ofNat o)) M' ∧ zS2C C C' ∧ zS2M M M' ∧ zFin w C' M' S := by
  obtain ⟨o, e1, e2, e3, e4, e5, e6, e7, e8, e9⟩ := hE
  have p87 : ∀ M0, mX4_perform_87 N (b + 15) (zc w b C M0 r) = some (zc w b C M0 r, Int32.ofNat o) := fun M0 => by
    unfold mX4_perform_87 mX4_perform_100
    rw [zqg_15_7, Option.bind_some, e2, if_neg (by rw [zi_neg1 (by omega)]; exact id), Option.bind_some]
  refine ⟨C, zK M 100 50 (if o = 3 then 0 else M.2 100 50), o, fun M0 => ?_, fun C0 r0 => ?_, ⟨fun _ _ _ => rfl, fun _ _ _ => rfl, rfl⟩, ⟨fun _ _ _ => rfl, fun _ _ => rfl, fun k => by rw [zK2, if_neg (by omega)]⟩, ⟨?_, ?_, e7, e8⟩, e5, e9⟩
  · unfold mX4_perform_40
    rw [zqg_15_9, Option.bind_some]
    by_cases c : Int32.ofNat fl ≤ C.1 15 9
    · rw [if_pos c]; exact p87 M0
    · rw [if_neg c, zqg_15_7, Option.bind_some, e2, if_neg (by rw [zi_neg1 (by omega)]; exact id)]
      exact p87 M0
  · unfold mX9_run_240 mX9_run_303
    rw [zqg_75_49, Option.bind_some, e4, if_neg (by decide), zqg_75_48, Option.bind_some, e3]
    have e3' : ∀ v, (zK M 100 50 v).1 100 48 = Int32.ofNat o := fun v => e3
    rcases e1 with h | h | h
    · subst h
      rw [if_pos (by decide), zqg_75_50, Option.bind_some, zqp_75_50, Option.bind_some, zqg_75_48, Option.bind_some, e3', if_neg (by decide)]
    · subst h
      rw [if_pos (by decide), zqg_75_50, Option.bind_some, zqp_75_50, Option.bind_some, zqg_75_48, Option.bind_some, e3', if_neg (by decide)]
    · subst h
      rw [if_neg (by decide), zqp_75_50, Option.bind_some, zqg_75_48, Option.bind_some, e3', if_pos rfl]
  · rw [zK2, if_pos ⟨rfl, rfl⟩]; exact e6
  · rw [h9]; exact h51.symm
theorem zp_loop {fl : Nat} (hN : 1700 < N) (hw : w ≤ 400) (h7 : ∀ k, k < 7 → F k = 0) (hI : zInh K F ρ π) (hfl : fl ≤ 20000) : ∀ (k g g' s S f0 : Nat) (D : Nat → Nat → Prop) (φ : Nat → zFd) (C : zC) (M : zM), s + k = fl → k < g → k + 1 < g' → S + k + 1 < 2 ^ 31 → zRn w b K F ρ α π r Q D C M S f0 φ → zOn C M → C.1 15 9 = Int32.ofNat s → M.1 100 51 = Int32.ofNat s →
    ∃ (C' : zC) (M' : zM) (o S' : Nat), zHC w b (mX4_perform_40 N g (b + 15) (Int32.ofNat fl)) C r (fun x => (x, Int32.ofNat o)) C' r ∧ zHM w b (mX9_run_240 N g' (b + 75) (Int32.ofNat fl)) M (fun x => (x, Int32.ofNat o)) M' ∧ zS2C C C' ∧ zS2M M M' ∧ S' ≤ S + k ∧ zFin w C' M' S' := by
  intro k
  induction k with
  | zero =>
    intro g g' s S f0 D φ C M hs hg hg' hS hR hO h9 h51
    obtain ⟨g, rfl⟩ : ∃ x, g = x + 1 := ⟨g - 1, by omega⟩
    obtain ⟨g', rfl⟩ : ∃ x, g' = x + 2 := ⟨g' - 2, by omega⟩
    have hsf : s = fl := by omega
    subst hsf
    obtain ⟨n1, n2, n3, n4, n5, n6⟩ := hO
    have hr := hR.2.1.rest
    refine ⟨zI C 15 7 2, zK (zJ (zJ M 100 48 2) 100 49 1) 100 50 0, 2, S, fun M0 => ?_, fun C0 r0 => ?_, ⟨fun o k h => by rw [zI1, if_neg (by omega)], fun _ _ _ => rfl, by rw [zI1, if_neg (by decide)]⟩, ⟨fun o k h => by rw [zK1, zJ1, if_neg (by omega), zJ1, if_neg (by omega)], fun k h => by rw [zK1, zJ1, if_neg (by omega), zJ1, if_neg (by omega)], fun k => by rw [zK2, if_neg (by omega)]; rfl⟩, by omega, ⟨?_, ?_, ?_, ?_⟩, ?_, hr.cong fun o k h1 h2 => by rw [zI1, if_neg (by omega)]⟩
    · unfold mX4_perform_40 mX4_perform_87 mX4_perform_100
      rw [zqg_15_9, Option.bind_some, h9, if_pos (Int32.le_refl _), zqg_15_7, Option.bind_some, n1, if_pos rfl, zqp_15_7, Option.bind_some, zqg_15_7, Option.bind_some, zI1, if_pos ⟨rfl, rfl⟩]
      rfl
    · have e49 : (zJ (zJ M 100 48 2) 100 49 1).1 100 49 = 1 := by rw [zJ1, if_pos ⟨rfl, rfl⟩]
      have e48 : (zJ (zJ M 100 48 2) 100 49 1).1 100 48 = 2 := by rw [zJ1, if_neg (by decide), zJ1, if_pos ⟨rfl, rfl⟩]
      have e48' : ∀ v, (zK (zJ (zJ M 100 48 2) 100 49 1) 100 50 v).1 100 48 = 2 := fun v => e48
      rw [mX9_run_240, zqg_75_49, Option.bind_some, n3, if_pos rfl, zqg_75_51, Option.bind_some, h51, if_pos rfl, zqp_75_48, Option.bind_some, zqp_75_49, Option.bind_some, mX9_run_240, zqg_75_49, Option.bind_some, e49, if_neg (show ¬ (1 : Int32) = 0 by decide), zqg_75_48, Option.bind_some, e48, if_neg (show ¬ (2 : Int32) ≤ 1 by decide)]
      unfold mX9_run_303
      rw [zqp_75_50, Option.bind_some, zqg_75_48, Option.bind_some, e48']
      rfl
    · rw [zK2, if_pos ⟨rfl, rfl⟩]; exact n5
    · rw [zI1, if_neg (by decide), zK1, zJ1, if_neg (by decide), zJ1, if_neg (by decide), h9, h51]
    · rw [zI1, if_neg (by decide), zK1, zJ1, if_neg (by decide), zJ1, if_neg (by decide)]; exact hR.2.2.2.2.2.2.2.2.2.1
    · rw [zI1, if_neg (by decide), zK1, zJ1, if_neg (by decide), zJ1, if_neg (by decide)]; exact hR.2.2.2.2.2.2.2.2.2.2.1
    · rw [zK1, zJ1, if_neg (by decide), zJ1, if_neg (by decide)]; exact n4
  | succ k ih =>
    intro g g' s S f0 D φ C M hs hg hg' hS hR hO h9 h51
    obtain ⟨g, rfl⟩ : ∃ x, g = x + 1 := ⟨g - 1, by omega⟩
    obtain ⟨g', rfl⟩ : ∃ x, g' = x + 1 := ⟨g' - 1, by omega⟩
    obtain ⟨hR1, hO1⟩ := hR.tick hO (Int32.ofNat (s + 1)) (Int32.ofNat (s + 1))
    obtain ⟨C2, M2, c1, c2, sc, sm, S2, hS2, hout⟩ := zp_step hN hw (by omega) h7 hI hR1 hO1
    have k9 : C2.1 15 9 = Int32.ofNat (s + 1) := by rw [sc.2.2.2, zI1, if_pos ⟨rfl, rfl⟩]
    have k51 : M2.1 100 51 = Int32.ofNat (s + 1) := by rw [sm.2.1 51 (Or.inr rfl), zJ1, if_pos ⟨rfl, rfl⟩]
    have sc0 : zS2C C (zI C 15 9 (Int32.ofNat (s + 1))) := ⟨fun o k h => by rw [zI1, if_neg (by omega)], fun _ _ _ => rfl, by rw [zI1, if_neg (by decide)]⟩
    have sm0 : zS2M M (zJ M 100 51 (Int32.ofNat (s + 1))) := ⟨fun o k h => by rw [zJ1, if_neg (by omega)], fun k h => by rw [zJ1, if_neg (by omega)], fun k => rfl⟩
    have stepC : ∀ M0 res, mX4_perform_40 N g (b + 15) (Int32.ofNat fl) (zc w b C2 M0 r) = res → mX4_perform_40 N (g + 1) (b + 15) (Int32.ofNat fl) (zc w b C M0 r) = res := fun M0 res h => by
      have e := c1 M0
      rw [mX4_perform_40, zqg_15_9, Option.bind_some, h9, if_neg (by rw [zi_le (by omega) (by omega)]; omega), zqg_15_7, Option.bind_some, hO.1, if_pos rfl, Option.bind_some, show (Int32.ofNat s + 1 : Int32) = Int32.ofNat (s + 1) from zi_add s 1, zqp_15_9, Option.bind_some, zqk_15, if_pos rfl]
      unfold zcs at e
      unfold mX4_perform_84
      cases hq : mX4_step N (b + 15) (zc w b (zI C 15 9 (Int32.ofNat (s + 1))) M0 r) with
      | none => rw [hq] at e; cases e
      | some o =>
        rw [hq, Option.bind_some] at e
        rw [Option.bind_some]
        by_cases c : o.2 = 0
        · rw [if_pos c] at e ⊢
          rw [Option.some.inj e]
          exact h
        · rw [if_neg c] at e ⊢
          have hk : zm_k o.1 (b + 15) 4 = true := by
            by_cases ck : zm_k o.1 (b + 15) 4 = true
            · exact ck
            · exfalso
              unfold mX4_raise mX4_raise_0 at e
              cases hr : zm_R o.1 (b + 15) 4 2 with
              | none => rw [hr] at e; cases e
              | some v => exact ck (zm_kR hr)
          rw [hk, if_pos rfl, e, Option.bind_some]
          exact h
    have stepM : ∀ C0 r0 res, mX9_run_240 N g' (b + 75) (Int32.ofNat fl) (zc w b C0 M2 r0) = res → mX9_run_240 N (g' + 1) (b + 75) (Int32.ofNat fl) (zc w b C0 M r0) = res := fun C0 r0 res h => by
      have e : mX9_step N (b + 75) (zc w b C0 (zJ M 100 51 (Int32.ofNat (s + 1))) r0) = some (zc w b C0 M2 r0) := c2 C0 r0
      rw [mX9_run_240, zqg_75_49, Option.bind_some, hO.2.2.1, if_pos rfl, zqg_75_51, Option.bind_some, h51, if_neg (by rw [zi_eq (by omega) (by omega)]; omega), Option.bind_some, show (Int32.ofNat s + 1 : Int32) = Int32.ofNat (s + 1) from zi_add s 1, zqp_75_51, Option.bind_some, zqk_75, if_pos rfl, e, Option.bind_some]
      exact h
    rcases hout with ⟨D', f', φ', hR2, hO2⟩ | hE
    · obtain ⟨C', M', o, S', x1, x2, x3, x4, x5, x6⟩ := ih g g' (s + 1) S2 f' D' φ' C2 M2 (by omega) (by omega) (by omega) (by omega) hR2 hO2 k9 k51
      exact ⟨C', M', o, S', fun M0 => stepC M0 _ (x1 M0), fun C0 r0 => stepM C0 r0 _ (x2 C0 r0), sc0.tr (sc.s2.tr x3), sm0.tr (sm.s2.tr x4), by omega, x6⟩
    · obtain ⟨g, rfl⟩ : ∃ x, g = x + 1 := ⟨g - 1, by omega⟩
      obtain ⟨g', rfl⟩ : ∃ x, g' = x + 1 := ⟨g' - 1, by omega⟩
      obtain ⟨C', M', o, x1, x2, x3, x4, x5⟩ := zp_over (N := N) (b := b) (r := r) (fl := fl) (g := g) (g' := g') hE k9 k51
      exact ⟨C', M', o, S2, fun M0 => stepC M0 _ (x1 M0), fun C0 r0 => stepM C0 r0 _ (x2 C0 r0), sc0.tr (sc.s2.tr x3), sm0.tr (sm.s2.tr x4), by omega, x5⟩
end ZLP
