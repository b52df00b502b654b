/-! ===== run ===== -/
section ZPR
variable {N w b K S : Nat} {F ρ α π : Nat → Nat} {C : zC} {M : zM} {r : zv_X} {Q : zQo}
theorem zp_go {mt fl : Nat} {va vc : Int64} (hN : 20002 < N) (hw : w ≤ 400) (h7 : ∀ k, k < 7 → F k = 0) (hI : zInh K F ρ π) (hT : zTy C M K F ρ α π) (hMe : zMe b K F ρ r C M Q) (hHr : zHr w C S) (hS : S + 20002 < 2 ^ 31) (h3 : C.1 15 3 = Int32.ofNat w) (h1 : M.1 100 1 = Int32.ofNat w) (h54 : M.1 100 54 = 0) (hmt : mt < Q.1) (hfl : fl ≤ 20000) :
    ∃ (C' : zC) (M' : zM) (o S' : Nat), zHC w b (mX4_perform N (b + 15) (Q.2.1 mt) va vc (Int32.ofNat fl)) C r (fun x => (x, Int32.ofNat o)) C' r ∧ zHM w b (mX9_run_60 N N (b + 75) (Int32.ofNat mt) va vc (Int32.ofNat fl) 0) (zJ (zJ M 100 36 0) 100 38 0) (fun x => (x, Int32.ofNat o)) M' ∧ zS2C C C' ∧ zS2M M M' ∧ S' ≤ S + 20000 ∧ zFin w C' M' S' := by
  obtain ⟨hQ, hm19, hL, hall⟩ := hMe
  obtain ⟨g1, g2, g3, g4⟩ := hall mt hmt
  have hna := g3.2.2.2.2.2.1
  have hkd := g3.2.2.2.2.2.2.1
  have hlo := g3.2.2.2.2.2.2.2.1
  have hlo16 := g3.2.2.2.2.2.2.2.2.1
  -- the class
  generalize hC1 : zI (zI (zI (zI (zL (zI (zI C 16 7 0) 16 8 0) 15 8 0) 15 9 0) 15 10 0) 15 11 0) 15 7 (-1) = C1
  have c1o : ∀ o k, ¬ (o = 16 ∧ (k = 7 ∨ k = 8)) → ¬ (o = 15 ∧ (k = 7 ∨ k = 9 ∨ k = 10 ∨ k = 11)) → C1.1 o k = C.1 o k := fun o k q1 q2 => by
    rw [← hC1]; simp (disch := omega) only [zI1, zL1, if_neg]
  have c1l : ∀ o k, ¬ (o = 15 ∧ k = 8) → C1.2.1 o k = C.2.1 o k := fun o k q => by rw [← hC1]; simp (disch := omega) only [zI2, zL2, if_neg]
  have c1v : C1.2.2 = C.2.2 := by rw [← hC1]; rfl
  have c18 : C1.2.1 15 8 = 0 := by rw [← hC1]; simp only [zI2, zL2, and_self, if_true]
  have c17 : C1.1 16 7 = Int32.ofNat 0 ∧ C1.1 16 8 = Int32.ofNat 0 := by rw [← hC1]; constructor <;> (simp (disch := omega) only [zI1, zL1, if_neg, if_pos, and_self, if_true]; rfl)
  have c1s : C1.1 15 7 = -1 ∧ C1.1 15 9 = Int32.ofNat 0 ∧ C1.1 15 10 = 0 ∧ C1.1 15 11 = 0 := by
    rw [← hC1]
    refine ⟨?_, ?_, ?_, ?_⟩ <;> simp (disch := omega) only [zI1, zL1, if_neg, if_pos, and_self, if_true]
    rfl
  generalize hCB : zBg (zV (zI C1 15 6 0) 15 5 (.ref (b + (3 * 0 + 27)))) 0 (Q.2.1 mt) = CB
  have cB : ∀ o k, o ≠ 100 → o ≠ 140 → ¬ (o = 15 ∧ k = 6) → CB.1 o k = C1.1 o k := fun o k q1 q2 q3 => by
    rw [← hCB]; unfold zBg
    rw [zFill_o (by omega), zI1, if_neg (by omega), zI1, if_neg (by omega), zV1, zV1, zI1, if_neg q3]
  have cB2 : CB.2.1 = C1.2.1 := by rw [← hCB]; rfl
  have cB3 : ∀ o k, CB.2.2 o k = if o = 100 ∧ k = 3 then .ref (Q.2.1 mt) else if o = 15 ∧ k = 5 then .ref (b + (3 * 0 + 27)) else C1.2.2 o k := fun o k => by rw [← hCB]; rfl
  have cBt : CB.1 100 2 = Int32.ofNat (16 + 0) := by rw [← hCB]; unfold zBg; rw [zFill_o (by omega), zI1, if_pos ⟨rfl, rfl⟩]
  have cBp : CB.1 100 4 = Int32.ofNat 0 := by rw [← hCB]; unfold zBg; rw [zFill_o (by omega), zI1, if_neg (by omega), zI1, if_pos ⟨rfl, rfl⟩]; rfl
  have cBr : ∀ k, k < 16 → CB.1 140 k = 0 := fun k hk => by rw [← hCB]; exact if_pos ⟨rfl, Nat.zero_le k, by omega⟩
  have cB6 : CB.1 15 6 = Int32.ofNat 0 := by
    rw [← hCB]; unfold zBg
    rw [zFill_o (by omega), zI1, if_neg (by omega), zI1, if_neg (by omega), zV1, zV1, zI1, if_pos ⟨rfl, rfl⟩]
    rfl
  have e5 : CB.2.2 15 5 = .ref (b + (3 * 0 + 27)) := by rw [cB3, if_neg (by decide), if_pos ⟨rfl, rfl⟩]
  obtain ⟨C2, k1, k2, k3, k4, k5, k6⟩ := zd_bf33 (N := N) (w := w) (b := b) (va := va) (vc := vc) g1 g3 (uNa (Q.2.2.1 mt)) N 0 CB (by omega) (by omega) e5
  have c2z : ∀ k, k < 16 → C2.1 140 k = 0 := fun k hk => by
    rcases k3 k with h | h
    · rw [h]; exact cBr k hk
    · exact h
  have c2o : ∀ o k, o ≠ 100 → o ≠ 140 → ¬ (o = 15 ∧ k = 6) → C2.1 o k = C1.1 o k := fun o k q1 q2 q3 => (k4 o k q2).trans (cB o k q1 q2 q3)
  -- the reference
  generalize hM2 : zJ (zMal (zJ (zJ M 100 36 0) 100 38 0) 201) 100 47 0 = M2
  have m2o : ∀ o k, o ≠ 29 → ¬ (o = 100 ∧ (k = 36 ∨ k = 38 ∨ k = 47)) → M2.1 o k = M.1 o k := fun o k q1 q2 => by
    rw [← hM2, zJ1, if_neg (by omega)]
    show (if o = 29 ∧ k < 201 then 0 else (zJ (zJ M 100 36 0) 100 38 0).1 o k) = _
    rw [if_neg (by omega), zJ1, if_neg (by omega), zJ1, if_neg (by omega)]
  have m2a : ∀ k, k < 201 → M2.1 29 k = 0 := fun k hk => by
    rw [← hM2, zJ1, if_neg (by omega)]
    exact if_pos ⟨rfl, hk⟩
  have m2f : M2.1 100 36 = Int32.ofNat 0 ∧ M2.1 100 38 = Int32.ofNat 0 ∧ M2.1 100 47 = Int32.ofNat 0 := by
    rw [← hM2]
    refine ⟨?_, ?_, ?_⟩
    · rw [zJ1, if_neg (by omega)]
      show (if 100 = 29 ∧ 36 < 201 then 0 else (zJ (zJ M 100 36 0) 100 38 0).1 100 36) = _
      rw [if_neg (by omega), zJ1, if_neg (by omega), zJ1, if_pos ⟨rfl, rfl⟩]; rfl
    · rw [zJ1, if_neg (by omega)]
      show (if 100 = 29 ∧ 38 < 201 then 0 else (zJ (zJ M 100 36 0) 100 38 0).1 100 38) = _
      rw [if_neg (by omega), zJ1, if_pos ⟨rfl, rfl⟩]; rfl
    · rw [zJ1, if_pos ⟨rfl, rfl⟩]; rfl
  have m22 : M2.2 = M.2 := by rw [← hM2]; rfl
  have mo := zn_open (N := N) (w := w) (b := b) (M := M2) (F := 0) (m := mt) (by omega) m2f.2.2 (by decide)
  have oO : ∀ o k, ¬ (k = 0 ∧ (o = 40 ∨ o = 41 ∨ o = 42)) → ¬ (o = 44 ∧ k < 16) → (zMo M2 0 mt 16).1 o k = M2.1 o k := fun o k q1 q2 => by
    show (if o = 44 ∧ 16 * 0 ≤ k ∧ k < 16 * 0 + 16 then 0 else (zJ (zJ (zJ M2 40 0 (Int32.ofNat mt)) 41 0 0) 42 0 0).1 o k) = _
    rw [if_neg (by omega), zJ1, if_neg (by omega), zJ1, if_neg (by omega), zJ1, if_neg (by omega)]
  have oO44 : ∀ k, k < 16 → (zMo M2 0 mt 16).1 44 k = 0 := fun k hk => if_pos ⟨rfl, by omega, by omega⟩
  have oO40 : (zMo M2 0 mt 16).1 40 0 = Int32.ofNat mt ∧ (zMo M2 0 mt 16).1 41 0 = Int32.ofNat 0 ∧ (zMo M2 0 mt 16).1 42 0 = Int32.ofNat 0 := by
    refine ⟨?_, ?_, ?_⟩
    · show (if 40 = 44 ∧ 16 * 0 ≤ 0 ∧ 0 < 16 * 0 + 16 then 0 else (zJ (zJ (zJ M2 40 0 (Int32.ofNat mt)) 41 0 0) 42 0 0).1 40 0) = _
      rw [if_neg (by omega), zJ1, if_neg (by omega), zJ1, if_neg (by omega), zJ1, if_pos ⟨rfl, rfl⟩]
    · show (if 41 = 44 ∧ 16 * 0 ≤ 0 ∧ 0 < 16 * 0 + 16 then 0 else (zJ (zJ (zJ M2 40 0 (Int32.ofNat mt)) 41 0 0) 42 0 0).1 41 0) = _
      rw [if_neg (by omega), zJ1, if_neg (by omega), zJ1, if_pos ⟨rfl, rfl⟩]; rfl
    · show (if 42 = 44 ∧ 16 * 0 ≤ 0 ∧ 0 < 16 * 0 + 16 then 0 else (zJ (zJ (zJ M2 40 0 (Int32.ofNat mt)) 41 0 0) 42 0 0).1 42 0) = _
      rw [if_neg (by omega), zJ1, if_pos ⟨rfl, rfl⟩]; rfl
  obtain ⟨M4, n1, n2, n3, n4⟩ := zn_r98 (N := N) (w := w) (b := b) (mt := mt) (va := va) (vc := vc) (fl := Int32.ofNat fl) (by omega) g3 (uNa (Q.2.2.1 mt)) N 0 (zMo M2 0 mt 16) 1 (by omega) (by omega) (Or.inr rfl) (by rw [if_neg (by decide)]; rfl) ((oO _ _ (by omega) (by omega)).trans ((m2o _ _ (by omega) (by omega)).trans g2.2.2.2.2.1)) (fun j hj => (oO _ _ (by omega) (by omega)).trans ((m2o _ _ (by omega) (by omega)).trans (g2.2.2.2.2.2.1 j hj)))
  generalize hM5 : zMe2 M4 = M5
  have m5o : ∀ o k, ¬ (o = 100 ∧ (k = 47 ∨ k = 48 ∨ k = 49 ∨ k = 51 ∨ k = 52 ∨ k = 53)) → M5.1 o k = M4.1 o k := fun o k q => by
    rw [← hM5]; unfold zMe2; simp (disch := omega) only [zJ1, zK1, if_neg]
  have m52 : ∀ o k, ¬ (o = 100 ∧ k = 50) → M5.2 o k = M4.2 o k := fun o k q => by rw [← hM5]; unfold zMe2; simp (disch := omega) only [zJ2, zK2, if_neg]
  have m5f : M5.1 100 47 = Int32.ofNat 1 ∧ M5.1 100 48 = 0 ∧ M5.1 100 49 = 0 ∧ M5.1 100 51 = Int32.ofNat 0 ∧ M5.1 100 52 = 0 ∧ M5.1 100 53 = 0 ∧ M5.2 100 50 = 0 := by
    rw [← hM5]; unfold zMe2
    refine ⟨?_, ?_, ?_, ?_, ?_, ?_, ?_⟩
    · simp (disch := omega) only [zJ1, zK1, if_neg, if_pos, and_self, if_true]; rfl
    · simp (disch := omega) only [zJ1, zK1, if_neg, if_pos, and_self, if_true]
    · simp (disch := omega) only [zJ1, zK1, if_neg, if_pos, and_self, if_true]
    · simp (disch := omega) only [zJ1, zK1, if_neg, if_pos, and_self, if_true]; rfl
    · simp (disch := omega) only [zJ1, zK1, if_neg, if_pos, and_self, if_true]
    · simp (disch := omega) only [zJ1, zK1, if_neg, if_pos, and_self, if_true]
    · simp (disch := omega) only [zJ2, zK2, if_neg, if_pos, and_self, if_true]
  have mA : ∀ o k, o ≠ 29 → ¬ (k = 0 ∧ (o = 40 ∨ o = 41 ∨ o = 42)) → ¬ (o = 44 ∧ k < 16) → ¬ (o = 100 ∧ (k = 36 ∨ k = 38 ∨ k = 47 ∨ k = 48 ∨ k = 49 ∨ k = 51 ∨ k = 52 ∨ k = 53)) → M5.1 o k = M.1 o k := fun o k q1 q2 q3 q4 => by
    rw [m5o o k (by omega), n3 o k (by omega), oO o k q2 q3, m2o o k q1 (by omega)]
  have s2c : zS2C C C2 := ⟨fun o k h => (c2o o k (by omega) (by omega) (by omega)).trans (c1o o k (by omega) (by omega)), fun o k h => by rw [k6, cB3, if_neg (by omega), if_neg (by omega), c1v], (c2o 15 3 (by omega) (by omega) (by omega)).trans (c1o 15 3 (by omega) (by omega))⟩
  have s2m : zS2M M M5 := ⟨fun o k h => mA o k (by omega) (by omega) (by omega) (by omega), fun k h => mA _ _ (by omega) (by omega) (by omega) (by omega), fun k => by rw [m52 _ _ (by omega), n4 _ _ (by omega)]; show (if 99 = 43 ∧ 16 * 0 ≤ k ∧ k < 16 * 0 + 16 then 0 else M2.2 99 k) = _; rw [if_neg (by omega), m22]⟩
  have rC : ∀ o, o < 15 → C2.1 o = C.1 o := fun o h => funext fun k => s2c.1 o k h
  have rM : ∀ o, o < 29 → M5.1 o = M.1 o := fun o h => funext fun k => s2m.1 o k h
  have new : zFr (fun _ _ => False) C2 M5 Q.2.1 0 0 0 mt (fun k => if k < uNa (Q.2.2.1 mt) then uKd (Q.2.2.1 mt) k else 0) (fun _ => 1) := by
    refine ⟨?_, ?_, by omega, ?_, ?_, ?_, ?_, fun k hk => ?_, fun k hk => absurd hk (Nat.not_lt_zero k)⟩
    · rw [k4 _ _ (by omega)]; exact cBt
    · rw [m5o _ _ (by omega), n3 _ _ (by omega)]; exact oO40.2.2
    · rw [k4 _ _ (by omega)]; exact cBp
    · rw [m5o _ _ (by omega), n3 _ _ (by omega)]; exact oO40.2.1
    · rw [k6, cB3, if_pos ⟨rfl, rfl⟩]
    · rw [m5o _ _ (by omega), n3 _ _ (by omega)]; exact oO40.1
    · show M5.1 44 (16 * 0 + k) = Int32.ofNat (if k < uNa (Q.2.2.1 mt) then uKd (Q.2.2.1 mt) k else 0) ∧ (if k < uNa (Q.2.2.1 mt) then uKd (Q.2.2.1 mt) k else 0) ≤ 3 ∧ zSl (fun _ _ => False) (if k < uNa (Q.2.2.1 mt) then uKd (Q.2.2.1 mt) k else 0) (M5.2 43 (16 * 0 + k)) (C2.2.1 (0 + 120) k) (C2.1 (0 + 140) k)
      rw [show 16 * 0 + k = k by omega, m5o _ _ (by omega), m52 _ _ (by omega)]
      by_cases c : k < uNa (Q.2.2.1 mt)
      · rw [if_pos c]
        obtain ⟨q1, q2⟩ := n2 k (Nat.zero_le k) c
        have hk3 := hkd k c
        refine ⟨q1, hk3.2, ?_⟩
        rw [q2, show C2.1 (0 + 140) k = 0 from c2z k hk]
        by_cases c3 : uKd (Q.2.2.1 mt) k = 3
        · have ev : zav (uKd (Q.2.2.1 mt)) va vc k = 0 := if_pos c3
          rw [ev, c3]
          exact Or.inl ⟨rfl, Or.inl ⟨rfl, rfl⟩⟩
        · refine Or.inr ⟨c3, rfl, fun _ => k2 k (Nat.zero_le k) c c3, fun c1 => ?_⟩
          unfold zav
          rw [if_neg c3, if_pos c1, Int32.toInt32_toInt64]
      · rw [if_neg c, n3 _ _ (by omega)]
        exact ⟨oO44 k hk, by omega, Or.inr ⟨by decide, c2z k hk, fun h => absurd rfl h, fun h => absurd h (by decide)⟩⟩
  have hHp : zHp w K F ρ (fun _ _ => False) C2 M5 S := by
    obtain ⟨⟨ω, w1, w2⟩, w3⟩ := hHr
    have hq : ∀ o k, 16 ≤ o → o ≤ 22 → ¬ (o = 16 ∧ (k = 7 ∨ k = 8)) → C2.1 o k = C.1 o k := fun o k x1 x2 x3 => (c2o o k (by omega) (by omega) (by omega)).trans (c1o o k x3 (by omega))
    refine ⟨⟨fun _ _ h => h.elim, fun _ _ _ h => h.elim, fun _ _ _ h => h.elim⟩, ⟨ω, 0, 0, ⟨(c2o 16 7 (by omega) (by omega) (by omega)).trans c17.1, (c2o 16 8 (by omega) (by omega) (by omega)).trans c17.2, Nat.zero_le _, Nat.zero_le _, fun i hi => by rw [hq 21 i (by omega) (by omega) (by omega)]; exact w1 i hi, w2, fun i hi => absurd hi (Nat.not_lt_zero i), rfl⟩, fun _ _ h => h.elim⟩, ⟨fun _ => 0, 0, 0, ?_⟩, fun _ _ h => h.elim, ?_⟩
    · have a29 : ∀ t, t < 201 → M5.1 29 t = 0 := fun t ht => by rw [m5o _ _ (by omega), n3 _ _ (by omega), oO _ _ (by omega) (by omega)]; exact m2a t ht
      refine ⟨?_, ?_, Nat.zero_le _, Nat.zero_le _, fun k hk => absurd hk (Nat.not_lt_zero k), fun i _ hi => absurd hi (Nat.not_lt_zero i), fun t ht h => ?_, fun t ht => Or.inl (a29 t ht), fun k hk => absurd hk (Nat.not_lt_zero k), rfl⟩
      · rw [m5o _ _ (by omega), n3 _ _ (by omega), oO _ _ (by omega) (by omega)]; exact m2f.1
      · rw [m5o _ _ (by omega), n3 _ _ (by omega), oO _ _ (by omega) (by omega)]; exact m2f.2.1
      · rw [a29 t ht] at h; exact absurd h (by decide)
    · refine ⟨(hq 16 9 (by omega) (by omega) (by omega)).trans w3.1, fun u hu => ?_⟩
      rw [hq 20 _ (by omega) (by omega) (by omega)]
      exact w3.2 u hu
  have hRn : zRn w b K F ρ α π r Q (fun _ _ => False) C2 M5 S 0 (fun _ => (0, 0, mt, (fun k => if k < uNa (Q.2.2.1 mt) then uKd (Q.2.2.1 mt) k else 0), fun _ => 1)) := by
    refine ⟨hT.cong (s2c.1 1 3 (by decide)) (rC 2 (by decide)) (rC 3 (by decide)) (rC 4 (by decide)) (s2m.2.1 5 (by decide)) (rM 2 (by decide)) (rM 3 (by decide)) (rM 4 (by decide)), hHp, ⟨hQ, (s2m.2.1 19 (by decide)).trans hm19, ?_, fun m hm => ?_⟩, by decide, ?_, ?_, m5f.1, s2c.2.2.trans h3, (s2m.2.1 1 (by decide)).trans h1, ?_, ?_, fun f hf => ?_, fun f hf => hmt, ?_, fun f hf => absurd hf (Nat.not_lt_zero f)⟩
    · unfold zLst at hL ⊢
      rw [s2c.1 8 2 (by decide), s2c.2.1 8 1 (by decide)]
      exact hL
    · obtain ⟨y1, y2, y3, y4⟩ := hall m hm
      refine ⟨y1, ?_, y3, y4⟩
      unfold zMt at y2 ⊢
      rw [rM 18 (by decide), rM 17 (by decide), rM 11 (by decide), rM 10 (by decide), rM 12 (by decide), rM 13 (by decide), rM 14 (by decide), rM 15 (by decide), rM 16 (by decide)]
      exact y2
    · rw [k4 _ _ (by omega)]; exact cB6
    · rw [k6]; exact e5
    · rw [c2o 15 10 (by omega) (by omega) (by omega), c1s.2.2.1, m5f.2.2.2.2.1]
    · rw [c2o 15 11 (by omega) (by omega) (by omega), c1s.2.2.2, m5f.2.2.2.2.2.1]
    · have : f = 0 := by omega
      subst this
      exact new
    · obtain ⟨⟨l, y1, y2⟩, _⟩ := g4
      refine ⟨l, y1, fun k hk => ?_⟩
      rcases y2 k hk with q | ⟨q1, q2⟩
      · exact Or.inl q
      · refine Or.inr ?_
        show l k = if k < uNa (Q.2.2.1 mt) then uKd (Q.2.2.1 mt) k else 0
        rw [if_pos q1]; exact q2
  have hOn : zOn C2 M5 := ⟨(c2o 15 7 (by omega) (by omega) (by omega)).trans c1s.1, m5f.2.1, m5f.2.2.1, (mA 100 54 (by omega) (by omega) (by omega) (by omega)).trans h54, by rw [k5 _ _ (by omega), cB2]; exact c18, m5f.2.2.2.2.2.2⟩
  obtain ⟨C', M', o, S', x1, x2, x3, x4, x5, x6⟩ := zp_loop (N := N) (w := w) (b := b) (fl := fl) (by omega) hw h7 hI hfl fl N N 0 S 0 _ _ C2 M5 (by omega) (by omega) (by omega) (by omega) hRn hOn ((c2o 15 9 (by omega) (by omega) (by omega)).trans c1s.2.1) m5f.2.2.2.1
  refine ⟨C', M', o, S', fun M0 => ?_, fun C0 r0 => ?_, s2c.tr x3, s2m.tr x4, by omega, x6⟩
  · have e1 : mX1_begin N (b + (3 * 0 + 27)) (Q.2.1 mt) (zc w b (zV (zI C1 15 6 0) 15 5 (.ref (b + (3 * 0 + 27)))) M0 r) = some (zc w b CB M0 r) := by
      rw [← hCB]
      exact zd_begin (N := N) (w := w) (b := b) (C := zV (zI C1 15 6 0) 15 5 (.ref (b + (3 * 0 + 27)))) (r := r) (a := Q.2.1 mt) (f := 0) (by omega) (by decide) M0
    have e2 : mX4_beginFirst_33 N N (b + 15) (Q.2.1 mt) va vc 0 (zc w b CB M0 r) = some (zc w b C2 M0 r) := k1 M0
    have eb : mX4_beginFirst N (b + 15) (Q.2.1 mt) va vc (zc w b C1 M0 r) = some (zc w b C2 M0 r) := by
      have y5 : (zV (zI C1 15 6 0) 15 5 (.ref (b + (3 * 0 + 27)))).2.2 15 5 = .ref (b + (3 * 0 + 27)) := by rw [zV3, if_pos ⟨rfl, rfl⟩]
      have ea : zm_aR (zc w b (zI C1 15 6 0) M0 r) (b + 23) 0 = some (b + (3 * 0 + 27)) := zqa_23 (n := 0) (by decide)
      unfold mX4_beginFirst mX4_beginFirst_0
      rw [zqp_15_6, Option.bind_some, zqg_15_4, Option.bind_some, ea, Option.bind_some, zqp_15_5, Option.bind_some, zqg_15_5 y5, Option.bind_some, zqkF (by decide), if_pos rfl, e1, Option.bind_some]
      exact e2
    unfold mX4_perform mX4_perform_0 mX2_empty mX2_empty_0
    rw [zqg_15_2, Option.bind_some, zqk_16, if_pos rfl, zqp_16_7, Option.bind_some, zqp_16_8, Option.bind_some, Option.bind_some, zqp_15_8, Option.bind_some, zqp_15_9, Option.bind_some, zqp_15_10, Option.bind_some, zqp_15_11, Option.bind_some, zqp_15_7, Option.bind_some, zqk_15, if_pos rfl, hC1, eb, Option.bind_some]
    exact x1 M0
  · have e1 := zn_r60 (N := N) (w := w) (b := b) (M := zJ (zJ M 100 36 0) 100 38 0) (mt := Int32.ofNat mt) (fl := Int32.ofNat fl) (va := va) (vc := vc) 201 N 0 (by omega) (by omega) C0 r0
    rw [zMal_0, hM2] at e1
    have e2 : mX9_open N (b + 75) (Int32.ofNat mt) (zc w b C0 M2 r0) = some (zc w b C0 (zMo M2 0 mt 16) r0) := mo C0 r0
    rw [e2, Option.bind_some] at e1
    have e3 := n1 C0 r0
    rw [hM5] at e3
    exact e1.trans (e3.trans (x2 C0 r0))
theorem zp_run (hN : 20002 < N) (hw : w ≤ 400) (h7 : ∀ k, k < 7 → F k = 0) (hI : zInh K F ρ π) (hT : zTy C M K F ρ α π) (hMe : zMe b K F ρ r C M Q) (hHr : zHr w C S) (hS : S + 20002 < 2 ^ 31) (h3 : C.1 15 3 = Int32.ofNat w) (h1 : M.1 100 1 = Int32.ofNat w) (h54 : M.1 100 54 = 0) (a1 : Int32) (va vc : Int64) (a4 : Int32) :
    (∃ (C' : zC) (M' : zM) (o S' : Nat), zHC w b (mX8_run N (b + 0) a1 va vc a4) C r (fun x => (x, .inl (Int32.ofNat o))) C' r ∧ zHM w b (mX9_run N (b + 75) a1 va vc a4) M (fun x => (x, Int32.ofNat o)) M' ∧ M'.1 100 0 = 0 ∧ zS2C C C' ∧ zS2M (zJ M 100 0 0) M' ∧ S' ≤ S + 20000 ∧ zFin w C' M' S') ∨
    ∃ (E : String) (v : Int32), zHC w b (mX8_run N (b + 0) a1 va vc a4) C r (fun x => (x, .inr E)) C (zv_pad r) ∧ zHM w b (mX9_run N (b + 75) a1 va vc a4) M (fun x => (x, 0)) (zJ M 100 0 v) ∧ (E = "java/lang/IndexOutOfBoundsException" ∧ v = 1 ∨ E = "java/lang/IllegalArgumentException" ∧ v = 2) := by
  have hMe' := hMe
  obtain ⟨hQ, hm19, hL, hall⟩ := hMe
  have hsz := hL.1
  have e00 : ∀ v, (zJ M 100 0 v).1 100 0 = v := fun v => by rw [zJ1, if_pos ⟨rfl, rfl⟩]
  have x35 : ∀ v : Int32, (v = 1 ∨ v = 2) → ∀ C0 r0, mX9_run_35 N (b + 75) a1 va vc a4 v (b + 75) (zc w b C0 M r0) = some (zc w b C0 (zJ M 100 0 v) r0, 0) := fun v hv C0 r0 => by
    unfold mX9_run_35
    rw [zqp_75_0, Option.bind_some, zqg_75_0, Option.bind_some, e00]
    rcases hv with e | e <;> subst e <;> rw [if_neg (by decide)]
  by_cases c1 : ¬ a1 < 0 ∧ a1 < Int32.ofNat Q.1
  · obtain ⟨mt, rfl, hmt0⟩ := zi_of (zi_nlt.mp c1.1)
    have hmt := c1.2
    rw [zi_lt hmt0 (by omega)] at hmt
    have kC : ∀ M0, mX8_run N (b + 0) (Int32.ofNat mt) va vc a4 (zc w b C M0 r) = if a4 < 0 then some (zv_pad (zc w b C M0 r), .inr "java/lang/IllegalArgumentException") else if a4 ≤ (20000 : Int32) then (mX4_perform N (b + 15) (Q.2.1 mt) va vc a4 (zc w b C M0 r)).bind fun o11 => some (o11.1, .inl o11.2) else some (zv_pad (zc w b C M0 r), .inr "java/lang/IllegalArgumentException") := fun M0 => by
      have eg := zd_get (N := N) (w := w) (b := b) (C := C) (r := r) hL hmt hQ M0
      have kR : zm_k (zc w b C M0 r) (Q.2.1 mt) 6 = true := ze_kR (hall mt hmt).1
      unfold mX8_run mX8_run_0 mX8_run_38 mJx4a65c_size_8abf5 mJx4a65c_size_8abf5_0
      rw [if_neg c1.1, zqg_0_2, Option.bind_some, zqk_8, if_pos rfl, zqg_8_2, Option.bind_some, Option.bind_some, hsz, if_pos c1.2]
      simp only [zqg_0_4, zqg_0_2, zqk_8, eg, kR, zqk_15, Option.bind_some, if_true]
    have kM : ∀ C0 r0, mX9_run N (b + 75) (Int32.ofNat mt) va vc a4 (zc w b C0 M r0) = if a4 < 0 then mX9_run_35 N (b + 75) (Int32.ofNat mt) va vc a4 2 (b + 75) (zc w b C0 M r0) else if a4 ≤ (20000 : Int32) then mX9_run_35 N (b + 75) (Int32.ofNat mt) va vc a4 0 (b + 75) (zc w b C0 M r0) else mX9_run_35 N (b + 75) (Int32.ofNat mt) va vc a4 2 (b + 75) (zc w b C0 M r0) := fun C0 r0 => by
      unfold mX9_run mX9_run_0 mX9_run_30
      rw [if_neg c1.1, zqg_75_19, Option.bind_some, hm19, if_pos c1.2]
    by_cases c2 : a4 < 0
    · refine Or.inr ⟨_, 2, fun M0 => by rw [kC, if_pos c2]; rfl, fun C0 r0 => by rw [kM, if_pos c2]; exact x35 2 (Or.inr rfl) C0 r0, Or.inr ⟨rfl, rfl⟩⟩
    · by_cases c3 : a4 ≤ (20000 : Int32)
      · obtain ⟨fl, rfl, hfl0⟩ := zi_of (zi_nlt.mp c2)
        have hfl := c3
        rw [show (20000 : Int32) = Int32.ofNat 20000 from rfl, zi_le hfl0 (by decide)] at hfl
        have oM : ∀ o k, ¬ (o = 100 ∧ k = 0) → (zJ M 100 0 0).1 o k = M.1 o k := fun o k h => by rw [zJ1, if_neg h]
        have rM : ∀ o, o ≠ 100 → (zJ M 100 0 0).1 o = M.1 o := fun o h => funext fun k => oM o k (by omega)
        have hT2 : zTy C (zJ M 100 0 0) K F ρ α π := hT.cong rfl rfl rfl rfl (oM _ _ (by omega)) (rM 2 (by decide)) (rM 3 (by decide)) (rM 4 (by decide))
        have hMe2 : zMe b K F ρ r C (zJ M 100 0 0) Q := ⟨hQ, (oM _ _ (by omega)).trans hm19, hL, fun m hm => by
          obtain ⟨y1, y2, y3, y4⟩ := hall m hm
          refine ⟨y1, ?_, y3, y4⟩
          unfold zMt at y2 ⊢
          rw [rM 18 (by decide), rM 17 (by decide), rM 11 (by decide), rM 10 (by decide), rM 12 (by decide), rM 13 (by decide), rM 14 (by decide), rM 15 (by decide), rM 16 (by decide)]
          exact y2⟩
        obtain ⟨C', M', o, S', x1, x2, x3, x4, x5, x6⟩ := zp_go (N := N) (w := w) (b := b) (mt := mt) (fl := fl) (va := va) (vc := vc) hN hw h7 hI hT2 hMe2 hHr hS h3 ((oM _ _ (by omega)).trans h1) ((oM _ _ (by omega)).trans h54) hmt hfl
        refine Or.inl ⟨C', M', o, S', fun M0 => ?_, fun C0 r0 => ?_, ?_, x3, x4, x5, x6⟩
        · have e : mX4_perform N (b + 15) (Q.2.1 mt) va vc (Int32.ofNat fl) (zc w b C M0 r) = some (zc w b C' M0 r, Int32.ofNat o) := x1 M0
          rw [kC, if_neg c2, if_pos c3, e, Option.bind_some]
        · have e := x2 C0 r0
          rw [kM, if_neg c2, if_pos c3]
          unfold mX9_run_35
          rw [zqp_75_0, Option.bind_some, zqg_75_0, Option.bind_some, e00, if_pos (show (0 : Int32) ≤ 0 by decide), zqp_75_36, Option.bind_some, zqp_75_38, Option.bind_some]
          exact e
        · rw [x4.2.1 0 (by decide), zJ1, if_pos ⟨rfl, rfl⟩]
      · refine Or.inr ⟨_, 2, fun M0 => by rw [kC, if_neg c2, if_neg c3]; rfl, fun C0 r0 => by rw [kM, if_neg c2, if_neg c3]; exact x35 2 (Or.inr rfl) C0 r0, Or.inr ⟨rfl, rfl⟩⟩
  · refine Or.inr ⟨_, 1, fun M0 => ?_, fun C0 r0 => ?_, Or.inl ⟨rfl, rfl⟩⟩
    · unfold mX8_run mX8_run_0 mX8_run_15 mJx4a65c_size_8abf5 mJx4a65c_size_8abf5_0
      by_cases d : a1 < 0
      · rw [if_pos d]; rfl
      · rw [if_neg d, zqg_0_2, Option.bind_some, zqk_8, if_pos rfl, zqg_8_2, Option.bind_some, Option.bind_some, hsz, if_neg (fun q => c1 ⟨d, q⟩)]
        rfl
    · unfold mX9_run mX9_run_0 mX9_run_13
      by_cases d : a1 < 0
      · rw [if_pos d]; exact x35 1 (Or.inl rfl) C0 r0
      · rw [if_neg d, zqg_75_19, Option.bind_some, hm19, if_neg (fun q => c1 ⟨d, q⟩)]
        exact x35 1 (Or.inl rfl) C0 r0
end ZPR
