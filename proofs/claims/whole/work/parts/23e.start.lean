/-! ===== the start: both ===== -/
def zC0 (w n0 ea : Nat) (g2 g21 : Nat → Int32) : zC := (fun o k => if o = 1 then (if k = 3 then 7 else 0) else if o = 2 then g2 k else if o = 15 then (if k = 3 then Int32.ofNat w else 0) else if o = 21 then g21 k else if 100 ≤ o ∧ o < 116 then (if k = 2 then 16 else 0) else 0, fun _ _ => 0, fun o _ => if o = 8 then .ref ea else if o = 15 then .ref (n0 + 27) else if 100 ≤ o then .ref (n0 + 24) else .null)
def zM0 (w : Nat) (gm : Nat → Int32) : zM := (fun o k => if o = 2 then gm k else if o = 100 then (if k = 1 then Int32.ofNat w else if k = 5 then 7 else 0) else 0, fun _ _ => 0)
section ZBS
variable {N n0 s w : Nat} {e0 : Nat × Nat} {g2 g21 gm : Nat → Int32} {ea : Nat}
theorem zC01 {o k : Nat} : (zC0 w n0 ea g2 g21).1 o k = (if o = 1 then (if k = 3 then 7 else 0) else if o = 2 then g2 k else if o = 15 then (if k = 3 then Int32.ofNat w else 0) else if o = 21 then g21 k else if 100 ≤ o ∧ o < 116 then (if k = 2 then 16 else 0) else 0) := rfl
theorem zC03 {o k : Nat} : (zC0 w n0 ea g2 g21).2.2 o k = (if o = 8 then .ref ea else if o = 15 then .ref (n0 + 27) else if 100 ≤ o then .ref (n0 + 24) else .null) := rfl
theorem zc0F {i : Nat} (hi : i < 16) : zcell w n0 (zC0 w n0 ea g2 g21) (zM0 w gm) (3 * i + 27) = .inr (1, [.ref (n0 + (3 * i + 28)), .ref (n0 + (3 * i + 29)), .int 16, .ref (n0 + 24), .int 0]) ∧ zcell w n0 (zC0 w n0 ea g2 g21) (zM0 w gm) (3 * i + 28) = .inl (1, 28, .inr (.inl fun _ => 0)) ∧ zcell w n0 (zC0 w n0 ea g2 g21) (zM0 w gm) (3 * i + 29) = .inl (0, 28, .inl fun _ => 0) := by
  have a2 : (zC0 w n0 ea g2 g21).1 (i + 100) 2 = 16 := by
    rw [zC01, if_neg (by omega), if_neg (by omega), if_neg (by omega), if_neg (by omega), if_pos (by omega)]
    rfl
  have a4 : (zC0 w n0 ea g2 g21).1 (i + 100) 4 = 0 := by
    rw [zC01, if_neg (by omega), if_neg (by omega), if_neg (by omega), if_neg (by omega), if_pos (by omega)]
    rfl
  have a3 : (zC0 w n0 ea g2 g21).2.2 (i + 100) 3 = .ref (n0 + 24) := by
    rw [zC03, if_neg (by omega), if_neg (by omega), if_pos (by omega)]
  have a5 : (zC0 w n0 ea g2 g21).1 (i + 140) = fun _ => 0 := funext fun k => by
    rw [zC01, if_neg (by omega), if_neg (by omega), if_neg (by omega), if_neg (by omega), if_neg (by omega)]
  unfold zcell
  refine ⟨?_, ?_, ?_⟩
  · rw [if_neg (by omega), if_pos (by omega), show (3 * i + 27 - 27) / 3 = i by omega, show (3 * i + 27 - 27) % 3 = 0 by omega]
    show (Sum.inr (1, [.ref (n0 + (3 * i + 28)), .ref (n0 + (3 * i + 29)), .int ((zC0 w n0 ea g2 g21).1 (i + 100) 2), (zC0 w n0 ea g2 g21).2.2 (i + 100) 3, .int ((zC0 w n0 ea g2 g21).1 (i + 100) 4)]) : zv_C) = _
    rw [a2, a3, a4]
  · rw [if_neg (by omega), if_pos (by omega), show (3 * i + 28 - 27) / 3 = i by omega, show (3 * i + 28 - 27) % 3 = 1 by omega]
    rfl
  · rw [if_neg (by omega), if_pos (by omega), show (3 * i + 29 - 27) / 3 = i by omega, show (3 * i + 29 - 27) % 3 = 2 by omega]
    show (Sum.inl (0, 28, Sum.inl ((zC0 w n0 ea g2 g21).1 (i + 140))) : zv_C) = _
    rw [a5]
/-- how many words -/
theorem zb_w (l1 : Int32) : ∃ w : Nat, 16 ≤ w ∧ w ≤ 400 ∧ zm_max (16 : Int32) (zm_min (400 : Int32) l1) = Int32.ofNat w ∧ (if (16 : Int32) ≤ l1 then (if l1 ≤ (400 : Int32) then l1 else 400) else 16) = Int32.ofNat w := by
  unfold zm_max zm_min
  by_cases c1 : (16 : Int32) ≤ l1
  · by_cases c2 : l1 ≤ (400 : Int32)
    · have c0 : ¬ l1 < 0 := fun e => absurd (Int32.lt_of_le_of_lt c1 e) (by decide)
      obtain ⟨m, rfl, hm⟩ := zi_between (v := l1) (k := 400) (by decide) c0 (Int32.not_lt.mpr c2)
      have d1 : 16 ≤ m := by rwa [show (16 : Int32) = Int32.ofNat 16 from rfl, zi_le (by omega) (by omega)] at c1
      refine ⟨m, d1, hm, ?_, by rw [if_pos c1, if_pos c2]⟩
      have e1 : (if Int32.ofNat m < (400 : Int32) then Int32.ofNat m else 400) = Int32.ofNat m := by
        by_cases d : m < 400
        · rw [if_pos (by rw [show (400 : Int32) = Int32.ofNat 400 from rfl, zi_lt (by omega) (by omega)]; exact d)]
        · have : m = 400 := by omega
          subst this
          rfl
      rw [e1]
      by_cases d : 16 < m
      · rw [if_pos (by rw [zi_l16, zi_lt (by omega) (by omega)]; exact d)]
      · have : m = 16 := by omega
        subst this
        rfl
    · refine ⟨400, by decide, by decide, ?_, by rw [if_pos c1, if_neg c2]; rfl⟩
      rw [if_neg (fun e => c2 (Int32.le_of_lt e))]
      rfl
  · refine ⟨16, by decide, by decide, ?_, by rw [if_neg c1]; rfl⟩
    have h1 : l1 < (16 : Int32) := Int32.not_le.mp c1
    rw [if_pos (Int32.lt_trans h1 (by decide)), if_neg (fun e => c1 (Int32.le_of_lt e))]
    rfl
theorem zb_start (hN : 201 < N) (h0 : e0.1 < n0) (l1 : Int32) : ∃ (w : Nat) (x1 x2 : zv_X) (C : zC) (M : zM) (r : zv_X), 16 ≤ w ∧ w ≤ 400 ∧ mX8_init N n0 l1 (zv_nw (zl0 n0 e0) (.inr (8, zd_8)) 5) = some x1 ∧ x1.2.1 = n0 + 75 ∧ mX9_init N x1.2.1 l1 (zv_nw x1 (.inr (9, zd_9)) 55) = some x2 ∧ x2.2.1 = n0 + 112 ∧ zm_nL x2 1 = some (zc w n0 C M r) ∧ r.2.1 = n0 + 113 ∧ r.2.2.1 ≤ 30000 ∧ r.2.2.2 = e0 ∧ zRr n0 r ∧ zTy C M 7 (fun _ => 0) (fun _ => 0) (fun k => 1 ||| 2 ^ k) (fun _ => 0) ∧ zDr C M 7 0 (fun _ => 0) 0 (fun _ => 0) ∧ zMe n0 7 (fun _ => 0) (fun _ => 0) r C M (0, fun _ => 0, fun _ => (0, fun _ => 0, 0, fun _ => 0, 0, fun _ => 0, 0, 0, 0), fun _ _ => none) ∧ zHr w C 0 ∧ zRs C M ∧ C.1 15 3 = Int32.ofNat w ∧ M.1 100 1 = Int32.ofNat w ∧ M.1 100 54 = 0 := by
  obtain ⟨w, w1, w2, w3, w4⟩ := zb_w l1
  obtain ⟨c1, g2, g21, s1, t1, ts, a0, a1, a2, a3, a4, b2, a5, a6, a7, a8, a9, a10, a11, a12, a13, a14, a15, a16, a17, a18, a19, a20, a21, a22, b21, a23, a24, a25, a26, aF⟩ := zb_class (N := N) (n0 := n0) (e0 := e0) w2 hN w3
  obtain ⟨c2, gm, s2, t2, hs2, m75, m76, gm0, gm1, m77, m78, m79, m80, m81, m82, m83, m84, m85, m86, m87, m88, m89, m90, m91, m92, m93, m94, m95, m96, m97, m98, m99, m100, m101, m102, m103, m104, m105, m106, m107, m108, m109, m110, m111, alo⟩ := zb_model (N := N) (n0 := n0) (s := s1 + 55) (e0 := e0) (c := zce c1 75 (.inr (9, zd_9))) w2 w4 zce_at
  have t2' : mX9_init N (zbf n0 75 c1 s1 e0).2.1 l1 (zv_nw (zbf n0 75 c1 s1 e0) (.inr (9, zd_9)) 55) = some (zbf n0 112 c2 s2 e0) := by
    rw [zbf_nw]
    exact t2
  have lo : ∀ o, o < 75 → c2 o = c1 o := fun o ho => (alo o ho).trans (zce_ne (by omega))
  have all : ∀ o, o < 113 → zce c2 112 (.inl (1, 1, .inr (.inl fun _ => 0))) o = zcell w n0 (zC0 w n0 e0.1 g2 g21) (zM0 w gm) o := fun o ho => by
    by_cases h27 : o < 27
    · rw [zce_ne (by omega), lo o (by omega)]
      have : o = 0 ∨ o = 1 ∨ o = 2 ∨ o = 3 ∨ o = 4 ∨ o = 5 ∨ o = 6 ∨ o = 7 ∨ o = 8 ∨ o = 9 ∨ o = 10 ∨ o = 11 ∨ o = 12 ∨ o = 13 ∨ o = 14 ∨ o = 15 ∨ o = 16 ∨ o = 17 ∨ o = 18 ∨ o = 19 ∨ o = 20 ∨ o = 21 ∨ o = 22 ∨ o = 23 ∨ o = 24 ∨ o = 25 ∨ o = 26 := by omega
      rcases this with rfl | rfl | rfl | rfl | rfl | rfl | rfl | rfl | rfl | rfl | rfl | rfl | rfl | rfl | rfl | rfl | rfl | rfl | rfl | rfl | rfl | rfl | rfl | rfl | rfl | rfl | rfl
      · exact a0.trans rfl
      · exact a1.trans rfl
      · exact a2.trans rfl
      · exact a3.trans rfl
      · exact a4.trans rfl
      · exact a5.trans rfl
      · exact a6.trans rfl
      · exact a7.trans rfl
      · exact a8.trans rfl
      · exact a9.trans rfl
      · exact a10.trans rfl
      · exact a11.trans rfl
      · exact a12.trans rfl
      · exact a13.trans rfl
      · exact a14.trans rfl
      · exact a15.trans rfl
      · exact a16.trans rfl
      · exact a17.trans rfl
      · exact a18.trans rfl
      · exact a19.trans rfl
      · exact a20.trans rfl
      · exact a21.trans rfl
      · exact a22.trans rfl
      · exact a23.trans rfl
      · exact a24.trans rfl
      · exact a25.trans rfl
      · exact a26.trans rfl
    by_cases h75 : o < 75
    · rw [zce_ne (by omega), lo o h75]
      obtain ⟨i, hi, hc⟩ : ∃ i, i < 16 ∧ (o = 3 * i + 27 ∨ o = 3 * i + 28 ∨ o = 3 * i + 29) := ⟨(o - 27) / 3, by omega, by omega⟩
      obtain ⟨q1, q2, q3⟩ := aF i hi
      obtain ⟨p1, p2, p3⟩ := zc0F (w := w) (n0 := n0) (ea := e0.1) (g2 := g2) (g21 := g21) (gm := gm) hi
      rcases hc with rfl | rfl | rfl
      · exact q1.trans p1.symm
      · exact q2.trans p2.symm
      · exact q3.trans p3.symm
    by_cases h112 : o < 112
    · rw [zce_ne (by omega)]
      have : o = 75 ∨ o = 76 ∨ o = 77 ∨ o = 78 ∨ o = 79 ∨ o = 80 ∨ o = 81 ∨ o = 82 ∨ o = 83 ∨ o = 84 ∨ o = 85 ∨ o = 86 ∨ o = 87 ∨ o = 88 ∨ o = 89 ∨ o = 90 ∨ o = 91 ∨ o = 92 ∨ o = 93 ∨ o = 94 ∨ o = 95 ∨ o = 96 ∨ o = 97 ∨ o = 98 ∨ o = 99 ∨ o = 100 ∨ o = 101 ∨ o = 102 ∨ o = 103 ∨ o = 104 ∨ o = 105 ∨ o = 106 ∨ o = 107 ∨ o = 108 ∨ o = 109 ∨ o = 110 ∨ o = 111 := by omega
      rcases this with rfl | rfl | rfl | rfl | rfl | rfl | rfl | rfl | rfl | rfl | rfl | rfl | rfl | rfl | rfl | rfl | rfl | rfl | rfl | rfl | rfl | rfl | rfl | rfl | rfl | rfl | rfl | rfl | rfl | rfl | rfl | rfl | rfl | rfl | rfl | rfl | rfl
      · exact m75.trans rfl
      · exact m76.trans rfl
      · exact m77.trans rfl
      · exact m78.trans rfl
      · exact m79.trans rfl
      · exact m80.trans rfl
      · exact m81.trans rfl
      · exact m82.trans rfl
      · exact m83.trans rfl
      · exact m84.trans rfl
      · exact m85.trans rfl
      · exact m86.trans rfl
      · exact m87.trans rfl
      · exact m88.trans rfl
      · exact m89.trans rfl
      · exact m90.trans rfl
      · exact m91.trans rfl
      · exact m92.trans rfl
      · exact m93.trans rfl
      · exact m94.trans rfl
      · exact m95.trans rfl
      · exact m96.trans rfl
      · exact m97.trans rfl
      · exact m98.trans rfl
      · exact m99.trans rfl
      · exact m100.trans rfl
      · exact m101.trans rfl
      · exact m102.trans rfl
      · exact m103.trans rfl
      · exact m104.trans rfl
      · exact m105.trans rfl
      · exact m106.trans rfl
      · exact m107.trans rfl
      · exact m108.trans rfl
      · exact m109.trans rfl
      · exact m110.trans rfl
      · exact m111.trans rfl
    have : o = 112 := by omega
    subst this
    rfl
  refine ⟨w, zbf n0 75 c1 s1 e0, zbf n0 112 c2 s2 e0, zC0 w n0 e0.1 g2 g21, zM0 w gm, (fun _ => none, n0 + 113, s2 + 1, e0), w1, w2, t1, rfl, t2', rfl, ?_, rfl, ?_, rfl, ⟨Nat.le_refl _, h0, fun _ _ => rfl⟩, ?_, ?_, ?_, ?_, ⟨rfl, rfl, rfl, rfl⟩, rfl, rfl, rfl⟩
  · have := zbf_nL (n0 := n0) (k := 112) (s := s2) (e0 := e0) (c := c2) (n := 1) (by decide)
    rw [zbf_zc all] at this
    exact this
  · show s2 + 1 ≤ 30000
    omega
  · refine ⟨rfl, rfl, by decide, by decide, gm0, rfl, fun k hk => ⟨b2 k hk, rfl, rfl, rfl, Nat.zero_le _, (show 0 < 2 ^ 0 by decide), ?_, fun f hf => absurd hf (Nat.not_lt_zero f)⟩, fun k h1 h2 => ⟨h1, (gm1 k (by omega)).trans rfl, ?_⟩⟩
    · have : ∀ k, k < 7 → 1 ||| 2 ^ k < 2 ^ (k + 1) := by decide
      exact this k hk
    · show 1 ||| 2 ^ k = (1 ||| 2 ^ 0) ||| 2 ^ k
      rfl
  · exact ⟨rfl, rfl, Nat.zero_le _, fun i hi => by omega, rfl, rfl, Nat.zero_le _, fun i hi => by omega, fun j hj => by omega⟩
  · exact ⟨Nat.zero_le _, rfl, ⟨rfl, e0.1, rfl, Or.inl ⟨rfl, rfl, rfl, Or.inl h0⟩⟩, fun m hm => by omega⟩
  · refine ⟨⟨fun i => i, fun i hi => ⟨b21 i hi, hi⟩, fun i j _ _ e => e⟩, rfl, fun u hu => ⟨0, Nat.le_refl _, rfl⟩⟩
end ZBS
