/-! ===== the start: the class ===== -/
section ZBC
variable {N n0 s : Nat} {e0 : Nat × Nat} {c : Nat → zv_C}
theorem zi_sh1 : ∀ k, k < 7 → (1 : Int32) ||| ((1 : Int32) <<< (Int32.ofNat k &&& 31)) = Int32.ofNat (1 ||| 2 ^ k) := by decide +kernel
/-- Types -/
theorem zb_types30 : ∀ (m fuel i : Nat) (c : Nat → zv_C) (g : Nat → Int32), i + m = 7 → m < fuel → c 1 = .inr (7, [.ref (n0 + 2), .ref (n0 + 3), .ref (n0 + 4), .int 0]) → c 2 = .inl (0, 30, .inl g) → ∃ c' g', mX7_init_30 N fuel (n0 + 1) (Int32.ofNat i) (zbf n0 5 c s e0) = some (zbf n0 5 c' s e0) ∧ c' 1 = .inr (7, [.ref (n0 + 2), .ref (n0 + 3), .ref (n0 + 4), .int 7]) ∧ c' 2 = .inl (0, 30, .inl g') ∧ (∀ k, k < i → g' k = g k) ∧ (∀ k, i ≤ k → k < 7 → g' k = Int32.ofNat (1 ||| 2 ^ k)) ∧ ∀ o, o ≠ 1 → o ≠ 2 → c' o = c o
  | 0, fuel, i, c, g, hi, hf, h1, h2 => by
    obtain ⟨fuel, rfl⟩ : ∃ g, fuel = g + 1 := ⟨fuel - 1, by omega⟩
    refine ⟨zce c 1 (.inr (7, [.ref (n0 + 2), .ref (n0 + 3), .ref (n0 + 4), .int 7])), g, ?_, zce_at, (zce_ne (by decide)).trans h2, fun _ _ => rfl, fun k a b => by omega, fun o a b => zce_ne a⟩
    unfold mX7_init_30
    rw [if_pos (show (6 : Int32) < Int32.ofNat i by rw [show (6 : Int32) = Int32.ofNat 6 from rfl, zi_lt (by omega) (by omega)]; omega), zbf_p (by decide) h1 (Nat.le_of_ble_eq_true rfl), Option.bind_some]
    rfl
  | m + 1, fuel, i, c, g, hi, hf, h1, h2 => by
    obtain ⟨fuel, rfl⟩ : ∃ g, fuel = g + 1 := ⟨fuel - 1, by omega⟩
    obtain ⟨c', g', t1, t2, t3, t4, t5, t6⟩ := zb_types30 m fuel (i + 1) (zce c 2 (.inl (0, 30, .inl (upd g i (Int32.ofNat (1 ||| 2 ^ i)))))) (upd g i (Int32.ofNat (1 ||| 2 ^ i))) (by omega) (by omega) ((zce_ne (by decide)).trans h1) zce_at
    refine ⟨c', g', ?_, t2, t3, fun k hk => (t4 k (by omega)).trans (if_neg (by omega)), fun k a b => ?_, fun o a b => (t6 o a b).trans (zce_ne b)⟩
    · rw [← t1]
      conv => lhs; unfold mX7_init_30
      rw [if_neg (show ¬ (6 : Int32) < Int32.ofNat i by rw [show (6 : Int32) = Int32.ofNat 6 from rfl, zi_lt (by omega) (by omega)]; omega), zbf_R (by decide) h1 rfl, Option.bind_some, zi_sh1 i (by omega), zbf_sI (by decide) h2 (by omega) (by decide), Option.bind_some, zi_l1, zi_add]
    · by_cases d : k = i
      · rw [d, t4 i (by omega)]
        exact if_pos rfl
      · exact t5 k (by omega) b
theorem zb_types (hN : 8 < N) (h1 : c 1 = .inr (7, zd_7)) : ∃ c' g', mX7_init N (n0 + 1) (zbf n0 2 c s e0) = some (zbf n0 5 c' (s + 30 + 30 + 30) e0) ∧ c' 1 = .inr (7, [.ref (n0 + 2), .ref (n0 + 3), .ref (n0 + 4), .int 7]) ∧ c' 2 = .inl (0, 30, .inl g') ∧ c' 3 = .inl (0, 30, .inl fun _ => 0) ∧ c' 4 = .inl (0, 30, .inl fun _ => 0) ∧ (∀ k, k < 7 → g' k = Int32.ofNat (1 ||| 2 ^ k)) ∧ c' 0 = c 0 := by
  obtain ⟨c1, hc1⟩ : ∃ c1, c1 = zce (zce (zce (zce (zce (zce c 2 (.inl (0, 30, .inl fun _ => 0))) 1 (.inr (7, [.ref (n0 + 2), .null, .null, .int 0]))) 3 (.inl (0, 30, .inl fun _ => 0))) 1 (.inr (7, [.ref (n0 + 2), .ref (n0 + 3), .null, .int 0]))) 4 (.inl (0, 30, .inl fun _ => 0))) 1 (.inr (7, [.ref (n0 + 2), .ref (n0 + 3), .ref (n0 + 4), .int 0])) := ⟨_, rfl⟩
  obtain ⟨c', g', t1, t2, t3, t4, t5, t6⟩ := zb_types30 (N := N) (n0 := n0) (s := s + 30 + 30 + 30) (e0 := e0) 7 N 0 c1 (fun _ => 0) (by omega) (by omega) (by rw [hc1]; rfl) (by rw [hc1]; rfl)
  refine ⟨c', g', ?_, t2, t3, (t6 3 (by decide) (by decide)).trans (by rw [hc1]; rfl), (t6 4 (by decide) (by decide)).trans (by rw [hc1]; rfl), fun k hk => t5 k (Nat.zero_le k) hk, (t6 0 (by decide) (by decide)).trans (by rw [hc1]; rfl)⟩
  unfold mX7_init mX7_init_0
  refine (zbf_nap (o := 1) (n := 30) rfl (by decide) h1 (Nat.le_of_ble_eq_true rfl) (by decide)).trans ?_
  refine (zbf_nap (o := 1) (n := 30) rfl (by decide) zce_at (Nat.le_of_ble_eq_true rfl) (by decide)).trans ?_
  refine (zbf_nap (o := 1) (n := 30) rfl (by decide) zce_at (Nat.le_of_ble_eq_true rfl) (by decide)).trans ?_
  rw [hc1] at t1
  exact t1
/-- Draft -/
theorem zb_draft (h1 : c 5 = .inr (0, zd_0)) : ∃ c', mX0_init N (n0 + 5) (zbf n0 6 c s e0) = some (zbf n0 8 c' (s + 200 + 32) e0) ∧ c' 5 = .inr (0, [.ref (n0 + 6), .ref (n0 + 7), .int 0, .int 0]) ∧ c' 6 = .inl (2, 200, .inl fun _ => 0) ∧ c' 7 = .inl (0, 32, .inl fun _ => 0) ∧ ∀ o, o < 5 → c' o = c o := by
  refine ⟨zce (zce (zce (zce c 6 (.inl (2, 200, .inl fun _ => 0))) 5 (.inr (0, [.ref (n0 + 6), .null, .int 0, .int 0]))) 7 (.inl (0, 32, .inl fun _ => 0))) 5 (.inr (0, [.ref (n0 + 6), .ref (n0 + 7), .int 0, .int 0])), ?_, rfl, rfl, rfl, fun o ho => by rw [zce_ne (by omega), zce_ne (by omega), zce_ne (by omega), zce_ne (by omega)]⟩
  unfold mX0_init mX0_init_0
  refine (zbf_nap (o := 5) (n := 200) rfl (by decide) h1 (Nat.le_of_ble_eq_true rfl) (by decide)).trans ?_
  refine (zbf_nap (o := 5) (n := 32) rfl (by decide) zce_at (Nat.le_of_ble_eq_true rfl) (by decide)).trans ?_
  rfl
/-- ArrayList -/
theorem zb_list (h1 : c 8 = .inr (5, zd_5)) : ∃ c', mJx4a65c_init_da8c8 N (n0 + 8) (zbf n0 9 c s e0) = some (zbf n0 9 c' s e0) ∧ c' 8 = .inr (5, [.int 0, .ref e0.1, .int 0]) ∧ ∀ o, o < 8 → c' o = c o := by
  refine ⟨zce (zce c 8 (.inr (5, [.int 0, .null, .int 0]))) 8 (.inr (5, [.int 0, .ref e0.1, .int 0])), ?_, rfl, fun o ho => by rw [zce_ne (by omega), zce_ne (by omega)]⟩
  unfold mJx4a65c_init_da8c8 mJx4a65c_init_da8c8_0 mJxc12de_init_da8c8 mJxc12de_init_da8c8_0 mJxa1e45_init_da8c8 mJxa1e45_init_da8c8_0
  rw [Option.bind_some, zbf_p (by decide) h1 (Nat.le_of_ble_eq_true rfl), Option.bind_some, Option.bind_some]
  refine (zbf_pp (o := 8) (by decide) zce_at (Nat.le_of_ble_eq_true rfl)).trans ?_
  rfl
/-- Judge -/
theorem zb_judge (h1 : c 9 = .inr (3, zd_3)) : ∃ c', mX3_init N (n0 + 9) (n0 + 1) (n0 + 8) (zbf n0 10 c s e0) = some (zbf n0 15 c' (s + 200 + 200 + 200 + 200 + 200) e0) ∧ c' 9 = .inr (3, [.ref (n0 + 1), .ref (n0 + 8), .ref (n0 + 10), .ref (n0 + 11), .ref (n0 + 12), .ref (n0 + 13), .ref (n0 + 14), .int 0, .null, .int 0, .int 0, .int 0]) ∧ c' 10 = .inl (3, 200, .inl fun _ => 0) ∧ c' 11 = .inl (3, 200, .inl fun _ => 0) ∧ c' 12 = .inl (0, 200, .inl fun _ => 0) ∧ c' 13 = .inl (0, 200, .inl fun _ => 0) ∧ c' 14 = .inl (0, 200, .inl fun _ => 0) ∧ ∀ o, o < 9 → c' o = c o := by
  unfold mX3_init mX3_init_0
  refine ⟨_, ((zbf_nap (o := 9) (n := 200) rfl (by decide) h1 (Nat.le_of_ble_eq_true rfl) (by decide)).trans ((zbf_nap (o := 9) (n := 200) rfl (by decide) zce_at (Nat.le_of_ble_eq_true rfl) (by decide)).trans ((zbf_nap (o := 9) (n := 200) rfl (by decide) zce_at (Nat.le_of_ble_eq_true rfl) (by decide)).trans ((zbf_nap (o := 9) (n := 200) rfl (by decide) zce_at (Nat.le_of_ble_eq_true rfl) (by decide)).trans ((zbf_nap (o := 9) (n := 200) rfl (by decide) zce_at (Nat.le_of_ble_eq_true rfl) (by decide)).trans ((zbf_pp (o := 9) (by decide) zce_at (Nat.le_of_ble_eq_true rfl)).trans ((zbf_pp (o := 9) (by decide) zce_at (Nat.le_of_ble_eq_true rfl)).trans rfl))))))), rfl, rfl, rfl, rfl, rfl, rfl, fun o ho => ?_⟩
  simp (disch := omega) only [zce_ne]
theorem zb_ab {β : Type} {f : zv_X × Int32 → Option β} {x : zv_X} (hN : 5 < N) : (mX8_argumentsIn N 0 x).bind f = f (x, 0) := by
  rw [show mX8_argumentsIn N 0 x = some (x, 0) from zd_args (n := 0) hN (by decide) x, Option.bind_some]
theorem zbf_Ib {β : Type} {f : Int32 → Option β} {k o ci j : Nat} {fs : List Value} {v : Int32} (h : o < k) (hc : c o = .inr (ci, fs)) (hj : fs[j]? = some (.int v)) : (zm_I (zbf n0 k c s e0) (n0 + o) ci j).bind f = f v := by
  unfold zm_I
  rw [zo_g ((zbf_at h).trans (congrArg some hc)), hj]
  rfl
theorem zbf_Rb {β : Type} {f : Nat → Option β} {k o ci j : Nat} {fs : List Value} {v : Nat} (h : o < k) (hc : c o = .inr (ci, fs)) (hj : fs[j]? = some (.ref v)) : (zm_R (zbf n0 k c s e0) (n0 + o) ci j).bind f = f v := by
  rw [zbf_R h hc hj, Option.bind_some]
/-- the routine of no code -/
theorem zb_nothing (hN : 5 < N) (h1 : c 24 = .inr (6, zd_6)) : ∃ c', mX6_init N (n0 + 24) (n0 + 25) (n0 + 26) 0 0 0 0 (zbf n0 27 c s e0) = some (zbf n0 27 c' s e0) ∧ c' 24 = .inr (6, [.ref (n0 + 25), .ref (n0 + 26), .int 0, .int 0, .int 0, .int 0, .int 0]) ∧ ∀ o, o ≠ 24 → c' o = c o := by
  unfold mX6_init mX6_init_0
  refine ⟨_, (zbf_pp (o := 24) (by decide) h1 (Nat.le_of_ble_eq_true rfl)).trans ((zbf_pp (o := 24) (by decide) zce_at (Nat.le_of_ble_eq_true rfl)).trans ((zb_ab hN).trans ((zbf_pp (o := 24) (by decide) zce_at (Nat.le_of_ble_eq_true rfl)).trans ((zbf_Ib (o := 24) (v := 0) (by decide) zce_at rfl).trans ((zbf_pp (o := 24) (by decide) zce_at (Nat.le_of_ble_eq_true rfl)).trans ((zbf_pp (o := 24) (by decide) zce_at (Nat.le_of_ble_eq_true rfl)).trans ((zbf_pp (o := 24) (by decide) zce_at (Nat.le_of_ble_eq_true rfl)).trans ((zbf_pp (o := 24) (by decide) zce_at (Nat.le_of_ble_eq_true rfl)).trans rfl)))))))), rfl, fun o ho => ?_⟩
  simp (disch := omega) only [zce_ne]
/-- Heap -/
theorem zb_heap64 {w : Nat} (hw : w ≤ 400) : ∀ (m fuel i : Nat) (c : Nat → zv_C) (g : Nat → Int32) (fs : List Value), i + m = w / 2 → m < fuel → c 16 = .inr (2, fs) → fs[5]? = some (.ref (n0 + 21)) → c 21 = .inl (0, w / 2, .inl g) → ∃ c' g', mX2_init_64 N fuel (n0 + 16) (Int32.ofNat (w / 2)) (Int32.ofNat i) (zbf n0 23 c s e0) = some (zbf n0 23 c' s e0) ∧ c' 21 = .inl (0, w / 2, .inl g') ∧ (∀ k, k < i → g' k = g k) ∧ (∀ k, i ≤ k → k < w / 2 → g' k = Int32.ofNat (k + 1)) ∧ ∀ o, o ≠ 21 → c' o = c o
  | 0, fuel, i, c, g, fs, hi, hf, h1, h5, h2 => by
    obtain ⟨fuel, rfl⟩ : ∃ g, fuel = g + 1 := ⟨fuel - 1, by omega⟩
    refine ⟨c, g, ?_, h2, fun _ _ => rfl, fun k a b => by omega, fun _ _ => rfl⟩
    unfold mX2_init_64
    rw [if_pos (show Int32.ofNat (w / 2) ≤ Int32.ofNat i by rw [zi_le (by omega) (by omega)]; omega)]
  | m + 1, fuel, i, c, g, fs, hi, hf, h1, h5, h2 => by
    obtain ⟨fuel, rfl⟩ : ∃ g, fuel = g + 1 := ⟨fuel - 1, by omega⟩
    obtain ⟨c', g', t1, t2, t3, t4, t5⟩ := zb_heap64 hw m fuel (i + 1) (zce c 21 (.inl (0, w / 2, .inl (upd g i (Int32.ofNat (i + 1)))))) (upd g i (Int32.ofNat (i + 1))) fs (by omega) (by omega) ((zce_ne (by decide)).trans h1) h5 zce_at
    refine ⟨c', g', ?_, t2, fun k hk => (t3 k (by omega)).trans (if_neg (by omega)), fun k a b => ?_, fun o a => (t5 o a).trans (zce_ne a)⟩
    · rw [← t1]
      conv => lhs; unfold mX2_init_64
      rw [if_neg (show ¬ Int32.ofNat (w / 2) ≤ Int32.ofNat i by rw [zi_le (by omega) (by omega)]; omega), zbf_R (by decide) h1 h5, Option.bind_some, zi_l1, zi_add, zbf_sI (by decide) h2 (by omega) (by omega), Option.bind_some]
    · by_cases d : k = i
      · rw [d, t3 i (by omega)]
        exact if_pos rfl
      · exact t4 k (by omega) b
theorem zb_heap {w : Nat} (hw : w ≤ 400) (hN : 201 < N) (h1 : c 16 = .inr (2, zd_2)) : ∃ c' g', mX2_init N (n0 + 16) (n0 + 1) (Int32.ofNat w) (zbf n0 17 c s e0) = some (zbf n0 23 c' (s + w + (w / 2 + 1) + (w / 2 + 1) + (w / 2 + 1) + w / 2 + w / 2) e0) ∧ c' 16 = .inr (2, [.ref (n0 + 1), .ref (n0 + 17), .ref (n0 + 18), .ref (n0 + 19), .ref (n0 + 20), .ref (n0 + 21), .ref (n0 + 22), .int 0, .int 0, .int 0, .int 0]) ∧ c' 17 = .inl (0, w, .inl fun _ => 0) ∧ c' 18 = .inl (0, w / 2 + 1, .inl fun _ => 0) ∧ c' 19 = .inl (0, w / 2 + 1, .inl fun _ => 0) ∧ c' 20 = .inl (0, w / 2 + 1, .inl fun _ => 0) ∧ c' 21 = .inl (0, w / 2, .inl g') ∧ c' 22 = .inl (0, w / 2, .inl fun _ => 0) ∧ (∀ k, k < w / 2 → g' k = Int32.ofNat (k + 1)) ∧ ∀ o, o < 16 → c' o = c o := by
  have e2 : Int32.ofNat w / (2 : Int32) = Int32.ofNat (w / 2) := by rw [zi_l2, zi_div (by omega) (by omega)]
  have e3 : Int32.ofNat w / (2 : Int32) + (1 : Int32) = Int32.ofNat (w / 2 + 1) := by rw [e2, zi_l1, zi_add]
  unfold mX2_init mX2_init_0
  have key : ∃ c1, ((zm_p (zbf n0 17 c s e0) (n0 + 16) 2 0 (.ref (n0 + 1))).bind fun x1 => (zm_na 0 x1 (Int32.ofNat w)).bind fun x3 => (zm_p x3 (n0 + 16) 2 1 (.ref x1.2.1)).bind fun x5 => (zm_na 0 x5 ((Int32.ofNat w / (2 : Int32)) + (1 : Int32))).bind fun x7 => (zm_p x7 (n0 + 16) 2 2 (.ref x5.2.1)).bind fun x9 => (zm_na 0 x9 ((Int32.ofNat w / (2 : Int32)) + (1 : Int32))).bind fun x11 => (zm_p x11 (n0 + 16) 2 3 (.ref x9.2.1)).bind fun x13 => (zm_na 0 x13 ((Int32.ofNat w / (2 : Int32)) + (1 : Int32))).bind fun x15 => (zm_p x15 (n0 + 16) 2 4 (.ref x13.2.1)).bind fun x17 => (zm_na 0 x17 (Int32.ofNat w / (2 : Int32))).bind fun x19 => (zm_p x19 (n0 + 16) 2 5 (.ref x17.2.1)).bind fun x21 => (zm_na 0 x21 (Int32.ofNat w / (2 : Int32))).bind fun x23 => (zm_p x23 (n0 + 16) 2 6 (.ref x21.2.1)).bind fun x25 => mX2_init_64 N N (n0 + 16) (Int32.ofNat w / (2 : Int32)) (0 : Int32) x25) = mX2_init_64 N N (n0 + 16) (Int32.ofNat (w / 2)) (Int32.ofNat 0) (zbf n0 23 c1 (s + w + (w / 2 + 1) + (w / 2 + 1) + (w / 2 + 1) + w / 2 + w / 2) e0) ∧ c1 16 = .inr (2, [.ref (n0 + 1), .ref (n0 + 17), .ref (n0 + 18), .ref (n0 + 19), .ref (n0 + 20), .ref (n0 + 21), .ref (n0 + 22), .int 0, .int 0, .int 0, .int 0]) ∧ c1 17 = .inl (0, w, .inl fun _ => 0) ∧ c1 18 = .inl (0, w / 2 + 1, .inl fun _ => 0) ∧ c1 19 = .inl (0, w / 2 + 1, .inl fun _ => 0) ∧ c1 20 = .inl (0, w / 2 + 1, .inl fun _ => 0) ∧ c1 21 = .inl (0, w / 2, .inl fun _ => 0) ∧ c1 22 = .inl (0, w / 2, .inl fun _ => 0) ∧ ∀ o, o < 16 → c1 o = c o := by
    refine ⟨_, (zbf_pp (o := 16) (by decide) h1 (Nat.le_of_ble_eq_true rfl)).trans ((zbf_nap (o := 16) (n := w) rfl (by decide) zce_at (Nat.le_of_ble_eq_true rfl) (by omega)).trans ((zbf_nap (o := 16) (n := w / 2 + 1) e3 (by decide) zce_at (Nat.le_of_ble_eq_true rfl) (by omega)).trans ((zbf_nap (o := 16) (n := w / 2 + 1) e3 (by decide) zce_at (Nat.le_of_ble_eq_true rfl) (by omega)).trans ((zbf_nap (o := 16) (n := w / 2 + 1) e3 (by decide) zce_at (Nat.le_of_ble_eq_true rfl) (by omega)).trans ((zbf_nap (o := 16) (n := w / 2) e2 (by decide) zce_at (Nat.le_of_ble_eq_true rfl) (by omega)).trans ((zbf_nap (o := 16) (n := w / 2) e2 (by decide) zce_at (Nat.le_of_ble_eq_true rfl) (by omega)).trans (by rw [e2]; rfl))))))), rfl, rfl, rfl, rfl, rfl, rfl, rfl, fun o ho => ?_⟩
    simp (disch := omega) only [zce_ne]
  obtain ⟨c1, t1, a1, a2, a3, a4, a5, a6, a7, a8⟩ := key
  obtain ⟨c', g', s1, s2, s3, s4, s5⟩ := zb_heap64 (N := N) (n0 := n0) (e0 := e0) (s := s + w + (w / 2 + 1) + (w / 2 + 1) + (w / 2 + 1) + w / 2 + w / 2) hw (w / 2) N 0 c1 (fun _ => 0) _ (by omega) (by omega) a1 rfl a6
  exact ⟨c', g', t1.trans s1, (s5 16 (by decide)).trans a1, (s5 17 (by decide)).trans a2, (s5 18 (by decide)).trans a3, (s5 19 (by decide)).trans a4, (s5 20 (by decide)).trans a5, s2, (s5 22 (by decide)).trans a7, fun k hk => s4 k (Nat.zero_le k) hk, fun o ho => (s5 o (by omega)).trans (a8 o ho)⟩
/-- a frame -/
theorem zb_frame {f k : Nat} {nt : Nat} (hk : f < k) (hf : k = f + 1) (h1 : c f = .inr (1, zd_1)) : ∃ c', mX1_init N (n0 + f) nt (zbf n0 k c s e0) = some (zbf n0 (k + 2) c' (s + 28 + 28) e0) ∧ c' f = .inr (1, [.ref (n0 + (f + 1)), .ref (n0 + (f + 2)), .int 16, .ref nt, .int 0]) ∧ c' (f + 1) = .inl (1, 28, .inr (.inl fun _ => 0)) ∧ c' (f + 2) = .inl (0, 28, .inl fun _ => 0) ∧ ∀ o, o < f → c' o = c o := by
  subst hf
  unfold mX1_init mX1_init_0
  refine ⟨_, (zbf_nLp (o := f) (n := 28) rfl (by omega) h1 (Nat.le_of_ble_eq_true rfl) (by decide)).trans ((zbf_nap (o := f) (n := 28) rfl (by omega) zce_at (Nat.le_of_ble_eq_true rfl) (by decide)).trans ((zbf_pp (o := f) (by omega) zce_at (Nat.le_of_ble_eq_true rfl)).trans ((zbf_pp (o := f) (by omega) zce_at (Nat.le_of_ble_eq_true rfl)).trans rfl))), zce_at, ?_, ?_, fun o ho => ?_⟩
  · simp (disch := omega) only [zce_ne, zce_at]
  · simp (disch := omega) only [zce_ne, zce_at]
  · simp (disch := omega) only [zce_ne]
theorem zsR5 {x : zv_X} {a n y : Nat} {g : Nat → Option Nat} (h : x.1 a = some (.inl (5, 16, .inr (.inr (.inr (.inr g)))))) (hn : n < 16) (hk : zm_k x y 1 = true) : zm_sR x a (Int32.ofNat n) y = some (zv_st x a (.inl (5, 16, .inr (.inr (.inr (.inr (va_up g n (some y)))))))) := by
  have e := zn_lt (L := 16) hn (by decide)
  unfold zm_sR
  rw [h]
  simp only [e.2.1, if_neg e.2.2, hk, if_true]
/-- all frames -/
theorem zb_frames : ∀ (m fuel f : Nat) (c : Nat → zv_C) (g : Nat → Option Nat) (fs : List Value) (s : Nat), f + m = 16 → m < fuel → c 15 = .inr (4, fs) → 5 < fs.length → fs[4]? = some (.ref (n0 + 23)) → c 23 = .inl (5, 16, .inr (.inr (.inr (.inr g)))) → (∀ i, i < f → g i = some (n0 + (3 * i + 27))) → ∃ c' g', mX4_init_63 N fuel (n0 + 15) (n0 + 24) (Int32.ofNat f) (zbf n0 (3 * f + 27) c s e0) = some (zbf n0 75 c' (s + 61 * m) e0) ∧ c' 15 = .inr (4, fs.set 5 (.ref (n0 + 27))) ∧ c' 23 = .inl (5, 16, .inr (.inr (.inr (.inr g')))) ∧ (∀ i, i < 16 → g' i = some (n0 + (3 * i + 27))) ∧ (∀ i, 16 ≤ i → g' i = g i) ∧ (∀ o, o < 3 * f + 27 → o ≠ 15 → o ≠ 23 → c' o = c o) ∧ ∀ i, f ≤ i → i < 16 → c' (3 * i + 27) = .inr (1, [.ref (n0 + (3 * i + 28)), .ref (n0 + (3 * i + 29)), .int 16, .ref (n0 + 24), .int 0]) ∧ c' (3 * i + 28) = .inl (1, 28, .inr (.inl fun _ => 0)) ∧ c' (3 * i + 29) = .inl (0, 28, .inl fun _ => 0)
  | 0, fuel, f, c, g, fs, s, hi, hf, h1, h2, h3, h4, h5 => by
    obtain ⟨fuel, rfl⟩ : ∃ g, fuel = g + 1 := ⟨fuel - 1, by omega⟩
    have hf16 : f = 16 := by omega
    subst hf16
    refine ⟨zce c 15 (.inr (4, fs.set 5 (.ref (n0 + 27)))), g, ?_, zce_at, (zce_ne (by decide)).trans h4, h5, fun _ _ => rfl, fun o a b d => zce_ne b, fun i a b => by omega⟩
    have ea : zm_aR (zbf n0 75 c s e0) (n0 + 23) 0 = some (n0 + 27) := by
      unfold zm_aR
      rw [zbf_at (by decide), h4]
      dsimp only
      rw [if_pos (by decide)]
      exact h5 0 (by decide)
    unfold mX4_init_63
    rw [if_pos (show (16 : Int32) ≤ Int32.ofNat 16 by decide), zbf_R (by decide) h1 h3, Option.bind_some, ea, Option.bind_some, zbf_p (by decide) h1 h2, Option.bind_some]
    rfl
  | m + 1, fuel, f, c, g, fs, s, hi, hf, h1, h2, h3, h4, h5 => by
    obtain ⟨fuel, rfl⟩ : ∃ g, fuel = g + 1 := ⟨fuel - 1, by omega⟩
    obtain ⟨c1, t1, t2, t3, t4, t5⟩ := zb_frame (N := N) (n0 := n0) (s := s + 5) (e0 := e0) (c := zce c (3 * f + 27) (.inr (1, zd_1))) (f := 3 * f + 27) (k := 3 * f + 27 + 1) (nt := n0 + 24) (by omega) rfl zce_at
    have k1 : zm_k (zbf n0 (3 * f + 27 + 1 + 2) c1 (s + 5 + 28 + 28) e0) (n0 + (3 * f + 27)) 1 = true := zo_k ((zbf_at (by omega)).trans (congrArg some t2))
    have k2 : c1 23 = .inl (5, 16, .inr (.inr (.inr (.inr g)))) := (t5 23 (by omega)).trans ((zce_ne (by omega)).trans h4)
    have k3 := zsR5 (x := zbf n0 (3 * f + 27 + 1 + 2) c1 (s + 5 + 28 + 28) e0) (a := n0 + 23) (n := f) (y := n0 + (3 * f + 27)) ((zbf_at (by omega)).trans (congrArg some k2)) (by omega) k1
    rw [zbf_st (by omega)] at k3
    obtain ⟨c', g', s1, s2, s3, s4, s5, s6, s7⟩ := zb_frames m fuel (f + 1) (zce c1 23 (.inl (5, 16, .inr (.inr (.inr (.inr (va_up g f (some (n0 + (3 * f + 27)))))))))) (va_up g f (some (n0 + (3 * f + 27)))) fs (s + 5 + 28 + 28) (by omega) (by omega) ((zce_ne (by decide)).trans ((t5 15 (by omega)).trans ((zce_ne (by omega)).trans h1))) h2 h3 zce_at (fun i hi => by
      show (if i = f then some (n0 + (3 * f + 27)) else g i) = _
      by_cases d : i = f
      · rw [if_pos d, d]
      · rw [if_neg d]; exact h5 i (by omega))
    refine ⟨c', g', ?_, s2, s3, s4, fun i a => (s5 i a).trans (if_neg (by omega)), fun o a b d => ?_, fun i a b => ?_⟩
    · rw [show s + 61 * (m + 1) = s + 5 + 28 + 28 + 61 * m by omega, ← s1]
      conv => lhs; unfold mX4_init_63
      rw [if_neg (show ¬ (16 : Int32) ≤ Int32.ofNat f by rw [zi_l16, zi_le (by omega) (by omega)]; omega), zbf_R (by omega) h1 h3, Option.bind_some, zbf_nw, Option.bind_some]
      show ((mX1_init N (n0 + (3 * f + 27)) (n0 + 24) (zbf n0 (3 * f + 27 + 1) (zce c (3 * f + 27) (.inr (1, zd_1))) (s + 5) e0)).bind fun o11 => (zm_sR o11 (n0 + 23) (Int32.ofNat f) (n0 + (3 * f + 27))).bind fun x13 => mX4_init_63 N fuel (n0 + 15) (n0 + 24) (Int32.ofNat f + 1) x13) = _
      rw [t1, Option.bind_some, k3, Option.bind_some, zi_l1, zi_add]
      rfl
    · rw [s6 o (by omega) b d, zce_ne d, t5 o a, zce_ne (by omega)]
    · by_cases d : i = f
      · subst d
        refine ⟨(s6 _ (by omega) (by omega) (by omega)).trans ((zce_ne (by omega)).trans t2), (s6 _ (by omega) (by omega) (by omega)).trans ((zce_ne (by omega)).trans t3), (s6 _ (by omega) (by omega) (by omega)).trans ((zce_ne (by omega)).trans t4)⟩
      · exact s7 i (by omega) b
end ZBC
