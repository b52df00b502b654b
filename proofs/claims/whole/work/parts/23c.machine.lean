/-! ===== the start: the machine, the whole class ===== -/
section ZBM
variable {N n0 s w : Nat} {e0 : Nat × Nat} {c : Nat → zv_C}
theorem zob {α β : Type} {a : Option α} {v : α} {f : α → Option β} (h : a = some v) : a.bind f = f v := by rw [h, Option.bind_some]
theorem zbf_nRp {k o ci j n : Nat} {fs : List Value} {β : Type} {f : zv_X → Option β} {i : Int32} (hi : i = Int32.ofNat n) (h : o < k) (hc : c o = .inr (ci, fs)) (hj : j < fs.length) (hn : n ≤ 100000) : ((zm_nR 5 (zbf n0 k c s e0) i).bind fun x1 => (zm_p x1 (n0 + o) ci j (.ref (n0 + k))).bind f) = f (zbf n0 (k + 1) (zce (zce c k (.inl (5, n, .inr (.inr (.inr (.inr fun _ => none)))))) o (.inr (ci, fs.set j (.ref (n0 + k))))) (s + n) e0) := by
  rw [hi, zbf_nR hn, Option.bind_some, zbf_p (by omega) ((zce_ne (by omega)).trans hc) hj, Option.bind_some]
theorem zbf_nab {k n t : Nat} {β : Type} {f : zv_X → Option β} {i : Int32} (hi : i = Int32.ofNat n) (hn : n ≤ 100000) : (zm_na t (zbf n0 k c s e0) i).bind f = f (zbf n0 (k + 1) (zce c k (.inl (t, n, .inl fun _ => 0))) (s + n) e0) := by
  rw [hi, zbf_na hn, Option.bind_some]
/-- Machine -/
theorem zb_machine (hw : w ≤ 400) (hN : 201 < N) (h1 : c 15 = .inr (4, zd_4)) : ∃ c' g21, mX4_init N (n0 + 15) (n0 + 1) (n0 + 8) (Int32.ofNat w) (zbf n0 16 c s e0) = some (zbf n0 75 c' (s + 11 + w + (w / 2 + 1) + (w / 2 + 1) + (w / 2 + 1) + w / 2 + w / 2 + 16 + 7 + 0 + 0 + 61 * 16) e0) ∧ c' 15 = .inr (4, [.ref (n0 + 1), .ref (n0 + 8), .ref (n0 + 16), .int (Int32.ofNat w), .ref (n0 + 23), .ref (n0 + 27), .int 0, .int 0, .long 0, .int 0, .int 0, .int 0]) ∧
    c' 16 = .inr (2, [.ref (n0 + 1), .ref (n0 + 17), .ref (n0 + 18), .ref (n0 + 19), .ref (n0 + 20), .ref (n0 + 21), .ref (n0 + 22), .int 0, .int 0, .int 0, .int 0]) ∧ c' 17 = .inl (0, w, .inl fun _ => 0) ∧ c' 18 = .inl (0, w / 2 + 1, .inl fun _ => 0) ∧ c' 19 = .inl (0, w / 2 + 1, .inl fun _ => 0) ∧ c' 20 = .inl (0, w / 2 + 1, .inl fun _ => 0) ∧ c' 21 = .inl (0, w / 2, .inl g21) ∧ c' 22 = .inl (0, w / 2, .inl fun _ => 0) ∧ (∀ k, k < w / 2 → g21 k = Int32.ofNat (k + 1)) ∧
    c' 23 = .inl (5, 16, .inr (.inr (.inr (.inr fun i => if i < 16 then some (n0 + (3 * i + 27)) else none)))) ∧ c' 24 = .inr (6, [.ref (n0 + 25), .ref (n0 + 26), .int 0, .int 0, .int 0, .int 0, .int 0]) ∧ c' 25 = .inl (2, 0, .inl fun _ => 0) ∧ c' 26 = .inl (0, 0, .inl fun _ => 0) ∧
    (∀ i, i < 16 → c' (3 * i + 27) = .inr (1, [.ref (n0 + (3 * i + 28)), .ref (n0 + (3 * i + 29)), .int 16, .ref (n0 + 24), .int 0]) ∧ c' (3 * i + 28) = .inl (1, 28, .inr (.inl fun _ => 0)) ∧ c' (3 * i + 29) = .inl (0, 28, .inl fun _ => 0)) ∧ ∀ o, o < 15 → c' o = c o := by
  obtain ⟨c1, hc1⟩ : ∃ c1, c1 = zce (zce (zce (zce c 15 (.inr (4, zd_4.set 0 (.ref (n0 + 1))))) 15 (.inr (4, (zd_4.set 0 (.ref (n0 + 1))).set 1 (.ref (n0 + 8))))) 15 (.inr (4, ((zd_4.set 0 (.ref (n0 + 1))).set 1 (.ref (n0 + 8))).set 3 (.int (Int32.ofNat w))))) 16 (.inr (2, zd_2)) := ⟨_, rfl⟩
  have a15 : c1 15 = .inr (4, ((zd_4.set 0 (.ref (n0 + 1))).set 1 (.ref (n0 + 8))).set 3 (.int (Int32.ofNat w))) := by rw [hc1]; rfl
  have a16 : c1 16 = .inr (2, zd_2) := by rw [hc1]; rfl
  have alo : ∀ o, o < 15 → c1 o = c o := fun o ho => by rw [hc1]; simp (disch := omega) only [zce_ne]
  obtain ⟨c2, g21, t1, t2, t3, t4, t5, t6, t7, t8, t9, t10⟩ := zb_heap (N := N) (n0 := n0) (s := s + 11) (e0 := e0) (c := c1) hw hN a16
  have b15 : c2 15 = _ := (t10 15 (by decide)).trans a15
  obtain ⟨S2, hS2⟩ : ∃ S2, S2 = s + 11 + w + (w / 2 + 1) + (w / 2 + 1) + (w / 2 + 1) + w / 2 + w / 2 := ⟨_, rfl⟩
  rw [← hS2] at t1
  obtain ⟨c3, hc3⟩ : ∃ c3, c3 = zce (zce (zce (zce (zce (zce c2 15 (.inr (4, (((zd_4.set 0 (.ref (n0 + 1))).set 1 (.ref (n0 + 8))).set 3 (.int (Int32.ofNat w))).set 2 (.ref (n0 + 16))))) 23 (.inl (5, 16, .inr (.inr (.inr (.inr fun _ => none)))))) 15 (.inr (4, ((((zd_4.set 0 (.ref (n0 + 1))).set 1 (.ref (n0 + 8))).set 3 (.int (Int32.ofNat w))).set 2 (.ref (n0 + 16))).set 4 (.ref (n0 + 23))))) 24 (.inr (6, zd_6))) 25 (.inl (2, 0, .inl fun _ => 0))) 26 (.inl (0, 0, .inl fun _ => 0)) := ⟨_, rfl⟩
  have d24 : c3 24 = .inr (6, zd_6) := by rw [hc3]; rfl
  obtain ⟨c4, u1, u2, u3⟩ := zb_nothing (N := N) (n0 := n0) (s := S2 + 16 + 7 + 0 + 0) (e0 := e0) (c := c3) (by omega) d24
  have f15 : c4 15 = .inr (4, ((((zd_4.set 0 (.ref (n0 + 1))).set 1 (.ref (n0 + 8))).set 3 (.int (Int32.ofNat w))).set 2 (.ref (n0 + 16))).set 4 (.ref (n0 + 23))) := (u3 15 (by decide)).trans (by rw [hc3]; rfl)
  have f23 : c4 23 = .inl (5, 16, .inr (.inr (.inr (.inr fun _ => none)))) := (u3 23 (by decide)).trans (by rw [hc3]; rfl)
  have flo : ∀ o, o < 23 → o ≠ 15 → c4 o = c2 o := fun o ho h15 => (u3 o (by omega)).trans (by rw [hc3]; simp (disch := omega) only [zce_ne])
  obtain ⟨c5, g23, v1, v2, v3, v4, v5, v6, v7⟩ := zb_frames (N := N) (n0 := n0) (e0 := e0) 16 N 0 c4 (fun _ => none) _ (S2 + 16 + 7 + 0 + 0) (by omega) (by omega) f15 (Nat.le_of_ble_eq_true rfl) rfl f23 (fun i hi => by omega)
  refine ⟨c5, g21, ?_, v2, (v6 16 (by decide) (by decide) (by decide)).trans ((flo 16 (by decide) (by decide)).trans t2), (v6 17 (by decide) (by decide) (by decide)).trans ((flo 17 (by decide) (by decide)).trans t3), (v6 18 (by decide) (by decide) (by decide)).trans ((flo 18 (by decide) (by decide)).trans t4), (v6 19 (by decide) (by decide) (by decide)).trans ((flo 19 (by decide) (by decide)).trans t5), (v6 20 (by decide) (by decide) (by decide)).trans ((flo 20 (by decide) (by decide)).trans t6), (v6 21 (by decide) (by decide) (by decide)).trans ((flo 21 (by decide) (by decide)).trans t7), (v6 22 (by decide) (by decide) (by decide)).trans ((flo 22 (by decide) (by decide)).trans t8), t9, ?_, (v6 24 (by decide) (by decide) (by decide)).trans u2, (v6 25 (by decide) (by decide) (by decide)).trans ((u3 25 (by decide)).trans (by rw [hc3]; rfl)), (v6 26 (by decide) (by decide) (by decide)).trans ((u3 26 (by decide)).trans (by rw [hc3]; rfl)), fun i hi => v7 i (Nat.zero_le i) hi, fun o ho => (v6 o (by omega) (by omega) (by omega)).trans ((flo o (by omega) (by omega)).trans ((t10 o (by omega)).trans (alo o ho)))⟩
  · rw [← hS2]
    unfold mX4_init mX4_init_0
    refine (zbf_pp (o := 15) (by decide) h1 (Nat.le_of_ble_eq_true rfl)).trans ?_
    refine (zbf_pp (o := 15) (by decide) zce_at (Nat.le_of_ble_eq_true rfl)).trans ?_
    refine (zbf_pp (o := 15) (by decide) zce_at (Nat.le_of_ble_eq_true rfl)).trans ?_
    refine zbf_nwb.trans ?_
    rw [hc1] at t1
    refine (zob t1).trans ?_
    refine (zbf_pp (o := 15) (by decide) b15 (Nat.le_of_ble_eq_true rfl)).trans ?_
    refine (zbf_nRp (o := 15) (n := 16) rfl (by decide) zce_at (Nat.le_of_ble_eq_true rfl) (by decide)).trans ?_
    refine zbf_nwb.trans ?_
    refine (zbf_nab (n := 0) rfl (by decide)).trans ?_
    refine (zbf_nab (n := 0) rfl (by decide)).trans ?_
    rw [hc3] at u1
    refine (zob u1).trans ?_
    exact v1
  · rw [v3]
    have : g23 = fun i => if i < 16 then some (n0 + (3 * i + 27)) else none := funext fun i => by
      by_cases hi : i < 16
      · rw [if_pos hi]; exact v4 i hi
      · rw [if_neg hi]; exact v5 i (by omega)
    rw [this]
/-- GuestFrames -/
theorem zb_class (hw : w ≤ 400) (hN : 201 < N) {l1 : Int32} (hl : zm_max (16 : Int32) (zm_min (400 : Int32) l1) = Int32.ofNat w) : ∃ c' g2 g21 s', mX8_init N n0 l1 (zv_nw (zl0 n0 e0) (.inr (8, zd_8)) 5) = some (zbf n0 75 c' s' e0) ∧ s' ≤ 4000 ∧ c' 0 = .inr (8, [.ref (n0 + 1), .ref (n0 + 5), .ref (n0 + 8), .ref (n0 + 9), .ref (n0 + 15)]) ∧
    c' 1 = .inr (7, [.ref (n0 + 2), .ref (n0 + 3), .ref (n0 + 4), .int 7]) ∧ c' 2 = .inl (0, 30, .inl g2) ∧ c' 3 = .inl (0, 30, .inl fun _ => 0) ∧ c' 4 = .inl (0, 30, .inl fun _ => 0) ∧ (∀ k, k < 7 → g2 k = Int32.ofNat (1 ||| 2 ^ k)) ∧
    c' 5 = .inr (0, [.ref (n0 + 6), .ref (n0 + 7), .int 0, .int 0]) ∧ c' 6 = .inl (2, 200, .inl fun _ => 0) ∧ c' 7 = .inl (0, 32, .inl fun _ => 0) ∧ c' 8 = .inr (5, [.int 0, .ref e0.1, .int 0]) ∧
    c' 9 = .inr (3, [.ref (n0 + 1), .ref (n0 + 8), .ref (n0 + 10), .ref (n0 + 11), .ref (n0 + 12), .ref (n0 + 13), .ref (n0 + 14), .int 0, .null, .int 0, .int 0, .int 0]) ∧ c' 10 = .inl (3, 200, .inl fun _ => 0) ∧ c' 11 = .inl (3, 200, .inl fun _ => 0) ∧ c' 12 = .inl (0, 200, .inl fun _ => 0) ∧ c' 13 = .inl (0, 200, .inl fun _ => 0) ∧ c' 14 = .inl (0, 200, .inl fun _ => 0) ∧
    c' 15 = .inr (4, [.ref (n0 + 1), .ref (n0 + 8), .ref (n0 + 16), .int (Int32.ofNat w), .ref (n0 + 23), .ref (n0 + 27), .int 0, .int 0, .long 0, .int 0, .int 0, .int 0]) ∧
    c' 16 = .inr (2, [.ref (n0 + 1), .ref (n0 + 17), .ref (n0 + 18), .ref (n0 + 19), .ref (n0 + 20), .ref (n0 + 21), .ref (n0 + 22), .int 0, .int 0, .int 0, .int 0]) ∧ c' 17 = .inl (0, w, .inl fun _ => 0) ∧ c' 18 = .inl (0, w / 2 + 1, .inl fun _ => 0) ∧ c' 19 = .inl (0, w / 2 + 1, .inl fun _ => 0) ∧ c' 20 = .inl (0, w / 2 + 1, .inl fun _ => 0) ∧ c' 21 = .inl (0, w / 2, .inl g21) ∧ c' 22 = .inl (0, w / 2, .inl fun _ => 0) ∧ (∀ k, k < w / 2 → g21 k = Int32.ofNat (k + 1)) ∧
    c' 23 = .inl (5, 16, .inr (.inr (.inr (.inr fun i => if i < 16 then some (n0 + (3 * i + 27)) else none)))) ∧ c' 24 = .inr (6, [.ref (n0 + 25), .ref (n0 + 26), .int 0, .int 0, .int 0, .int 0, .int 0]) ∧ c' 25 = .inl (2, 0, .inl fun _ => 0) ∧ c' 26 = .inl (0, 0, .inl fun _ => 0) ∧
    ∀ i, i < 16 → c' (3 * i + 27) = .inr (1, [.ref (n0 + (3 * i + 28)), .ref (n0 + (3 * i + 29)), .int 16, .ref (n0 + 24), .int 0]) ∧ c' (3 * i + 28) = .inl (1, 28, .inr (.inl fun _ => 0)) ∧ c' (3 * i + 29) = .inl (0, 28, .inl fun _ => 0) := by
  have e0' : zv_nw (zl0 n0 e0) (.inr (8, zd_8)) 5 = zbf n0 1 (fun _ => .inr (8, zd_8)) 5 e0 := Prod.ext (funext fun q => by
    show (if q = n0 then (some (Sum.inr (8, zd_8)) : Option zv_C) else none) = if n0 ≤ q ∧ q < n0 + 1 then some (Sum.inr (8, zd_8)) else none
    by_cases h : q = n0
    · rw [if_pos h, if_pos (by omega)]
    · rw [if_neg h, if_neg (by omega)]) rfl
  rw [e0']
  obtain ⟨cA, gA, A1, A2, A3, A4, A5, A6, A7⟩ := zb_types (N := N) (n0 := n0) (s := 5 + 4) (e0 := e0) (c := zce (fun _ => .inr (8, zd_8)) 1 (.inr (7, zd_7))) (by omega) zce_at
  have A0 : cA 0 = .inr (8, zd_8) := A7.trans rfl
  obtain ⟨cB, B1, B2, B3, B4, B5⟩ := zb_draft (N := N) (n0 := n0) (s := 5 + 4 + 30 + 30 + 30 + 4) (e0 := e0) (c := zce (zce cA 0 (.inr (8, zd_8.set 0 (.ref (n0 + 1))))) 5 (.inr (0, zd_0))) zce_at
  have B0 : cB 0 = .inr (8, zd_8.set 0 (.ref (n0 + 1))) := (B5 0 (by decide)).trans rfl
  have Blo : ∀ o, 0 < o → o < 5 → cB o = cA o := fun o h0 h5 => (B5 o h5).trans (by simp (disch := omega) only [zce_ne])
  obtain ⟨cD, D1, D2, D3⟩ := zb_list (N := N) (n0 := n0) (s := 5 + 4 + 30 + 30 + 30 + 4 + 200 + 32 + 3) (e0 := e0) (c := zce (zce cB 0 (.inr (8, (zd_8.set 0 (.ref (n0 + 1))).set 1 (.ref (n0 + 5))))) 8 (.inr (5, zd_5))) zce_at
  have D0 : cD 0 = .inr (8, (zd_8.set 0 (.ref (n0 + 1))).set 1 (.ref (n0 + 5))) := (D3 0 (by decide)).trans rfl
  have Dlo : ∀ o, 0 < o → o < 8 → cD o = cB o := fun o h0 h5 => (D3 o h5).trans (by simp (disch := omega) only [zce_ne])
  obtain ⟨cE, E1, E2, E3, E4, E5, E6, E7, E8⟩ := zb_judge (N := N) (n0 := n0) (s := 5 + 4 + 30 + 30 + 30 + 4 + 200 + 32 + 3 + 12) (e0 := e0) (c := zce (zce cD 0 (.inr (8, ((zd_8.set 0 (.ref (n0 + 1))).set 1 (.ref (n0 + 5))).set 2 (.ref (n0 + 8))))) 9 (.inr (3, zd_3))) zce_at
  have E0 : cE 0 = .inr (8, ((zd_8.set 0 (.ref (n0 + 1))).set 1 (.ref (n0 + 5))).set 2 (.ref (n0 + 8))) := (E8 0 (by decide)).trans rfl
  have Elo : ∀ o, 0 < o → o < 9 → cE o = cD o := fun o h0 h5 => (E8 o h5).trans (by simp (disch := omega) only [zce_ne])
  obtain ⟨cG, g21, G1, G2, G3, G4, G5, G6, G7, G8, G9, G10, G11, G12, G13, G14, G15, G16⟩ := zb_machine (N := N) (n0 := n0) (s := 5 + 4 + 30 + 30 + 30 + 4 + 200 + 32 + 3 + 12 + 200 + 200 + 200 + 200 + 200 + 12) (e0 := e0) (c := zce (zce cE 0 (.inr (8, (((zd_8.set 0 (.ref (n0 + 1))).set 1 (.ref (n0 + 5))).set 2 (.ref (n0 + 8))).set 3 (.ref (n0 + 9))))) 15 (.inr (4, zd_4))) hw hN zce_at
  have G0 : cG 0 = .inr (8, (((zd_8.set 0 (.ref (n0 + 1))).set 1 (.ref (n0 + 5))).set 2 (.ref (n0 + 8))).set 3 (.ref (n0 + 9))) := (G16 0 (by decide)).trans rfl
  have Glo : ∀ o, 0 < o → o < 15 → cG o = cE o := fun o h0 h5 => (G16 o h5).trans (by simp (disch := omega) only [zce_ne])
  refine ⟨zce cG 0 (.inr (8, ((((zd_8.set 0 (.ref (n0 + 1))).set 1 (.ref (n0 + 5))).set 2 (.ref (n0 + 8))).set 3 (.ref (n0 + 9))).set 4 (.ref (n0 + 15)))), gA, g21, 5 + 4 + 30 + 30 + 30 + 4 + 200 + 32 + 3 + 12 + 200 + 200 + 200 + 200 + 200 + 12 + 11 + w + (w / 2 + 1) + (w / 2 + 1) + (w / 2 + 1) + w / 2 + w / 2 + 16 + 7 + 0 + 0 + 61 * 16, ?_, ?_, rfl, (zce_ne (by decide)).trans ((Glo 1 (by decide) (by decide)).trans ((Elo 1 (by decide) (by decide)).trans ((Dlo 1 (by decide) (by decide)).trans ((Blo 1 (by decide) (by decide)).trans A2)))), (zce_ne (by decide)).trans ((Glo 2 (by decide) (by decide)).trans ((Elo 2 (by decide) (by decide)).trans ((Dlo 2 (by decide) (by decide)).trans ((Blo 2 (by decide) (by decide)).trans A3)))), (zce_ne (by decide)).trans ((Glo 3 (by decide) (by decide)).trans ((Elo 3 (by decide) (by decide)).trans ((Dlo 3 (by decide) (by decide)).trans ((Blo 3 (by decide) (by decide)).trans A4)))), (zce_ne (by decide)).trans ((Glo 4 (by decide) (by decide)).trans ((Elo 4 (by decide) (by decide)).trans ((Dlo 4 (by decide) (by decide)).trans ((Blo 4 (by decide) (by decide)).trans A5)))), A6, (zce_ne (by decide)).trans ((Glo 5 (by decide) (by decide)).trans ((Elo 5 (by decide) (by decide)).trans ((Dlo 5 (by decide) (by decide)).trans B2))), (zce_ne (by decide)).trans ((Glo 6 (by decide) (by decide)).trans ((Elo 6 (by decide) (by decide)).trans ((Dlo 6 (by decide) (by decide)).trans B3))), (zce_ne (by decide)).trans ((Glo 7 (by decide) (by decide)).trans ((Elo 7 (by decide) (by decide)).trans ((Dlo 7 (by decide) (by decide)).trans B4))), (zce_ne (by decide)).trans ((Glo 8 (by decide) (by decide)).trans ((Elo 8 (by decide) (by decide)).trans D2)), (zce_ne (by decide)).trans ((Glo 9 (by decide) (by decide)).trans E2), (zce_ne (by decide)).trans ((Glo 10 (by decide) (by decide)).trans E3), (zce_ne (by decide)).trans ((Glo 11 (by decide) (by decide)).trans E4), (zce_ne (by decide)).trans ((Glo 12 (by decide) (by decide)).trans E5), (zce_ne (by decide)).trans ((Glo 13 (by decide) (by decide)).trans E6), (zce_ne (by decide)).trans ((Glo 14 (by decide) (by decide)).trans E7), (zce_ne (by decide)).trans G2, (zce_ne (by decide)).trans G3, (zce_ne (by decide)).trans G4, (zce_ne (by decide)).trans G5, (zce_ne (by decide)).trans G6, (zce_ne (by decide)).trans G7, (zce_ne (by decide)).trans G8, (zce_ne (by decide)).trans G9, G10, (zce_ne (by decide)).trans G11, (zce_ne (by decide)).trans G12, (zce_ne (by decide)).trans G13, (zce_ne (by decide)).trans G14, fun i hi => ?_⟩
  · unfold mX8_init mX8_init_0
    rw [hl]
    refine zbf_nwb.trans ?_
    refine (zob A1).trans ?_
    refine (zbf_pp (o := 0) (by decide) A0 (Nat.le_of_ble_eq_true rfl)).trans ?_
    refine zbf_nwb.trans ?_
    refine (zob B1).trans ?_
    refine (zbf_pp (o := 0) (by decide) B0 (Nat.le_of_ble_eq_true rfl)).trans ?_
    refine zbf_nwb.trans ?_
    refine (zob D1).trans ?_
    refine (zbf_pp (o := 0) (by decide) D0 (Nat.le_of_ble_eq_true rfl)).trans ?_
    refine zbf_nwb.trans ?_
    refine (zbf_Rb (o := 0) (v := n0 + 1) (fs := ((zd_8.set 0 (.ref (n0 + 1))).set 1 (.ref (n0 + 5))).set 2 (.ref (n0 + 8))) (by decide) rfl rfl).trans ?_
    refine (zbf_Rb (o := 0) (v := n0 + 8) (fs := ((zd_8.set 0 (.ref (n0 + 1))).set 1 (.ref (n0 + 5))).set 2 (.ref (n0 + 8))) (by decide) rfl rfl).trans ?_
    refine (zob E1).trans ?_
    refine (zbf_pp (o := 0) (by decide) E0 (Nat.le_of_ble_eq_true rfl)).trans ?_
    refine zbf_nwb.trans ?_
    refine (zbf_Rb (o := 0) (v := n0 + 1) (fs := (((zd_8.set 0 (.ref (n0 + 1))).set 1 (.ref (n0 + 5))).set 2 (.ref (n0 + 8))).set 3 (.ref (n0 + 9))) (by decide) rfl rfl).trans ?_
    refine (zbf_Rb (o := 0) (v := n0 + 8) (fs := (((zd_8.set 0 (.ref (n0 + 1))).set 1 (.ref (n0 + 5))).set 2 (.ref (n0 + 8))).set 3 (.ref (n0 + 9))) (by decide) rfl rfl).trans ?_
    refine (zob G1).trans ?_
    refine (zbf_pp (o := 0) (by decide) G0 (Nat.le_of_ble_eq_true rfl)).trans ?_
    rfl
  · omega
  · obtain ⟨q1, q2, q3⟩ := G15 i hi
    exact ⟨(zce_ne (by omega)).trans q1, (zce_ne (by omega)).trans q2, (zce_ne (by omega)).trans q3⟩
end ZBM
