/-! ===== the memory of both as one function of three stores; what the mirrors do on it (written by wip/gen/mem.py) ===== -/
abbrev zC : Type := (Nat → Nat → Int32) × (Nat → Nat → Int64) × (Nat → Nat → Value)
abbrev zM : Type := (Nat → Nat → Int32) × (Nat → Nat → Int64)
def zI (C : zC) (o k : Nat) (v : Int32) : zC := (fun p q => if p = o ∧ q = k then v else C.1 p q, C.2)
def zL (C : zC) (o k : Nat) (v : Int64) : zC := (C.1, fun p q => if p = o ∧ q = k then v else C.2.1 p q, C.2.2)
def zV (C : zC) (o k : Nat) (v : Value) : zC := (C.1, C.2.1, fun p q => if p = o ∧ q = k then v else C.2.2 p q)
def zJ (M : zM) (o k : Nat) (v : Int32) : zM := (fun p q => if p = o ∧ q = k then v else M.1 p q, M.2)
def zK (M : zM) (o k : Nat) (v : Int64) : zM := (M.1, fun p q => if p = o ∧ q = k then v else M.2 p q)
/-- the class's fixed cells -/
def zcC (w b : Nat) (C : zC) (o : Nat) : zv_C := match o with
  | 0 => .inr (8, [.ref (b + 1), .ref (b + 5), .ref (b + 8), .ref (b + 9), .ref (b + 15)])
  | 1 => .inr (7, [.ref (b + 2), .ref (b + 3), .ref (b + 4), .int (C.1 1 3)])
  | 2 => .inl (0, 30, .inl (C.1 2))
  | 3 => .inl (0, 30, .inl (C.1 3))
  | 4 => .inl (0, 30, .inl (C.1 4))
  | 5 => .inr (0, [.ref (b + 6), .ref (b + 7), .int (C.1 5 2), .int (C.1 5 3)])
  | 6 => .inl (2, 200, .inl (C.1 6))
  | 7 => .inl (0, 32, .inl (C.1 7))
  | 8 => .inr (5, [.int (C.1 8 0), C.2.2 8 1, .int (C.1 8 2)])
  | 9 => .inr (3, [.ref (b + 1), .ref (b + 8), .ref (b + 10), .ref (b + 11), .ref (b + 12), .ref (b + 13), .ref (b + 14), .int (C.1 9 7), C.2.2 9 8, .int (C.1 9 9), .int (C.1 9 10), .int (C.1 9 11)])
  | 10 => .inl (3, 200, .inl (C.1 10))
  | 11 => .inl (3, 200, .inl (C.1 11))
  | 12 => .inl (0, 200, .inl (C.1 12))
  | 13 => .inl (0, 200, .inl (C.1 13))
  | 14 => .inl (0, 200, .inl (C.1 14))
  | 15 => .inr (4, [.ref (b + 1), .ref (b + 8), .ref (b + 16), .int (C.1 15 3), .ref (b + 23), C.2.2 15 5, .int (C.1 15 6), .int (C.1 15 7), .long (C.2.1 15 8), .int (C.1 15 9), .int (C.1 15 10), .int (C.1 15 11)])
  | 16 => .inr (2, [.ref (b + 1), .ref (b + 17), .ref (b + 18), .ref (b + 19), .ref (b + 20), .ref (b + 21), .ref (b + 22), .int (C.1 16 7), .int (C.1 16 8), .int (C.1 16 9), .int (C.1 16 10)])
  | 17 => .inl (0, w, .inl (C.1 17))
  | 18 => .inl (0, (w / 2 + 1), .inl (C.1 18))
  | 19 => .inl (0, (w / 2 + 1), .inl (C.1 19))
  | 20 => .inl (0, (w / 2 + 1), .inl (C.1 20))
  | 21 => .inl (0, (w / 2), .inl (C.1 21))
  | 22 => .inl (0, (w / 2), .inl (C.1 22))
  | 23 => .inl (5, 16, .inr (.inr (.inr (.inr fun i => if i < 16 then some (b + (3 * i + 27)) else none))))
  | 24 => .inr (6, [.ref (b + 25), .ref (b + 26), .int (C.1 24 2), .int (C.1 24 3), .int (C.1 24 4), .int (C.1 24 5), .int (C.1 24 6)])
  | 25 => .inl (2, 0, .inl (C.1 25))
  | 26 => .inl (0, 0, .inl (C.1 26))
  | _ => .inl (0, 0, .inl fun _ => 0)
def zcF (b : Nat) (C : zC) (f r : Nat) : zv_C := match r with
  | 0 => .inr (1, [.ref (b + (3 * f + 28)), .ref (b + (3 * f + 29)), .int (C.1 (f + 100) 2), C.2.2 (f + 100) 3, .int (C.1 (f + 100) 4)])
  | 1 => .inl (1, 28, .inr (.inl (C.2.1 (f + 120))))
  | _ => .inl (0, 28, .inl (C.1 (f + 140)))
def zcM (b : Nat) (M : zM) (o : Nat) : zv_C := match o with
  | 75 => .inr (9, [.int (M.1 100 0), .int (M.1 100 1), .ref (b + 76), .ref (b + 77), .ref (b + 78), .int (M.1 100 5), .ref (b + 79), .int (M.1 100 7), .ref (b + 80), .int (M.1 100 9), .ref (b + 81), .ref (b + 82), .ref (b + 83), .ref (b + 84), .ref (b + 85), .ref (b + 86), .ref (b + 87), .ref (b + 88), .ref (b + 89), .int (M.1 100 19), .ref (b + 90), .ref (b + 91), .ref (b + 92), .ref (b + 93), .ref (b + 94), .int (M.1 100 25), .ref (b + 95), .int (M.1 100 27), .int (M.1 100 28), .ref (b + 96), .ref (b + 97), .ref (b + 98), .ref (b + 99), .ref (b + 100), .ref (b + 101), .ref (b + 102), .int (M.1 100 36), .ref (b + 103), .int (M.1 100 38), .ref (b + 104), .ref (b + 105), .ref (b + 106), .ref (b + 107), .ref (b + 108), .ref (b + 109), .ref (b + 110), .ref (b + 111), .int (M.1 100 47), .int (M.1 100 48), .int (M.1 100 49), .long (M.2 100 50), .int (M.1 100 51), .int (M.1 100 52), .int (M.1 100 53), .int (M.1 100 54)])
  | 76 => .inl (0, 30, .inl (M.1 2))
  | 77 => .inl (0, 30, .inl (M.1 3))
  | 78 => .inl (0, 240, .inl (M.1 4))
  | 79 => .inl (0, 200, .inl (M.1 6))
  | 80 => .inl (0, 32, .inl (M.1 8))
  | 81 => .inl (0, 640, .inl (M.1 10))
  | 82 => .inl (0, 20, .inl (M.1 11))
  | 83 => .inl (0, 20, .inl (M.1 12))
  | 84 => .inl (0, 80, .inl (M.1 13))
  | 85 => .inl (0, 20, .inl (M.1 14))
  | 86 => .inl (0, 20, .inl (M.1 15))
  | 87 => .inl (0, 20, .inl (M.1 16))
  | 88 => .inl (0, 4000, .inl (M.1 17))
  | 89 => .inl (0, 20, .inl (M.1 18))
  | 90 => .inl (3, 200, .inl (M.1 20))
  | 91 => .inl (0, 200, .inl (M.1 21))
  | 92 => .inl (0, 2400, .inl (M.1 22))
  | 93 => .inl (0, 3200, .inl (M.1 23))
  | 94 => .inl (0, 16, .inl (M.1 24))
  | 95 => .inl (0, 16, .inl (M.1 26))
  | 96 => .inl (3, 201, .inl (M.1 29))
  | 97 => .inl (3, 201, .inl (M.1 30))
  | 98 => .inl (0, 201, .inl (M.1 31))
  | 99 => .inl (0, 201, .inl (M.1 32))
  | 100 => .inl (0, 201, .inl (M.1 33))
  | 101 => .inl (0, 201, .inl (M.1 34))
  | 102 => .inl (0, 201, .inl (M.1 35))
  | 103 => .inl (1, 1700, .inr (.inl (M.2 37)))
  | 104 => .inl (0, 202, .inl (M.1 39))
  | 105 => .inl (0, 16, .inl (M.1 40))
  | 106 => .inl (0, 16, .inl (M.1 41))
  | 107 => .inl (0, 16, .inl (M.1 42))
  | 108 => .inl (1, 256, .inr (.inl (M.2 43)))
  | 109 => .inl (0, 256, .inl (M.1 44))
  | 110 => .inl (1, 192, .inr (.inl (M.2 45)))
  | 111 => .inl (0, 192, .inl (M.1 46))
  | _ => .inl (1, 1, .inr (.inl (M.2 99)))
def zcell (w b : Nat) (C : zC) (M : zM) (o : Nat) : zv_C := if o < 27 then zcC w b C o else if o < 75 then zcF b C ((o - 27) / 3) ((o - 27) % 3) else zcM b M o
def zc (w b : Nat) (C : zC) (M : zM) (r : zv_X) : zv_X := (fun q => if b ≤ q ∧ q < b + 113 then some (zcell w b C M (q - b)) else r.1 q, r.2)
section ZCM
variable {w b : Nat} {C : zC} {M : zM} {r : zv_X}
theorem zc_at (o : Nat) (h : o < 113) : (zc w b C M r).1 (b + o) = some (zcell w b C M o) := by
  show (if b ≤ b + o ∧ b + o < b + 113 then some (zcell w b C M (b + o - b)) else r.1 (b + o)) = _
  rw [if_pos ⟨Nat.le_add_right _ _, by omega⟩, Nat.add_sub_cancel_left]
theorem zc_out {q : Nat} (h : q < b ∨ b + 113 ≤ q) : (zc w b C M r).1 q = r.1 q := if_neg (by omega)
theorem zc_2 : (zc w b C M r).2 = r.2 := rfl
theorem zc_st {C' : zC} {M' : zM} {o : Nat} {e : zv_C} (h : o < 113) (h1 : ∀ p, p < 113 → p ≠ o → zcell w b C' M' p = zcell w b C M p) (h2 : zcell w b C' M' o = e) : zv_st (zc w b C M r) (b + o) e = zc w b C' M' r := by
  refine Prod.ext (funext fun q => ?_) rfl
  show (if q = b + o then some e else (if b ≤ q ∧ q < b + 113 then some (zcell w b C M (q - b)) else r.1 q)) = (if b ≤ q ∧ q < b + 113 then some (zcell w b C' M' (q - b)) else r.1 q)
  by_cases hq : q = b + o
  · subst hq
    rw [if_pos rfl, if_pos ⟨Nat.le_add_right _ _, by omega⟩, Nat.add_sub_cancel_left, h2]
  · rw [if_neg hq]
    by_cases hb : b ≤ q ∧ q < b + 113
    · rw [if_pos hb, if_pos hb, h1 (q - b) (by omega) (by omega)]
    · rw [if_neg hb, if_neg hb]
/-- the cell that a store's place belongs to -/
def zcof (v : Nat) : Nat := if v < 100 then v else if v < 120 then 3 * (v - 100) + 27 else if v < 140 then 3 * (v - 120) + 28 else 3 * (v - 140) + 29
theorem zcC_same {C' : zC} {v o : Nat} (h1 : ∀ p, p ≠ v → C'.1 p = C.1 p) (h2 : ∀ p, p ≠ v → C'.2.1 p = C.2.1 p) (h3 : ∀ p, p ≠ v → C'.2.2 p = C.2.2 p) (ho : o < 27) (hv : o ≠ v) : zcC w b C' o = zcC w b C o := by
  unfold zcC
  split <;> simp only [h1 _ hv, h2 _ hv, h3 _ hv]
theorem zcF_same {C' : zC} {v f q : Nat} (h1 : ∀ p, p ≠ v → C'.1 p = C.1 p) (h2 : ∀ p, p ≠ v → C'.2.1 p = C.2.1 p) (h3 : ∀ p, p ≠ v → C'.2.2 p = C.2.2 p) (hq : q < 3) (hf : f < 16) (hv : 3 * f + 27 + q ≠ zcof v) (hv2 : v < 27 ∨ (100 ≤ v ∧ v < 116) ∨ (120 ≤ v ∧ v < 136) ∨ (140 ≤ v ∧ v < 156)) : zcF b C' f q = zcF b C f q := by
  unfold zcof at hv
  match q, hq with
  | 0, _ =>
    have e : f + 100 ≠ v := by intro e; subst e; simp only [show ¬ f + 100 < 100 by omega, show f + 100 < 120 by omega, if_true, if_false] at hv; omega
    simp only [zcF, h1 _ e, h3 _ e]
  | 1, _ =>
    have e : f + 120 ≠ v := by intro e; subst e; simp only [show ¬ f + 120 < 100 by omega, show ¬ f + 120 < 120 by omega, show f + 120 < 140 by omega, if_true, if_false] at hv; omega
    simp only [zcF, h2 _ e]
  | 2, _ =>
    have e : f + 140 ≠ v := by intro e; subst e; simp only [show ¬ f + 140 < 100 by omega, show ¬ f + 140 < 120 by omega, show ¬ f + 140 < 140 by omega, if_false] at hv; omega
    simp only [zcF, h1 _ e]
/-- a change at one place of the class's store -/
theorem zc_setC {C' : zC} {v : Nat} {e : zv_C} (h1 : ∀ p, p ≠ v → C'.1 p = C.1 p) (h2 : ∀ p, p ≠ v → C'.2.1 p = C.2.1 p) (h3 : ∀ p, p ≠ v → C'.2.2 p = C.2.2 p) (hv2 : v < 27 ∨ (100 ≤ v ∧ v < 116) ∨ (120 ≤ v ∧ v < 136) ∨ (140 ≤ v ∧ v < 156)) (he : zcell w b C' M (zcof v) = e) : zv_st (zc w b C M r) (b + zcof v) e = zc w b C' M r := by
  refine zc_st (by unfold zcof; split <;> (try split) <;> (try split) <;> omega) (fun p hp hne => ?_) he
  unfold zcell
  by_cases c1 : p < 27
  · rw [if_pos c1, if_pos c1]
    refine zcC_same h1 h2 h3 c1 fun e => hne ?_
    subst e
    unfold zcof
    rw [if_pos (by omega)]
  · rw [if_neg c1, if_neg c1]
    by_cases c2 : p < 75
    · rw [if_pos c2, if_pos c2]
      exact zcF_same h1 h2 h3 (Nat.mod_lt _ (by decide)) (by omega) (by omega) hv2
    · rw [if_neg c2, if_neg c2]
theorem zI_ne {o k : Nat} {v : Int32} : ∀ p, p ≠ o → (zI C o k v).1 p = C.1 p := fun p h => funext fun q => if_neg fun e => h e.1
theorem zL_ne {o k : Nat} {v : Int64} : ∀ p, p ≠ o → (zL C o k v).2.1 p = C.2.1 p := fun p h => funext fun q => if_neg fun e => h e.1
theorem zV_ne {o k : Nat} {v : Value} : ∀ p, p ≠ o → (zV C o k v).2.2 p = C.2.2 p := fun p h => funext fun q => if_neg fun e => h e.1
theorem zc_I {v k : Nat} {y : Int32} {e : zv_C} (hv2 : v < 27 ∨ (100 ≤ v ∧ v < 116) ∨ (120 ≤ v ∧ v < 136) ∨ (140 ≤ v ∧ v < 156)) (he : zcell w b (zI C v k y) M (zcof v) = e) : zv_st (zc w b C M r) (b + zcof v) e = zc w b (zI C v k y) M r := zc_setC zI_ne (fun _ _ => rfl) (fun _ _ => rfl) hv2 he
theorem zc_L {v k : Nat} {y : Int64} {e : zv_C} (hv2 : v < 27 ∨ (100 ≤ v ∧ v < 116) ∨ (120 ≤ v ∧ v < 136) ∨ (140 ≤ v ∧ v < 156)) (he : zcell w b (zL C v k y) M (zcof v) = e) : zv_st (zc w b C M r) (b + zcof v) e = zc w b (zL C v k y) M r := zc_setC (fun _ _ => rfl) zL_ne (fun _ _ => rfl) hv2 he
theorem zc_V {v k : Nat} {y : Value} {e : zv_C} (hv2 : v < 27 ∨ (100 ≤ v ∧ v < 116) ∨ (120 ≤ v ∧ v < 136) ∨ (140 ≤ v ∧ v < 156)) (he : zcell w b (zV C v k y) M (zcof v) = e) : zv_st (zc w b C M r) (b + zcof v) e = zc w b (zV C v k y) M r := zc_setC (fun _ _ => rfl) (fun _ _ => rfl) zV_ne hv2 he
/-- a change in the model's store -/
def zmof (v : Nat) : Nat := match v with
  | 2 => 76
  | 3 => 77
  | 4 => 78
  | 6 => 79
  | 8 => 80
  | 10 => 81
  | 11 => 82
  | 12 => 83
  | 13 => 84
  | 14 => 85
  | 15 => 86
  | 16 => 87
  | 17 => 88
  | 18 => 89
  | 20 => 90
  | 21 => 91
  | 22 => 92
  | 23 => 93
  | 24 => 94
  | 26 => 95
  | 29 => 96
  | 30 => 97
  | 31 => 98
  | 32 => 99
  | 33 => 100
  | 34 => 101
  | 35 => 102
  | 37 => 103
  | 39 => 104
  | 40 => 105
  | 41 => 106
  | 42 => 107
  | 43 => 108
  | 44 => 109
  | 45 => 110
  | 46 => 111
  | 100 => 75
  | _ => 112
theorem zcM_same {M' : zM} {v o : Nat} (h1 : ∀ p, p ≠ v → M'.1 p = M.1 p) (h2 : ∀ p, p ≠ v → M'.2 p = M.2 p) (ho : 75 ≤ o ∧ o < 113) (hv : o ≠ zmof v) : zcM b M' o = zcM b M o := by
  have key : ∀ k, zmof k = o → M'.1 k = M.1 k ∧ M'.2 k = M.2 k := fun k hk => ⟨h1 k fun e => hv (by rw [← e]; exact hk.symm), h2 k fun e => hv (by rw [← e]; exact hk.symm)⟩
  obtain ⟨ho1, ho2⟩ := ho
  have cs : o = 75 ∨ o = 76 ∨ o = 77 ∨ o = 78 ∨ o = 79 ∨ o = 80 ∨ o = 81 ∨ o = 82 ∨ o = 83 ∨ o = 84 ∨ o = 85 ∨ o = 86 ∨ o = 87 ∨ o = 88 ∨ o = 89 ∨ o = 90 ∨ o = 91 ∨ o = 92 ∨ o = 93 ∨ o = 94 ∨ o = 95 ∨ o = 96 ∨ o = 97 ∨ o = 98 ∨ o = 99 ∨ o = 100 ∨ o = 101 ∨ o = 102 ∨ o = 103 ∨ o = 104 ∨ o = 105 ∨ o = 106 ∨ o = 107 ∨ o = 108 ∨ o = 109 ∨ o = 110 ∨ o = 111 ∨ o = 112 := by omega
  rcases cs with rfl | rfl | rfl | rfl | rfl | rfl | rfl | rfl | rfl | rfl | rfl | rfl | rfl | rfl | rfl | rfl | rfl | rfl | rfl | rfl | rfl | rfl | rfl | rfl | rfl | rfl | rfl | rfl | rfl | rfl | rfl | rfl | rfl | rfl | rfl | rfl | rfl | rfl
  · simp only [zcM, (key 100 rfl).1, (key 100 rfl).2]
  · simp only [zcM, (key 2 rfl).1, (key 2 rfl).2]
  · simp only [zcM, (key 3 rfl).1, (key 3 rfl).2]
  · simp only [zcM, (key 4 rfl).1, (key 4 rfl).2]
  · simp only [zcM, (key 6 rfl).1, (key 6 rfl).2]
  · simp only [zcM, (key 8 rfl).1, (key 8 rfl).2]
  · simp only [zcM, (key 10 rfl).1, (key 10 rfl).2]
  · simp only [zcM, (key 11 rfl).1, (key 11 rfl).2]
  · simp only [zcM, (key 12 rfl).1, (key 12 rfl).2]
  · simp only [zcM, (key 13 rfl).1, (key 13 rfl).2]
  · simp only [zcM, (key 14 rfl).1, (key 14 rfl).2]
  · simp only [zcM, (key 15 rfl).1, (key 15 rfl).2]
  · simp only [zcM, (key 16 rfl).1, (key 16 rfl).2]
  · simp only [zcM, (key 17 rfl).1, (key 17 rfl).2]
  · simp only [zcM, (key 18 rfl).1, (key 18 rfl).2]
  · simp only [zcM, (key 20 rfl).1, (key 20 rfl).2]
  · simp only [zcM, (key 21 rfl).1, (key 21 rfl).2]
  · simp only [zcM, (key 22 rfl).1, (key 22 rfl).2]
  · simp only [zcM, (key 23 rfl).1, (key 23 rfl).2]
  · simp only [zcM, (key 24 rfl).1, (key 24 rfl).2]
  · simp only [zcM, (key 26 rfl).1, (key 26 rfl).2]
  · simp only [zcM, (key 29 rfl).1, (key 29 rfl).2]
  · simp only [zcM, (key 30 rfl).1, (key 30 rfl).2]
  · simp only [zcM, (key 31 rfl).1, (key 31 rfl).2]
  · simp only [zcM, (key 32 rfl).1, (key 32 rfl).2]
  · simp only [zcM, (key 33 rfl).1, (key 33 rfl).2]
  · simp only [zcM, (key 34 rfl).1, (key 34 rfl).2]
  · simp only [zcM, (key 35 rfl).1, (key 35 rfl).2]
  · simp only [zcM, (key 37 rfl).1, (key 37 rfl).2]
  · simp only [zcM, (key 39 rfl).1, (key 39 rfl).2]
  · simp only [zcM, (key 40 rfl).1, (key 40 rfl).2]
  · simp only [zcM, (key 41 rfl).1, (key 41 rfl).2]
  · simp only [zcM, (key 42 rfl).1, (key 42 rfl).2]
  · simp only [zcM, (key 43 rfl).1, (key 43 rfl).2]
  · simp only [zcM, (key 44 rfl).1, (key 44 rfl).2]
  · simp only [zcM, (key 45 rfl).1, (key 45 rfl).2]
  · simp only [zcM, (key 46 rfl).1, (key 46 rfl).2]
  · simp only [zcM, (key 99 rfl).1, (key 99 rfl).2]
theorem zmof_lt (v : Nat) : 75 ≤ zmof v ∧ zmof v < 113 := by
  unfold zmof
  split <;> omega
theorem zc_setM {M' : zM} {v : Nat} {e : zv_C} (h1 : ∀ p, p ≠ v → M'.1 p = M.1 p) (h2 : ∀ p, p ≠ v → M'.2 p = M.2 p) (he : zcM b M' (zmof v) = e) : zv_st (zc w b C M r) (b + zmof v) e = zc w b C M' r := by
  have hv := zmof_lt v
  refine zc_st hv.2 (fun p hp hne => ?_) (by unfold zcell; rw [if_neg (by omega), if_neg (by omega)]; exact he)
  unfold zcell
  by_cases c1 : p < 27
  · rw [if_pos c1, if_pos c1]
  · rw [if_neg c1, if_neg c1]
    by_cases c2 : p < 75
    · rw [if_pos c2, if_pos c2]
    · rw [if_neg c2, if_neg c2]
      exact zcM_same h1 h2 ⟨by omega, hp⟩ hne
theorem zJ_ne {o k : Nat} {v : Int32} : ∀ p, p ≠ o → (zJ M o k v).1 p = M.1 p := fun p h => funext fun q => if_neg fun e => h e.1
theorem zK_ne {o k : Nat} {v : Int64} : ∀ p, p ≠ o → (zK M o k v).2 p = M.2 p := fun p h => funext fun q => if_neg fun e => h e.1
theorem zc_J {v k : Nat} {y : Int32} {e : zv_C} (he : zcM b (zJ M v k y) (zmof v) = e) : zv_st (zc w b C M r) (b + zmof v) e = zc w b C (zJ M v k y) r := zc_setM zJ_ne (fun _ _ => rfl) he
theorem zc_K {v k : Nat} {y : Int64} {e : zv_C} (he : zcM b (zK M v k y) (zmof v) = e) : zv_st (zc w b C M r) (b + zmof v) e = zc w b C (zK M v k y) r := zc_setM (fun _ _ => rfl) zK_ne he
theorem zn_lt {n L : Nat} (h : n < L) (hL : L ≤ 100000) : ¬ (Int32.ofNat n < 0 ∨ L ≤ (Int32.ofNat n).toNatClampNeg) ∧ (Int32.ofNat n).toNatClampNeg = n ∧ ¬ (Int32.ofNat n < 0 ∨ L ≤ n) := by
  have h0 : (Int32.ofNat n).toInt = (n : Int) := by
    rw [Int32.toInt_ofNat_of_lt (by omega)]
  have e : (Int32.ofNat n).toNatClampNeg = n := by
    show (Int32.ofNat n).toInt.toNat = n
    rw [h0]; rfl
  have h9 : ¬ (Int32.ofNat n < 0 ∨ L ≤ n) := by
   rintro (h1 | h1)
   · rw [Int32.lt_iff_toInt_lt, h0] at h1
     have : (0 : Int32).toInt = 0 := rfl
     omega
   · omega
  exact ⟨by rw [e]; exact h9, e, h9⟩
theorem zupd (g : Nat → Int32) (k : Nat) (v : Int32) : upd g k v = fun q => if q = k then v else g q := rfl
theorem zI_row {o k : Nat} {v : Int32} : (zI C o k v).1 o = upd (C.1 o) k v := funext fun q => by
  show (if o = o ∧ q = k then v else C.1 o q) = if q = k then v else C.1 o q
  by_cases h : q = k
  · rw [if_pos ⟨rfl, h⟩, if_pos h]
  · rw [if_neg (fun e => h e.2), if_neg h]
theorem zL_row {o k : Nat} {v : Int64} : (zL C o k v).2.1 o = vp_updL (C.2.1 o) k v := funext fun q => by
  show (if o = o ∧ q = k then v else C.2.1 o q) = if q = k then v else C.2.1 o q
  by_cases h : q = k
  · rw [if_pos ⟨rfl, h⟩, if_pos h]
  · rw [if_neg (fun e => h e.2), if_neg h]
theorem zJ_row {o k : Nat} {v : Int32} : (zJ M o k v).1 o = upd (M.1 o) k v := funext fun q => by
  show (if o = o ∧ q = k then v else M.1 o q) = if q = k then v else M.1 o q
  by_cases h : q = k
  · rw [if_pos ⟨rfl, h⟩, if_pos h]
  · rw [if_neg (fun e => h e.2), if_neg h]
theorem zK_row {o k : Nat} {v : Int64} : (zK M o k v).2 o = vp_updL (M.2 o) k v := funext fun q => by
  show (if o = o ∧ q = k then v else M.2 o q) = if q = k then v else M.2 o q
  by_cases h : q = k
  · rw [if_pos ⟨rfl, h⟩, if_pos h]
  · rw [if_neg (fun e => h e.2), if_neg h]
/-- operations on arrays, by what the cell is -/
theorem zo_aI {x : zv_X} {a L n : Nat} {g : Nat → Int32} (h : x.1 a = some (.inl (0, L, .inl g))) (hn : n < L) (hL : L ≤ 100000) : zm_aI x a (Int32.ofNat n) = some (g n) := by
  unfold zm_aI; rw [h]; have e := zn_lt hn hL; simp only [e.2.1, if_neg e.2.2]
theorem zo_sI {x : zv_X} {a L n : Nat} {g : Nat → Int32} {v : Int32} (h : x.1 a = some (.inl (0, L, .inl g))) (hn : n < L) (hL : L ≤ 100000) : zm_sI x a (Int32.ofNat n) v = some (zv_st x a (.inl (0, L, .inl (upd g n v)))) := by
  unfold zm_sI; rw [h]; have e := zn_lt hn hL; simp only [e.2.1, if_neg e.2.2]
theorem zo_aL {x : zv_X} {a L n : Nat} {g : Nat → Int64} (h : x.1 a = some (.inl (1, L, .inr (.inl g)))) (hn : n < L) (hL : L ≤ 100000) : zm_aL x a (Int32.ofNat n) = some (g n) := by
  unfold zm_aL; rw [h]; have e := zn_lt hn hL; simp only [e.2.1, if_neg e.2.2]
theorem zo_sL {x : zv_X} {a L n : Nat} {g : Nat → Int64} {v : Int64} (h : x.1 a = some (.inl (1, L, .inr (.inl g)))) (hn : n < L) (hL : L ≤ 100000) : zm_sL x a (Int32.ofNat n) v = some (zv_st x a (.inl (1, L, .inr (.inl (vp_updL g n v))))) := by
  unfold zm_sL; rw [h]; have e := zn_lt hn hL; simp only [e.2.1, if_neg e.2.2]
theorem zo_aB {x : zv_X} {a L n t : Nat} {g : Nat → Int32} (ht : t = 2 ∨ t = 3) (h : x.1 a = some (.inl (t, L, .inl g))) (hn : n < L) (hL : L ≤ 100000) : zm_aB x a (Int32.ofNat n) = some (g n) := by
  have e := zn_lt hn hL
  rcases ht with rfl | rfl <;> (unfold zm_aB; rw [h]; simp only [e.2.1, if_neg e.2.2])
theorem zo_sB {x : zv_X} {a L n : Nat} {g : Nat → Int32} {v : Int32} (h : x.1 a = some (.inl (2, L, .inl g))) (hn : n < L) (hL : L ≤ 100000) : zm_sB x a (Int32.ofNat n) v = some (zv_st x a (.inl (2, L, .inl (upd g n v.toInt8.toInt32)))) := by
  unfold zm_sB; rw [h]; have e := zn_lt hn hL; simp only [e.2.1, if_neg e.2.2]
theorem zo_sZ {x : zv_X} {a L n : Nat} {g : Nat → Int32} {v : Int32} (hv : v = 0 ∨ v = 1) (h : x.1 a = some (.inl (3, L, .inl g))) (hn : n < L) (hL : L ≤ 100000) : zm_sB x a (Int32.ofNat n) v = some (zv_st x a (.inl (3, L, .inl (upd g n v)))) := by
  unfold zm_sB; rw [h]; have e := zn_lt hn hL; simp only [e.2.1, if_neg e.2.2, if_pos hv]
theorem zo_g {x : zv_X} {a ci k : Nat} {fs : List Value} (h : x.1 a = some (.inr (ci, fs))) : zm_f x a ci k = fs[k]? := by
  unfold zm_f; rw [h]; simp only [if_true]
theorem zo_p {x : zv_X} {a ci k : Nat} {fs : List Value} {v : Value} (h : x.1 a = some (.inr (ci, fs))) (hk : k < fs.length) : zm_p x a ci k v = some (zv_st x a (.inr (ci, fs.set k v))) := by
  unfold zm_p; rw [h]; simp only [true_and, if_pos hk]
theorem zo_k {x : zv_X} {a ci : Nat} {fs : List Value} (h : x.1 a = some (.inr (ci, fs))) : zm_k x a ci = true := by
  unfold zm_k; rw [h]; exact beq_self_eq_true ci
theorem zo_n {x : zv_X} {a t L : Nat} {g : (Nat → Int32) ⊕ (Nat → Int64) ⊕ (Nat → UInt32) ⊕ (Nat → UInt64) ⊕ (Nat → Option Nat)} (h : x.1 a = some (.inl (t, L, g))) (ht : t < 6) : zm_n x a = some (Int32.ofNat L) := by
  unfold zm_n; rw [h]; simp only [if_pos ht]

theorem zat_0 : (zc w b C M r).1 (b + 0) = some (zcC w b C 0) := zc_at 0 (by decide)
theorem zqk_0 : zm_k (zc w b C M r) (b + 0) 8 = true := zo_k zat_0
theorem zqg_0_0 : zm_R (zc w b C M r) (b + 0) 8 0 = some (b + 1) := by unfold zm_R; rw [zo_g zat_0]; rfl
theorem zqg_0_1 : zm_R (zc w b C M r) (b + 0) 8 1 = some (b + 5) := by unfold zm_R; rw [zo_g zat_0]; rfl
theorem zqg_0_2 : zm_R (zc w b C M r) (b + 0) 8 2 = some (b + 8) := by unfold zm_R; rw [zo_g zat_0]; rfl
theorem zqg_0_3 : zm_R (zc w b C M r) (b + 0) 8 3 = some (b + 9) := by unfold zm_R; rw [zo_g zat_0]; rfl
theorem zqg_0_4 : zm_R (zc w b C M r) (b + 0) 8 4 = some (b + 15) := by unfold zm_R; rw [zo_g zat_0]; rfl
theorem zat_1 : (zc w b C M r).1 (b + 1) = some (zcC w b C 1) := zc_at 1 (by decide)
theorem zqk_1 : zm_k (zc w b C M r) (b + 1) 7 = true := zo_k zat_1
theorem zqg_1_0 : zm_R (zc w b C M r) (b + 1) 7 0 = some (b + 2) := by unfold zm_R; rw [zo_g zat_1]; rfl
theorem zqg_1_1 : zm_R (zc w b C M r) (b + 1) 7 1 = some (b + 3) := by unfold zm_R; rw [zo_g zat_1]; rfl
theorem zqg_1_2 : zm_R (zc w b C M r) (b + 1) 7 2 = some (b + 4) := by unfold zm_R; rw [zo_g zat_1]; rfl
theorem zqg_1_3 : zm_I (zc w b C M r) (b + 1) 7 3 = some (C.1 1 3) := by unfold zm_I; rw [zo_g zat_1]; rfl
theorem zqp_1_3 (v : Int32) : zm_p (zc w b C M r) (b + 1) 7 3 (.int v) = some (zc w b (zI C 1 3 v) M r) := (zo_p zat_1 (Nat.le_of_ble_eq_true rfl)).trans (congrArg some (zc_I (v := 1) (Or.inl (by decide)) rfl))
theorem zat_2 : (zc w b C M r).1 (b + 2) = some (zcC w b C 2) := zc_at 2 (by decide)
theorem zqn_2 : zm_n (zc w b C M r) (b + 2) = some (Int32.ofNat 30) := zo_n zat_2 (by decide)
theorem zqa_2 {n : Nat} (h : n < 30) : zm_aI (zc w b C M r) (b + 2) (Int32.ofNat n) = some (C.1 2 n) := zo_aI zat_2 h (by decide)
theorem zqs_2 {n : Nat} {v : Int32} (h : n < 30) : zm_sI (zc w b C M r) (b + 2) (Int32.ofNat n) v = some (zc w b (zI C 2 n v) M r) := (zo_sI zat_2 h (by decide)).trans (congrArg some (zc_I (v := 2) (k := n) (y := v) (Or.inl (by decide)) (congrArg (fun g => Sum.inl (0, 30, Sum.inl g)) zI_row)))
theorem zat_3 : (zc w b C M r).1 (b + 3) = some (zcC w b C 3) := zc_at 3 (by decide)
theorem zqn_3 : zm_n (zc w b C M r) (b + 3) = some (Int32.ofNat 30) := zo_n zat_3 (by decide)
theorem zqa_3 {n : Nat} (h : n < 30) : zm_aI (zc w b C M r) (b + 3) (Int32.ofNat n) = some (C.1 3 n) := zo_aI zat_3 h (by decide)
theorem zqs_3 {n : Nat} {v : Int32} (h : n < 30) : zm_sI (zc w b C M r) (b + 3) (Int32.ofNat n) v = some (zc w b (zI C 3 n v) M r) := (zo_sI zat_3 h (by decide)).trans (congrArg some (zc_I (v := 3) (k := n) (y := v) (Or.inl (by decide)) (congrArg (fun g => Sum.inl (0, 30, Sum.inl g)) zI_row)))
theorem zat_4 : (zc w b C M r).1 (b + 4) = some (zcC w b C 4) := zc_at 4 (by decide)
theorem zqn_4 : zm_n (zc w b C M r) (b + 4) = some (Int32.ofNat 30) := zo_n zat_4 (by decide)
theorem zqa_4 {n : Nat} (h : n < 30) : zm_aI (zc w b C M r) (b + 4) (Int32.ofNat n) = some (C.1 4 n) := zo_aI zat_4 h (by decide)
theorem zqs_4 {n : Nat} {v : Int32} (h : n < 30) : zm_sI (zc w b C M r) (b + 4) (Int32.ofNat n) v = some (zc w b (zI C 4 n v) M r) := (zo_sI zat_4 h (by decide)).trans (congrArg some (zc_I (v := 4) (k := n) (y := v) (Or.inl (by decide)) (congrArg (fun g => Sum.inl (0, 30, Sum.inl g)) zI_row)))
theorem zat_5 : (zc w b C M r).1 (b + 5) = some (zcC w b C 5) := zc_at 5 (by decide)
theorem zqk_5 : zm_k (zc w b C M r) (b + 5) 0 = true := zo_k zat_5
theorem zqg_5_0 : zm_R (zc w b C M r) (b + 5) 0 0 = some (b + 6) := by unfold zm_R; rw [zo_g zat_5]; rfl
theorem zqg_5_1 : zm_R (zc w b C M r) (b + 5) 0 1 = some (b + 7) := by unfold zm_R; rw [zo_g zat_5]; rfl
theorem zqg_5_2 : zm_I (zc w b C M r) (b + 5) 0 2 = some (C.1 5 2) := by unfold zm_I; rw [zo_g zat_5]; rfl
theorem zqp_5_2 (v : Int32) : zm_p (zc w b C M r) (b + 5) 0 2 (.int v) = some (zc w b (zI C 5 2 v) M r) := (zo_p zat_5 (Nat.le_of_ble_eq_true rfl)).trans (congrArg some (zc_I (v := 5) (Or.inl (by decide)) rfl))
theorem zqg_5_3 : zm_I (zc w b C M r) (b + 5) 0 3 = some (C.1 5 3) := by unfold zm_I; rw [zo_g zat_5]; rfl
theorem zqp_5_3 (v : Int32) : zm_p (zc w b C M r) (b + 5) 0 3 (.int v) = some (zc w b (zI C 5 3 v) M r) := (zo_p zat_5 (Nat.le_of_ble_eq_true rfl)).trans (congrArg some (zc_I (v := 5) (Or.inl (by decide)) rfl))
theorem zat_6 : (zc w b C M r).1 (b + 6) = some (zcC w b C 6) := zc_at 6 (by decide)
theorem zqn_6 : zm_n (zc w b C M r) (b + 6) = some (Int32.ofNat 200) := zo_n zat_6 (by decide)
theorem zqa_6 {n : Nat} (h : n < 200) : zm_aB (zc w b C M r) (b + 6) (Int32.ofNat n) = some (C.1 6 n) := zo_aB (Or.inl rfl) zat_6 h (by decide)
theorem zqs_6 {n : Nat} {v : Int32} (h : n < 200) : zm_sB (zc w b C M r) (b + 6) (Int32.ofNat n) v = some (zc w b (zI C 6 n v.toInt8.toInt32) M r) := (zo_sB zat_6 h (by decide)).trans (congrArg some (zc_I (v := 6) (k := n) (y := v.toInt8.toInt32) (Or.inl (by decide)) (congrArg (fun g => Sum.inl (2, 200, Sum.inl g)) zI_row)))
theorem zat_7 : (zc w b C M r).1 (b + 7) = some (zcC w b C 7) := zc_at 7 (by decide)
theorem zqn_7 : zm_n (zc w b C M r) (b + 7) = some (Int32.ofNat 32) := zo_n zat_7 (by decide)
theorem zqa_7 {n : Nat} (h : n < 32) : zm_aI (zc w b C M r) (b + 7) (Int32.ofNat n) = some (C.1 7 n) := zo_aI zat_7 h (by decide)
theorem zqs_7 {n : Nat} {v : Int32} (h : n < 32) : zm_sI (zc w b C M r) (b + 7) (Int32.ofNat n) v = some (zc w b (zI C 7 n v) M r) := (zo_sI zat_7 h (by decide)).trans (congrArg some (zc_I (v := 7) (k := n) (y := v) (Or.inl (by decide)) (congrArg (fun g => Sum.inl (0, 32, Sum.inl g)) zI_row)))
theorem zat_8 : (zc w b C M r).1 (b + 8) = some (zcC w b C 8) := zc_at 8 (by decide)
theorem zqk_8 : zm_k (zc w b C M r) (b + 8) 5 = true := zo_k zat_8
theorem zqg_8_0 : zm_I (zc w b C M r) (b + 8) 5 0 = some (C.1 8 0) := by unfold zm_I; rw [zo_g zat_8]; rfl
theorem zqp_8_0 (v : Int32) : zm_p (zc w b C M r) (b + 8) 5 0 (.int v) = some (zc w b (zI C 8 0 v) M r) := (zo_p zat_8 (Nat.le_of_ble_eq_true rfl)).trans (congrArg some (zc_I (v := 8) (Or.inl (by decide)) rfl))
theorem zqg_8_1 {a : Nat} (h : C.2.2 8 1 = .ref a) : zm_R (zc w b C M r) (b + 8) 5 1 = some a := by unfold zm_R; rw [zo_g zat_8]; show (match (some (C.2.2 8 1) : Option Value) with | some (.ref v) => some v | _ => none) = _; rw [h]
theorem zqp_8_1 (v : Nat) : zm_p (zc w b C M r) (b + 8) 5 1 (.ref v) = some (zc w b (zV C 8 1 (.ref v)) M r) := (zo_p zat_8 (Nat.le_of_ble_eq_true rfl)).trans (congrArg some (zc_V (v := 8) (Or.inl (by decide)) rfl))
theorem zqg_8_2 : zm_I (zc w b C M r) (b + 8) 5 2 = some (C.1 8 2) := by unfold zm_I; rw [zo_g zat_8]; rfl
theorem zqp_8_2 (v : Int32) : zm_p (zc w b C M r) (b + 8) 5 2 (.int v) = some (zc w b (zI C 8 2 v) M r) := (zo_p zat_8 (Nat.le_of_ble_eq_true rfl)).trans (congrArg some (zc_I (v := 8) (Or.inl (by decide)) rfl))
theorem zat_9 : (zc w b C M r).1 (b + 9) = some (zcC w b C 9) := zc_at 9 (by decide)
theorem zqk_9 : zm_k (zc w b C M r) (b + 9) 3 = true := zo_k zat_9
theorem zqg_9_0 : zm_R (zc w b C M r) (b + 9) 3 0 = some (b + 1) := by unfold zm_R; rw [zo_g zat_9]; rfl
theorem zqg_9_1 : zm_R (zc w b C M r) (b + 9) 3 1 = some (b + 8) := by unfold zm_R; rw [zo_g zat_9]; rfl
theorem zqg_9_2 : zm_R (zc w b C M r) (b + 9) 3 2 = some (b + 10) := by unfold zm_R; rw [zo_g zat_9]; rfl
theorem zqg_9_3 : zm_R (zc w b C M r) (b + 9) 3 3 = some (b + 11) := by unfold zm_R; rw [zo_g zat_9]; rfl
theorem zqg_9_4 : zm_R (zc w b C M r) (b + 9) 3 4 = some (b + 12) := by unfold zm_R; rw [zo_g zat_9]; rfl
theorem zqg_9_5 : zm_R (zc w b C M r) (b + 9) 3 5 = some (b + 13) := by unfold zm_R; rw [zo_g zat_9]; rfl
theorem zqg_9_6 : zm_R (zc w b C M r) (b + 9) 3 6 = some (b + 14) := by unfold zm_R; rw [zo_g zat_9]; rfl
theorem zqg_9_7 : zm_I (zc w b C M r) (b + 9) 3 7 = some (C.1 9 7) := by unfold zm_I; rw [zo_g zat_9]; rfl
theorem zqp_9_7 (v : Int32) : zm_p (zc w b C M r) (b + 9) 3 7 (.int v) = some (zc w b (zI C 9 7 v) M r) := (zo_p zat_9 (Nat.le_of_ble_eq_true rfl)).trans (congrArg some (zc_I (v := 9) (Or.inl (by decide)) rfl))
theorem zqg_9_8 {a : Nat} (h : C.2.2 9 8 = .ref a) : zm_R (zc w b C M r) (b + 9) 3 8 = some a := by unfold zm_R; rw [zo_g zat_9]; show (match (some (C.2.2 9 8) : Option Value) with | some (.ref v) => some v | _ => none) = _; rw [h]
theorem zqp_9_8 (v : Nat) : zm_p (zc w b C M r) (b + 9) 3 8 (.ref v) = some (zc w b (zV C 9 8 (.ref v)) M r) := (zo_p zat_9 (Nat.le_of_ble_eq_true rfl)).trans (congrArg some (zc_V (v := 9) (Or.inl (by decide)) rfl))
theorem zqg_9_9 : zm_I (zc w b C M r) (b + 9) 3 9 = some (C.1 9 9) := by unfold zm_I; rw [zo_g zat_9]; rfl
theorem zqp_9_9 (v : Int32) : zm_p (zc w b C M r) (b + 9) 3 9 (.int v) = some (zc w b (zI C 9 9 v) M r) := (zo_p zat_9 (Nat.le_of_ble_eq_true rfl)).trans (congrArg some (zc_I (v := 9) (Or.inl (by decide)) rfl))
theorem zqg_9_10 : zm_I (zc w b C M r) (b + 9) 3 10 = some (C.1 9 10) := by unfold zm_I; rw [zo_g zat_9]; rfl
theorem zqp_9_10 (v : Int32) : zm_p (zc w b C M r) (b + 9) 3 10 (.int v) = some (zc w b (zI C 9 10 v) M r) := (zo_p zat_9 (Nat.le_of_ble_eq_true rfl)).trans (congrArg some (zc_I (v := 9) (Or.inl (by decide)) rfl))
theorem zqg_9_11 : zm_I (zc w b C M r) (b + 9) 3 11 = some (C.1 9 11) := by unfold zm_I; rw [zo_g zat_9]; rfl
theorem zqp_9_11 (v : Int32) : zm_p (zc w b C M r) (b + 9) 3 11 (.int v) = some (zc w b (zI C 9 11 v) M r) := (zo_p zat_9 (Nat.le_of_ble_eq_true rfl)).trans (congrArg some (zc_I (v := 9) (Or.inl (by decide)) rfl))
theorem zat_10 : (zc w b C M r).1 (b + 10) = some (zcC w b C 10) := zc_at 10 (by decide)
theorem zqn_10 : zm_n (zc w b C M r) (b + 10) = some (Int32.ofNat 200) := zo_n zat_10 (by decide)
theorem zqa_10 {n : Nat} (h : n < 200) : zm_aB (zc w b C M r) (b + 10) (Int32.ofNat n) = some (C.1 10 n) := zo_aB (Or.inr rfl) zat_10 h (by decide)
theorem zqs_10 {n : Nat} {v : Int32} (hv : v = 0 ∨ v = 1) (h : n < 200) : zm_sB (zc w b C M r) (b + 10) (Int32.ofNat n) v = some (zc w b (zI C 10 n v) M r) := (zo_sZ hv zat_10 h (by decide)).trans (congrArg some (zc_I (v := 10) (k := n) (y := v) (Or.inl (by decide)) (congrArg (fun g => Sum.inl (3, 200, Sum.inl g)) zI_row)))
theorem zat_11 : (zc w b C M r).1 (b + 11) = some (zcC w b C 11) := zc_at 11 (by decide)
theorem zqn_11 : zm_n (zc w b C M r) (b + 11) = some (Int32.ofNat 200) := zo_n zat_11 (by decide)
theorem zqa_11 {n : Nat} (h : n < 200) : zm_aB (zc w b C M r) (b + 11) (Int32.ofNat n) = some (C.1 11 n) := zo_aB (Or.inr rfl) zat_11 h (by decide)
theorem zqs_11 {n : Nat} {v : Int32} (hv : v = 0 ∨ v = 1) (h : n < 200) : zm_sB (zc w b C M r) (b + 11) (Int32.ofNat n) v = some (zc w b (zI C 11 n v) M r) := (zo_sZ hv zat_11 h (by decide)).trans (congrArg some (zc_I (v := 11) (k := n) (y := v) (Or.inl (by decide)) (congrArg (fun g => Sum.inl (3, 200, Sum.inl g)) zI_row)))
theorem zat_12 : (zc w b C M r).1 (b + 12) = some (zcC w b C 12) := zc_at 12 (by decide)
theorem zqn_12 : zm_n (zc w b C M r) (b + 12) = some (Int32.ofNat 200) := zo_n zat_12 (by decide)
theorem zqa_12 {n : Nat} (h : n < 200) : zm_aI (zc w b C M r) (b + 12) (Int32.ofNat n) = some (C.1 12 n) := zo_aI zat_12 h (by decide)
theorem zqs_12 {n : Nat} {v : Int32} (h : n < 200) : zm_sI (zc w b C M r) (b + 12) (Int32.ofNat n) v = some (zc w b (zI C 12 n v) M r) := (zo_sI zat_12 h (by decide)).trans (congrArg some (zc_I (v := 12) (k := n) (y := v) (Or.inl (by decide)) (congrArg (fun g => Sum.inl (0, 200, Sum.inl g)) zI_row)))
theorem zat_13 : (zc w b C M r).1 (b + 13) = some (zcC w b C 13) := zc_at 13 (by decide)
theorem zqn_13 : zm_n (zc w b C M r) (b + 13) = some (Int32.ofNat 200) := zo_n zat_13 (by decide)
theorem zqa_13 {n : Nat} (h : n < 200) : zm_aI (zc w b C M r) (b + 13) (Int32.ofNat n) = some (C.1 13 n) := zo_aI zat_13 h (by decide)
theorem zqs_13 {n : Nat} {v : Int32} (h : n < 200) : zm_sI (zc w b C M r) (b + 13) (Int32.ofNat n) v = some (zc w b (zI C 13 n v) M r) := (zo_sI zat_13 h (by decide)).trans (congrArg some (zc_I (v := 13) (k := n) (y := v) (Or.inl (by decide)) (congrArg (fun g => Sum.inl (0, 200, Sum.inl g)) zI_row)))
theorem zat_14 : (zc w b C M r).1 (b + 14) = some (zcC w b C 14) := zc_at 14 (by decide)
theorem zqn_14 : zm_n (zc w b C M r) (b + 14) = some (Int32.ofNat 200) := zo_n zat_14 (by decide)
theorem zqa_14 {n : Nat} (h : n < 200) : zm_aI (zc w b C M r) (b + 14) (Int32.ofNat n) = some (C.1 14 n) := zo_aI zat_14 h (by decide)
theorem zqs_14 {n : Nat} {v : Int32} (h : n < 200) : zm_sI (zc w b C M r) (b + 14) (Int32.ofNat n) v = some (zc w b (zI C 14 n v) M r) := (zo_sI zat_14 h (by decide)).trans (congrArg some (zc_I (v := 14) (k := n) (y := v) (Or.inl (by decide)) (congrArg (fun g => Sum.inl (0, 200, Sum.inl g)) zI_row)))
theorem zat_15 : (zc w b C M r).1 (b + 15) = some (zcC w b C 15) := zc_at 15 (by decide)
theorem zqk_15 : zm_k (zc w b C M r) (b + 15) 4 = true := zo_k zat_15
theorem zqg_15_0 : zm_R (zc w b C M r) (b + 15) 4 0 = some (b + 1) := by unfold zm_R; rw [zo_g zat_15]; rfl
theorem zqg_15_1 : zm_R (zc w b C M r) (b + 15) 4 1 = some (b + 8) := by unfold zm_R; rw [zo_g zat_15]; rfl
theorem zqg_15_2 : zm_R (zc w b C M r) (b + 15) 4 2 = some (b + 16) := by unfold zm_R; rw [zo_g zat_15]; rfl
theorem zqg_15_3 : zm_I (zc w b C M r) (b + 15) 4 3 = some (C.1 15 3) := by unfold zm_I; rw [zo_g zat_15]; rfl
theorem zqp_15_3 (v : Int32) : zm_p (zc w b C M r) (b + 15) 4 3 (.int v) = some (zc w b (zI C 15 3 v) M r) := (zo_p zat_15 (Nat.le_of_ble_eq_true rfl)).trans (congrArg some (zc_I (v := 15) (Or.inl (by decide)) rfl))
theorem zqg_15_4 : zm_R (zc w b C M r) (b + 15) 4 4 = some (b + 23) := by unfold zm_R; rw [zo_g zat_15]; rfl
theorem zqg_15_5 {a : Nat} (h : C.2.2 15 5 = .ref a) : zm_R (zc w b C M r) (b + 15) 4 5 = some a := by unfold zm_R; rw [zo_g zat_15]; show (match (some (C.2.2 15 5) : Option Value) with | some (.ref v) => some v | _ => none) = _; rw [h]
theorem zqp_15_5 (v : Nat) : zm_p (zc w b C M r) (b + 15) 4 5 (.ref v) = some (zc w b (zV C 15 5 (.ref v)) M r) := (zo_p zat_15 (Nat.le_of_ble_eq_true rfl)).trans (congrArg some (zc_V (v := 15) (Or.inl (by decide)) rfl))
theorem zqg_15_6 : zm_I (zc w b C M r) (b + 15) 4 6 = some (C.1 15 6) := by unfold zm_I; rw [zo_g zat_15]; rfl
theorem zqp_15_6 (v : Int32) : zm_p (zc w b C M r) (b + 15) 4 6 (.int v) = some (zc w b (zI C 15 6 v) M r) := (zo_p zat_15 (Nat.le_of_ble_eq_true rfl)).trans (congrArg some (zc_I (v := 15) (Or.inl (by decide)) rfl))
theorem zqg_15_7 : zm_I (zc w b C M r) (b + 15) 4 7 = some (C.1 15 7) := by unfold zm_I; rw [zo_g zat_15]; rfl
theorem zqp_15_7 (v : Int32) : zm_p (zc w b C M r) (b + 15) 4 7 (.int v) = some (zc w b (zI C 15 7 v) M r) := (zo_p zat_15 (Nat.le_of_ble_eq_true rfl)).trans (congrArg some (zc_I (v := 15) (Or.inl (by decide)) rfl))
theorem zqg_15_8 : zm_L (zc w b C M r) (b + 15) 4 8 = some (C.2.1 15 8) := by unfold zm_L; rw [zo_g zat_15]; rfl
theorem zqp_15_8 (v : Int64) : zm_p (zc w b C M r) (b + 15) 4 8 (.long v) = some (zc w b (zL C 15 8 v) M r) := (zo_p zat_15 (Nat.le_of_ble_eq_true rfl)).trans (congrArg some (zc_L (v := 15) (Or.inl (by decide)) rfl))
theorem zqg_15_9 : zm_I (zc w b C M r) (b + 15) 4 9 = some (C.1 15 9) := by unfold zm_I; rw [zo_g zat_15]; rfl
theorem zqp_15_9 (v : Int32) : zm_p (zc w b C M r) (b + 15) 4 9 (.int v) = some (zc w b (zI C 15 9 v) M r) := (zo_p zat_15 (Nat.le_of_ble_eq_true rfl)).trans (congrArg some (zc_I (v := 15) (Or.inl (by decide)) rfl))
theorem zqg_15_10 : zm_I (zc w b C M r) (b + 15) 4 10 = some (C.1 15 10) := by unfold zm_I; rw [zo_g zat_15]; rfl
theorem zqp_15_10 (v : Int32) : zm_p (zc w b C M r) (b + 15) 4 10 (.int v) = some (zc w b (zI C 15 10 v) M r) := (zo_p zat_15 (Nat.le_of_ble_eq_true rfl)).trans (congrArg some (zc_I (v := 15) (Or.inl (by decide)) rfl))
theorem zqg_15_11 : zm_I (zc w b C M r) (b + 15) 4 11 = some (C.1 15 11) := by unfold zm_I; rw [zo_g zat_15]; rfl
theorem zqp_15_11 (v : Int32) : zm_p (zc w b C M r) (b + 15) 4 11 (.int v) = some (zc w b (zI C 15 11 v) M r) := (zo_p zat_15 (Nat.le_of_ble_eq_true rfl)).trans (congrArg some (zc_I (v := 15) (Or.inl (by decide)) rfl))
theorem zat_16 : (zc w b C M r).1 (b + 16) = some (zcC w b C 16) := zc_at 16 (by decide)
theorem zqk_16 : zm_k (zc w b C M r) (b + 16) 2 = true := zo_k zat_16
theorem zqg_16_0 : zm_R (zc w b C M r) (b + 16) 2 0 = some (b + 1) := by unfold zm_R; rw [zo_g zat_16]; rfl
theorem zqg_16_1 : zm_R (zc w b C M r) (b + 16) 2 1 = some (b + 17) := by unfold zm_R; rw [zo_g zat_16]; rfl
theorem zqg_16_2 : zm_R (zc w b C M r) (b + 16) 2 2 = some (b + 18) := by unfold zm_R; rw [zo_g zat_16]; rfl
theorem zqg_16_3 : zm_R (zc w b C M r) (b + 16) 2 3 = some (b + 19) := by unfold zm_R; rw [zo_g zat_16]; rfl
theorem zqg_16_4 : zm_R (zc w b C M r) (b + 16) 2 4 = some (b + 20) := by unfold zm_R; rw [zo_g zat_16]; rfl
theorem zqg_16_5 : zm_R (zc w b C M r) (b + 16) 2 5 = some (b + 21) := by unfold zm_R; rw [zo_g zat_16]; rfl
theorem zqg_16_6 : zm_R (zc w b C M r) (b + 16) 2 6 = some (b + 22) := by unfold zm_R; rw [zo_g zat_16]; rfl
theorem zqg_16_7 : zm_I (zc w b C M r) (b + 16) 2 7 = some (C.1 16 7) := by unfold zm_I; rw [zo_g zat_16]; rfl
theorem zqp_16_7 (v : Int32) : zm_p (zc w b C M r) (b + 16) 2 7 (.int v) = some (zc w b (zI C 16 7 v) M r) := (zo_p zat_16 (Nat.le_of_ble_eq_true rfl)).trans (congrArg some (zc_I (v := 16) (Or.inl (by decide)) rfl))
theorem zqg_16_8 : zm_I (zc w b C M r) (b + 16) 2 8 = some (C.1 16 8) := by unfold zm_I; rw [zo_g zat_16]; rfl
theorem zqp_16_8 (v : Int32) : zm_p (zc w b C M r) (b + 16) 2 8 (.int v) = some (zc w b (zI C 16 8 v) M r) := (zo_p zat_16 (Nat.le_of_ble_eq_true rfl)).trans (congrArg some (zc_I (v := 16) (Or.inl (by decide)) rfl))
theorem zqg_16_9 : zm_I (zc w b C M r) (b + 16) 2 9 = some (C.1 16 9) := by unfold zm_I; rw [zo_g zat_16]; rfl
theorem zqp_16_9 (v : Int32) : zm_p (zc w b C M r) (b + 16) 2 9 (.int v) = some (zc w b (zI C 16 9 v) M r) := (zo_p zat_16 (Nat.le_of_ble_eq_true rfl)).trans (congrArg some (zc_I (v := 16) (Or.inl (by decide)) rfl))
theorem zqg_16_10 : zm_I (zc w b C M r) (b + 16) 2 10 = some (C.1 16 10) := by unfold zm_I; rw [zo_g zat_16]; rfl
theorem zqp_16_10 (v : Int32) : zm_p (zc w b C M r) (b + 16) 2 10 (.int v) = some (zc w b (zI C 16 10 v) M r) := (zo_p zat_16 (Nat.le_of_ble_eq_true rfl)).trans (congrArg some (zc_I (v := 16) (Or.inl (by decide)) rfl))
theorem zat_17 : (zc w b C M r).1 (b + 17) = some (zcC w b C 17) := zc_at 17 (by decide)
theorem zqn_17 : zm_n (zc w b C M r) (b + 17) = some (Int32.ofNat w) := zo_n zat_17 (by decide)
theorem zqa_17 (hw : w ≤ 400) {n : Nat} (h : n < w) : zm_aI (zc w b C M r) (b + 17) (Int32.ofNat n) = some (C.1 17 n) := zo_aI zat_17 h (by omega)
theorem zqs_17 (hw : w ≤ 400) {n : Nat} {v : Int32} (h : n < w) : zm_sI (zc w b C M r) (b + 17) (Int32.ofNat n) v = some (zc w b (zI C 17 n v) M r) := (zo_sI zat_17 h (by omega)).trans (congrArg some (zc_I (v := 17) (k := n) (y := v) (Or.inl (by decide)) (congrArg (fun g => Sum.inl (0, w, Sum.inl g)) zI_row)))
theorem zat_18 : (zc w b C M r).1 (b + 18) = some (zcC w b C 18) := zc_at 18 (by decide)
theorem zqn_18 : zm_n (zc w b C M r) (b + 18) = some (Int32.ofNat (w / 2 + 1)) := zo_n zat_18 (by decide)
theorem zqa_18 (hw : w ≤ 400) {n : Nat} (h : n < (w / 2 + 1)) : zm_aI (zc w b C M r) (b + 18) (Int32.ofNat n) = some (C.1 18 n) := zo_aI zat_18 h (by omega)
theorem zqs_18 (hw : w ≤ 400) {n : Nat} {v : Int32} (h : n < (w / 2 + 1)) : zm_sI (zc w b C M r) (b + 18) (Int32.ofNat n) v = some (zc w b (zI C 18 n v) M r) := (zo_sI zat_18 h (by omega)).trans (congrArg some (zc_I (v := 18) (k := n) (y := v) (Or.inl (by decide)) (congrArg (fun g => Sum.inl (0, (w / 2 + 1), Sum.inl g)) zI_row)))
theorem zat_19 : (zc w b C M r).1 (b + 19) = some (zcC w b C 19) := zc_at 19 (by decide)
theorem zqn_19 : zm_n (zc w b C M r) (b + 19) = some (Int32.ofNat (w / 2 + 1)) := zo_n zat_19 (by decide)
theorem zqa_19 (hw : w ≤ 400) {n : Nat} (h : n < (w / 2 + 1)) : zm_aI (zc w b C M r) (b + 19) (Int32.ofNat n) = some (C.1 19 n) := zo_aI zat_19 h (by omega)
theorem zqs_19 (hw : w ≤ 400) {n : Nat} {v : Int32} (h : n < (w / 2 + 1)) : zm_sI (zc w b C M r) (b + 19) (Int32.ofNat n) v = some (zc w b (zI C 19 n v) M r) := (zo_sI zat_19 h (by omega)).trans (congrArg some (zc_I (v := 19) (k := n) (y := v) (Or.inl (by decide)) (congrArg (fun g => Sum.inl (0, (w / 2 + 1), Sum.inl g)) zI_row)))
theorem zat_20 : (zc w b C M r).1 (b + 20) = some (zcC w b C 20) := zc_at 20 (by decide)
theorem zqn_20 : zm_n (zc w b C M r) (b + 20) = some (Int32.ofNat (w / 2 + 1)) := zo_n zat_20 (by decide)
theorem zqa_20 (hw : w ≤ 400) {n : Nat} (h : n < (w / 2 + 1)) : zm_aI (zc w b C M r) (b + 20) (Int32.ofNat n) = some (C.1 20 n) := zo_aI zat_20 h (by omega)
theorem zqs_20 (hw : w ≤ 400) {n : Nat} {v : Int32} (h : n < (w / 2 + 1)) : zm_sI (zc w b C M r) (b + 20) (Int32.ofNat n) v = some (zc w b (zI C 20 n v) M r) := (zo_sI zat_20 h (by omega)).trans (congrArg some (zc_I (v := 20) (k := n) (y := v) (Or.inl (by decide)) (congrArg (fun g => Sum.inl (0, (w / 2 + 1), Sum.inl g)) zI_row)))
theorem zat_21 : (zc w b C M r).1 (b + 21) = some (zcC w b C 21) := zc_at 21 (by decide)
theorem zqn_21 : zm_n (zc w b C M r) (b + 21) = some (Int32.ofNat (w / 2)) := zo_n zat_21 (by decide)
theorem zqa_21 (hw : w ≤ 400) {n : Nat} (h : n < (w / 2)) : zm_aI (zc w b C M r) (b + 21) (Int32.ofNat n) = some (C.1 21 n) := zo_aI zat_21 h (by omega)
theorem zqs_21 (hw : w ≤ 400) {n : Nat} {v : Int32} (h : n < (w / 2)) : zm_sI (zc w b C M r) (b + 21) (Int32.ofNat n) v = some (zc w b (zI C 21 n v) M r) := (zo_sI zat_21 h (by omega)).trans (congrArg some (zc_I (v := 21) (k := n) (y := v) (Or.inl (by decide)) (congrArg (fun g => Sum.inl (0, (w / 2), Sum.inl g)) zI_row)))
theorem zat_22 : (zc w b C M r).1 (b + 22) = some (zcC w b C 22) := zc_at 22 (by decide)
theorem zqn_22 : zm_n (zc w b C M r) (b + 22) = some (Int32.ofNat (w / 2)) := zo_n zat_22 (by decide)
theorem zqa_22 (hw : w ≤ 400) {n : Nat} (h : n < (w / 2)) : zm_aI (zc w b C M r) (b + 22) (Int32.ofNat n) = some (C.1 22 n) := zo_aI zat_22 h (by omega)
theorem zqs_22 (hw : w ≤ 400) {n : Nat} {v : Int32} (h : n < (w / 2)) : zm_sI (zc w b C M r) (b + 22) (Int32.ofNat n) v = some (zc w b (zI C 22 n v) M r) := (zo_sI zat_22 h (by omega)).trans (congrArg some (zc_I (v := 22) (k := n) (y := v) (Or.inl (by decide)) (congrArg (fun g => Sum.inl (0, (w / 2), Sum.inl g)) zI_row)))
theorem zat_23 : (zc w b C M r).1 (b + 23) = some (zcC w b C 23) := zc_at 23 (by decide)
theorem zqa_23 {n : Nat} (h : n < 16) : zm_aR (zc w b C M r) (b + 23) (Int32.ofNat n) = some (b + (3 * n + 27)) := by unfold zm_aR; rw [zat_23]; have e := zn_lt h (by decide); show (if (5 = 4 ∨ 5 = 5) ∧ ¬ ((Int32.ofNat n) < 0 ∨ 16 ≤ (Int32.ofNat n).toNatClampNeg) then (if (Int32.ofNat n).toNatClampNeg < 16 then some (b + (3 * (Int32.ofNat n).toNatClampNeg + 27)) else none) else none) = _; rw [if_pos ⟨Or.inr rfl, e.1⟩, e.2.1, if_pos h]
theorem zat_24 : (zc w b C M r).1 (b + 24) = some (zcC w b C 24) := zc_at 24 (by decide)
theorem zqk_24 : zm_k (zc w b C M r) (b + 24) 6 = true := zo_k zat_24
theorem zqg_24_0 : zm_R (zc w b C M r) (b + 24) 6 0 = some (b + 25) := by unfold zm_R; rw [zo_g zat_24]; rfl
theorem zqg_24_1 : zm_R (zc w b C M r) (b + 24) 6 1 = some (b + 26) := by unfold zm_R; rw [zo_g zat_24]; rfl
theorem zqg_24_2 : zm_I (zc w b C M r) (b + 24) 6 2 = some (C.1 24 2) := by unfold zm_I; rw [zo_g zat_24]; rfl
theorem zqp_24_2 (v : Int32) : zm_p (zc w b C M r) (b + 24) 6 2 (.int v) = some (zc w b (zI C 24 2 v) M r) := (zo_p zat_24 (Nat.le_of_ble_eq_true rfl)).trans (congrArg some (zc_I (v := 24) (Or.inl (by decide)) rfl))
theorem zqg_24_3 : zm_I (zc w b C M r) (b + 24) 6 3 = some (C.1 24 3) := by unfold zm_I; rw [zo_g zat_24]; rfl
theorem zqp_24_3 (v : Int32) : zm_p (zc w b C M r) (b + 24) 6 3 (.int v) = some (zc w b (zI C 24 3 v) M r) := (zo_p zat_24 (Nat.le_of_ble_eq_true rfl)).trans (congrArg some (zc_I (v := 24) (Or.inl (by decide)) rfl))
theorem zqg_24_4 : zm_I (zc w b C M r) (b + 24) 6 4 = some (C.1 24 4) := by unfold zm_I; rw [zo_g zat_24]; rfl
theorem zqp_24_4 (v : Int32) : zm_p (zc w b C M r) (b + 24) 6 4 (.int v) = some (zc w b (zI C 24 4 v) M r) := (zo_p zat_24 (Nat.le_of_ble_eq_true rfl)).trans (congrArg some (zc_I (v := 24) (Or.inl (by decide)) rfl))
theorem zqg_24_5 : zm_I (zc w b C M r) (b + 24) 6 5 = some (C.1 24 5) := by unfold zm_I; rw [zo_g zat_24]; rfl
theorem zqp_24_5 (v : Int32) : zm_p (zc w b C M r) (b + 24) 6 5 (.int v) = some (zc w b (zI C 24 5 v) M r) := (zo_p zat_24 (Nat.le_of_ble_eq_true rfl)).trans (congrArg some (zc_I (v := 24) (Or.inl (by decide)) rfl))
theorem zqg_24_6 : zm_I (zc w b C M r) (b + 24) 6 6 = some (C.1 24 6) := by unfold zm_I; rw [zo_g zat_24]; rfl
theorem zqp_24_6 (v : Int32) : zm_p (zc w b C M r) (b + 24) 6 6 (.int v) = some (zc w b (zI C 24 6 v) M r) := (zo_p zat_24 (Nat.le_of_ble_eq_true rfl)).trans (congrArg some (zc_I (v := 24) (Or.inl (by decide)) rfl))
theorem zat_25 : (zc w b C M r).1 (b + 25) = some (zcC w b C 25) := zc_at 25 (by decide)
theorem zqn_25 : zm_n (zc w b C M r) (b + 25) = some (Int32.ofNat 0) := zo_n zat_25 (by decide)
theorem zqa_25 {n : Nat} (h : n < 0) : zm_aB (zc w b C M r) (b + 25) (Int32.ofNat n) = some (C.1 25 n) := zo_aB (Or.inl rfl) zat_25 h (by decide)
theorem zqs_25 {n : Nat} {v : Int32} (h : n < 0) : zm_sB (zc w b C M r) (b + 25) (Int32.ofNat n) v = some (zc w b (zI C 25 n v.toInt8.toInt32) M r) := (zo_sB zat_25 h (by decide)).trans (congrArg some (zc_I (v := 25) (k := n) (y := v.toInt8.toInt32) (Or.inl (by decide)) (congrArg (fun g => Sum.inl (2, 0, Sum.inl g)) zI_row)))
theorem zat_26 : (zc w b C M r).1 (b + 26) = some (zcC w b C 26) := zc_at 26 (by decide)
theorem zqn_26 : zm_n (zc w b C M r) (b + 26) = some (Int32.ofNat 0) := zo_n zat_26 (by decide)
theorem zqa_26 {n : Nat} (h : n < 0) : zm_aI (zc w b C M r) (b + 26) (Int32.ofNat n) = some (C.1 26 n) := zo_aI zat_26 h (by decide)
theorem zqs_26 {n : Nat} {v : Int32} (h : n < 0) : zm_sI (zc w b C M r) (b + 26) (Int32.ofNat n) v = some (zc w b (zI C 26 n v) M r) := (zo_sI zat_26 h (by decide)).trans (congrArg some (zc_I (v := 26) (k := n) (y := v) (Or.inl (by decide)) (congrArg (fun g => Sum.inl (0, 0, Sum.inl g)) zI_row)))
theorem zcell_0 {f : Nat} (h : f < 16) : zcell w b C M (3 * f + 27) = zcF b C f 0 := by unfold zcell; rw [if_neg (by omega), if_pos (by omega), show (3 * f + 27 - 27) / 3 = f by omega, show (3 * f + 27 - 27) % 3 = 0 by omega]
theorem zatF_0 {f : Nat} (h : f < 16) : (zc w b C M r).1 (b + (3 * f + 27)) = some (zcF b C f 0) := (zc_at _ (by omega)).trans (congrArg some (zcell_0 h))
theorem zcell_1 {f : Nat} (h : f < 16) : zcell w b C M (3 * f + 28) = zcF b C f 1 := by unfold zcell; rw [if_neg (by omega), if_pos (by omega), show (3 * f + 28 - 27) / 3 = f by omega, show (3 * f + 28 - 27) % 3 = 1 by omega]
theorem zatF_1 {f : Nat} (h : f < 16) : (zc w b C M r).1 (b + (3 * f + 28)) = some (zcF b C f 1) := (zc_at _ (by omega)).trans (congrArg some (zcell_1 h))
theorem zcell_2 {f : Nat} (h : f < 16) : zcell w b C M (3 * f + 29) = zcF b C f 2 := by unfold zcell; rw [if_neg (by omega), if_pos (by omega), show (3 * f + 29 - 27) / 3 = f by omega, show (3 * f + 29 - 27) % 3 = 2 by omega]
theorem zatF_2 {f : Nat} (h : f < 16) : (zc w b C M r).1 (b + (3 * f + 29)) = some (zcF b C f 2) := (zc_at _ (by omega)).trans (congrArg some (zcell_2 h))
theorem zcof_0 {f : Nat} (h : f < 16) : zcof (f + 100) = 3 * f + 27 := by unfold zcof; split <;> (try split) <;> (try split) <;> omega
theorem zcof_1 {f : Nat} (h : f < 16) : zcof (f + 120) = 3 * f + 28 := by unfold zcof; split <;> (try split) <;> (try split) <;> omega
theorem zcof_2 {f : Nat} (h : f < 16) : zcof (f + 140) = 3 * f + 29 := by unfold zcof; split <;> (try split) <;> (try split) <;> omega
theorem zqkF {f : Nat} (h : f < 16) : zm_k (zc w b C M r) (b + (3 * f + 27)) 1 = true := zo_k (zatF_0 h)
theorem zqgF_0 {f : Nat} (h : f < 16) : zm_R (zc w b C M r) (b + (3 * f + 27)) 1 0 = some (b + (3 * f + 28)) := by unfold zm_R; rw [zo_g (zatF_0 h)]; rfl
theorem zqgF_1 {f : Nat} (h : f < 16) : zm_R (zc w b C M r) (b + (3 * f + 27)) 1 1 = some (b + (3 * f + 29)) := by unfold zm_R; rw [zo_g (zatF_0 h)]; rfl
theorem zqgF_2 {f : Nat} (h : f < 16) : zm_I (zc w b C M r) (b + (3 * f + 27)) 1 2 = some (C.1 (f + 100) 2) := by unfold zm_I; rw [zo_g (zatF_0 h)]; rfl
theorem zqpF_2 {f : Nat} (h : f < 16) (v : Int32) : zm_p (zc w b C M r) (b + (3 * f + 27)) 1 2 (.int v) = some (zc w b (zI C (f + 100) 2 v) M r) := by rw [zo_p (zatF_0 h) (by show 2 < 5; decide)]; have e := zc_I (w := w) (b := b) (C := C) (M := M) (r := r) (v := f + 100) (k := 2) (y := v) (Or.inr (Or.inl ⟨by omega, by omega⟩)) rfl; rw [zcof_0 h, zcell_0 h] at e; rw [← e]; simp only [zcF, zI, List.set, and_self, if_true, and_true, and_false, true_and, if_false, reduceCtorEq, Nat.reduceEqDiff]
theorem zqgF_4 {f : Nat} (h : f < 16) : zm_I (zc w b C M r) (b + (3 * f + 27)) 1 4 = some (C.1 (f + 100) 4) := by unfold zm_I; rw [zo_g (zatF_0 h)]; rfl
theorem zqpF_4 {f : Nat} (h : f < 16) (v : Int32) : zm_p (zc w b C M r) (b + (3 * f + 27)) 1 4 (.int v) = some (zc w b (zI C (f + 100) 4 v) M r) := by rw [zo_p (zatF_0 h) (by show 4 < 5; decide)]; have e := zc_I (w := w) (b := b) (C := C) (M := M) (r := r) (v := f + 100) (k := 4) (y := v) (Or.inr (Or.inl ⟨by omega, by omega⟩)) rfl; rw [zcof_0 h, zcell_0 h] at e; rw [← e]; simp only [zcF, zI, List.set, and_self, if_true, and_true, and_false, true_and, if_false, reduceCtorEq, Nat.reduceEqDiff]
theorem zqgF_3 {f a : Nat} (h : f < 16) (e : C.2.2 (f + 100) 3 = .ref a) : zm_R (zc w b C M r) (b + (3 * f + 27)) 1 3 = some a := by unfold zm_R; rw [zo_g (zatF_0 h)]; show (match (some (C.2.2 (f + 100) 3) : Option Value) with | some (.ref v) => some v | _ => none) = _; rw [e]
theorem zqpF_3 {f : Nat} (h : f < 16) (v : Nat) : zm_p (zc w b C M r) (b + (3 * f + 27)) 1 3 (.ref v) = some (zc w b (zV C (f + 100) 3 (.ref v)) M r) := by rw [zo_p (zatF_0 h) (by show 3 < 5; decide)]; have e := zc_V (w := w) (b := b) (C := C) (M := M) (r := r) (v := f + 100) (k := 3) (y := .ref v) (Or.inr (Or.inl ⟨by omega, by omega⟩)) rfl; rw [zcof_0 h, zcell_0 h] at e; rw [← e]; simp only [zcF, zV, List.set, and_self, if_true]
theorem zqaF_1 {f n : Nat} (h : f < 16) (hn : n < 28) : zm_aL (zc w b C M r) (b + (3 * f + 28)) (Int32.ofNat n) = some (C.2.1 (f + 120) n) := zo_aL (zatF_1 h) hn (by decide)
theorem zqsF_1 {f n : Nat} {v : Int64} (h : f < 16) (hn : n < 28) : zm_sL (zc w b C M r) (b + (3 * f + 28)) (Int32.ofNat n) v = some (zc w b (zL C (f + 120) n v) M r) := by rw [zo_sL (zatF_1 h) hn (by decide)]; have e := zc_L (w := w) (b := b) (C := C) (M := M) (r := r) (v := f + 120) (k := n) (y := v) (Or.inr (Or.inr (Or.inl ⟨by omega, by omega⟩))) rfl; rw [zcof_1 h, zcell_1 h] at e; rw [← e, ← zL_row]; rfl
theorem zqaF_2 {f n : Nat} (h : f < 16) (hn : n < 28) : zm_aI (zc w b C M r) (b + (3 * f + 29)) (Int32.ofNat n) = some (C.1 (f + 140) n) := zo_aI (zatF_2 h) hn (by decide)
theorem zqsF_2 {f n : Nat} {v : Int32} (h : f < 16) (hn : n < 28) : zm_sI (zc w b C M r) (b + (3 * f + 29)) (Int32.ofNat n) v = some (zc w b (zI C (f + 140) n v) M r) := by rw [zo_sI (zatF_2 h) hn (by decide)]; have e := zc_I (w := w) (b := b) (C := C) (M := M) (r := r) (v := f + 140) (k := n) (y := v) (Or.inr (Or.inr (Or.inr ⟨by omega, by omega⟩))) rfl; rw [zcof_2 h, zcell_2 h] at e; rw [← e, ← zI_row]; rfl
theorem zqnF_2 {f : Nat} (h : f < 16) : zm_n (zc w b C M r) (b + (3 * f + 29)) = some (Int32.ofNat 28) := zo_n (zatF_2 h) (by decide)
theorem zat_75 : (zc w b C M r).1 (b + 75) = some (zcM b M 75) := zc_at 75 (by decide)
theorem zat_76 : (zc w b C M r).1 (b + 76) = some (zcM b M 76) := zc_at 76 (by decide)
theorem zat_77 : (zc w b C M r).1 (b + 77) = some (zcM b M 77) := zc_at 77 (by decide)
theorem zat_78 : (zc w b C M r).1 (b + 78) = some (zcM b M 78) := zc_at 78 (by decide)
theorem zat_79 : (zc w b C M r).1 (b + 79) = some (zcM b M 79) := zc_at 79 (by decide)
theorem zat_80 : (zc w b C M r).1 (b + 80) = some (zcM b M 80) := zc_at 80 (by decide)
theorem zat_81 : (zc w b C M r).1 (b + 81) = some (zcM b M 81) := zc_at 81 (by decide)
theorem zat_82 : (zc w b C M r).1 (b + 82) = some (zcM b M 82) := zc_at 82 (by decide)
theorem zat_83 : (zc w b C M r).1 (b + 83) = some (zcM b M 83) := zc_at 83 (by decide)
theorem zat_84 : (zc w b C M r).1 (b + 84) = some (zcM b M 84) := zc_at 84 (by decide)
theorem zat_85 : (zc w b C M r).1 (b + 85) = some (zcM b M 85) := zc_at 85 (by decide)
theorem zat_86 : (zc w b C M r).1 (b + 86) = some (zcM b M 86) := zc_at 86 (by decide)
theorem zat_87 : (zc w b C M r).1 (b + 87) = some (zcM b M 87) := zc_at 87 (by decide)
theorem zat_88 : (zc w b C M r).1 (b + 88) = some (zcM b M 88) := zc_at 88 (by decide)
theorem zat_89 : (zc w b C M r).1 (b + 89) = some (zcM b M 89) := zc_at 89 (by decide)
theorem zat_90 : (zc w b C M r).1 (b + 90) = some (zcM b M 90) := zc_at 90 (by decide)
theorem zat_91 : (zc w b C M r).1 (b + 91) = some (zcM b M 91) := zc_at 91 (by decide)
theorem zat_92 : (zc w b C M r).1 (b + 92) = some (zcM b M 92) := zc_at 92 (by decide)
theorem zat_93 : (zc w b C M r).1 (b + 93) = some (zcM b M 93) := zc_at 93 (by decide)
theorem zat_94 : (zc w b C M r).1 (b + 94) = some (zcM b M 94) := zc_at 94 (by decide)
theorem zat_95 : (zc w b C M r).1 (b + 95) = some (zcM b M 95) := zc_at 95 (by decide)
theorem zat_96 : (zc w b C M r).1 (b + 96) = some (zcM b M 96) := zc_at 96 (by decide)
theorem zat_97 : (zc w b C M r).1 (b + 97) = some (zcM b M 97) := zc_at 97 (by decide)
theorem zat_98 : (zc w b C M r).1 (b + 98) = some (zcM b M 98) := zc_at 98 (by decide)
theorem zat_99 : (zc w b C M r).1 (b + 99) = some (zcM b M 99) := zc_at 99 (by decide)
theorem zat_100 : (zc w b C M r).1 (b + 100) = some (zcM b M 100) := zc_at 100 (by decide)
theorem zat_101 : (zc w b C M r).1 (b + 101) = some (zcM b M 101) := zc_at 101 (by decide)
theorem zat_102 : (zc w b C M r).1 (b + 102) = some (zcM b M 102) := zc_at 102 (by decide)
theorem zat_103 : (zc w b C M r).1 (b + 103) = some (zcM b M 103) := zc_at 103 (by decide)
theorem zat_104 : (zc w b C M r).1 (b + 104) = some (zcM b M 104) := zc_at 104 (by decide)
theorem zat_105 : (zc w b C M r).1 (b + 105) = some (zcM b M 105) := zc_at 105 (by decide)
theorem zat_106 : (zc w b C M r).1 (b + 106) = some (zcM b M 106) := zc_at 106 (by decide)
theorem zat_107 : (zc w b C M r).1 (b + 107) = some (zcM b M 107) := zc_at 107 (by decide)
theorem zat_108 : (zc w b C M r).1 (b + 108) = some (zcM b M 108) := zc_at 108 (by decide)
theorem zat_109 : (zc w b C M r).1 (b + 109) = some (zcM b M 109) := zc_at 109 (by decide)
theorem zat_110 : (zc w b C M r).1 (b + 110) = some (zcM b M 110) := zc_at 110 (by decide)
theorem zat_111 : (zc w b C M r).1 (b + 111) = some (zcM b M 111) := zc_at 111 (by decide)
theorem zat_112 : (zc w b C M r).1 (b + 112) = some (zcM b M 112) := zc_at 112 (by decide)
theorem zqk_75 : zm_k (zc w b C M r) (b + 75) 9 = true := zo_k zat_75
theorem zqg_75_0 : zm_I (zc w b C M r) (b + 75) 9 0 = some (M.1 100 0) := by unfold zm_I; rw [zo_g zat_75]; rfl
theorem zqp_75_0 (v : Int32) : zm_p (zc w b C M r) (b + 75) 9 0 (.int v) = some (zc w b C (zJ M 100 0 v) r) := (zo_p zat_75 (Nat.le_of_ble_eq_true rfl)).trans (congrArg some (zc_J (v := 100) rfl))
theorem zqg_75_1 : zm_I (zc w b C M r) (b + 75) 9 1 = some (M.1 100 1) := by unfold zm_I; rw [zo_g zat_75]; rfl
theorem zqp_75_1 (v : Int32) : zm_p (zc w b C M r) (b + 75) 9 1 (.int v) = some (zc w b C (zJ M 100 1 v) r) := (zo_p zat_75 (Nat.le_of_ble_eq_true rfl)).trans (congrArg some (zc_J (v := 100) rfl))
theorem zqg_75_2 : zm_R (zc w b C M r) (b + 75) 9 2 = some (b + 76) := by unfold zm_R; rw [zo_g zat_75]; rfl
theorem zqa_76 {n : Nat} (h : n < 30) : zm_aI (zc w b C M r) (b + 76) (Int32.ofNat n) = some (M.1 2 n) := zo_aI zat_76 h (by decide)
theorem zqs_76 {n : Nat} {v : Int32} (h : n < 30) : zm_sI (zc w b C M r) (b + 76) (Int32.ofNat n) v = some (zc w b C (zJ M 2 n v) r) := (zo_sI zat_76 h (by decide)).trans (congrArg some (zc_J (v := 2) (k := n) (y := v) (congrArg (fun g => Sum.inl (0, 30, Sum.inl g)) zJ_row)))
theorem zqg_75_3 : zm_R (zc w b C M r) (b + 75) 9 3 = some (b + 77) := by unfold zm_R; rw [zo_g zat_75]; rfl
theorem zqa_77 {n : Nat} (h : n < 30) : zm_aI (zc w b C M r) (b + 77) (Int32.ofNat n) = some (M.1 3 n) := zo_aI zat_77 h (by decide)
theorem zqs_77 {n : Nat} {v : Int32} (h : n < 30) : zm_sI (zc w b C M r) (b + 77) (Int32.ofNat n) v = some (zc w b C (zJ M 3 n v) r) := (zo_sI zat_77 h (by decide)).trans (congrArg some (zc_J (v := 3) (k := n) (y := v) (congrArg (fun g => Sum.inl (0, 30, Sum.inl g)) zJ_row)))
theorem zqg_75_4 : zm_R (zc w b C M r) (b + 75) 9 4 = some (b + 78) := by unfold zm_R; rw [zo_g zat_75]; rfl
theorem zqa_78 {n : Nat} (h : n < 240) : zm_aI (zc w b C M r) (b + 78) (Int32.ofNat n) = some (M.1 4 n) := zo_aI zat_78 h (by decide)
theorem zqs_78 {n : Nat} {v : Int32} (h : n < 240) : zm_sI (zc w b C M r) (b + 78) (Int32.ofNat n) v = some (zc w b C (zJ M 4 n v) r) := (zo_sI zat_78 h (by decide)).trans (congrArg some (zc_J (v := 4) (k := n) (y := v) (congrArg (fun g => Sum.inl (0, 240, Sum.inl g)) zJ_row)))
theorem zqg_75_5 : zm_I (zc w b C M r) (b + 75) 9 5 = some (M.1 100 5) := by unfold zm_I; rw [zo_g zat_75]; rfl
theorem zqp_75_5 (v : Int32) : zm_p (zc w b C M r) (b + 75) 9 5 (.int v) = some (zc w b C (zJ M 100 5 v) r) := (zo_p zat_75 (Nat.le_of_ble_eq_true rfl)).trans (congrArg some (zc_J (v := 100) rfl))
theorem zqg_75_6 : zm_R (zc w b C M r) (b + 75) 9 6 = some (b + 79) := by unfold zm_R; rw [zo_g zat_75]; rfl
theorem zqa_79 {n : Nat} (h : n < 200) : zm_aI (zc w b C M r) (b + 79) (Int32.ofNat n) = some (M.1 6 n) := zo_aI zat_79 h (by decide)
theorem zqs_79 {n : Nat} {v : Int32} (h : n < 200) : zm_sI (zc w b C M r) (b + 79) (Int32.ofNat n) v = some (zc w b C (zJ M 6 n v) r) := (zo_sI zat_79 h (by decide)).trans (congrArg some (zc_J (v := 6) (k := n) (y := v) (congrArg (fun g => Sum.inl (0, 200, Sum.inl g)) zJ_row)))
theorem zqg_75_7 : zm_I (zc w b C M r) (b + 75) 9 7 = some (M.1 100 7) := by unfold zm_I; rw [zo_g zat_75]; rfl
theorem zqp_75_7 (v : Int32) : zm_p (zc w b C M r) (b + 75) 9 7 (.int v) = some (zc w b C (zJ M 100 7 v) r) := (zo_p zat_75 (Nat.le_of_ble_eq_true rfl)).trans (congrArg some (zc_J (v := 100) rfl))
theorem zqg_75_8 : zm_R (zc w b C M r) (b + 75) 9 8 = some (b + 80) := by unfold zm_R; rw [zo_g zat_75]; rfl
theorem zqa_80 {n : Nat} (h : n < 32) : zm_aI (zc w b C M r) (b + 80) (Int32.ofNat n) = some (M.1 8 n) := zo_aI zat_80 h (by decide)
theorem zqs_80 {n : Nat} {v : Int32} (h : n < 32) : zm_sI (zc w b C M r) (b + 80) (Int32.ofNat n) v = some (zc w b C (zJ M 8 n v) r) := (zo_sI zat_80 h (by decide)).trans (congrArg some (zc_J (v := 8) (k := n) (y := v) (congrArg (fun g => Sum.inl (0, 32, Sum.inl g)) zJ_row)))
theorem zqg_75_9 : zm_I (zc w b C M r) (b + 75) 9 9 = some (M.1 100 9) := by unfold zm_I; rw [zo_g zat_75]; rfl
theorem zqp_75_9 (v : Int32) : zm_p (zc w b C M r) (b + 75) 9 9 (.int v) = some (zc w b C (zJ M 100 9 v) r) := (zo_p zat_75 (Nat.le_of_ble_eq_true rfl)).trans (congrArg some (zc_J (v := 100) rfl))
theorem zqg_75_10 : zm_R (zc w b C M r) (b + 75) 9 10 = some (b + 81) := by unfold zm_R; rw [zo_g zat_75]; rfl
theorem zqa_81 {n : Nat} (h : n < 640) : zm_aI (zc w b C M r) (b + 81) (Int32.ofNat n) = some (M.1 10 n) := zo_aI zat_81 h (by decide)
theorem zqs_81 {n : Nat} {v : Int32} (h : n < 640) : zm_sI (zc w b C M r) (b + 81) (Int32.ofNat n) v = some (zc w b C (zJ M 10 n v) r) := (zo_sI zat_81 h (by decide)).trans (congrArg some (zc_J (v := 10) (k := n) (y := v) (congrArg (fun g => Sum.inl (0, 640, Sum.inl g)) zJ_row)))
theorem zqg_75_11 : zm_R (zc w b C M r) (b + 75) 9 11 = some (b + 82) := by unfold zm_R; rw [zo_g zat_75]; rfl
theorem zqa_82 {n : Nat} (h : n < 20) : zm_aI (zc w b C M r) (b + 82) (Int32.ofNat n) = some (M.1 11 n) := zo_aI zat_82 h (by decide)
theorem zqs_82 {n : Nat} {v : Int32} (h : n < 20) : zm_sI (zc w b C M r) (b + 82) (Int32.ofNat n) v = some (zc w b C (zJ M 11 n v) r) := (zo_sI zat_82 h (by decide)).trans (congrArg some (zc_J (v := 11) (k := n) (y := v) (congrArg (fun g => Sum.inl (0, 20, Sum.inl g)) zJ_row)))
theorem zqg_75_12 : zm_R (zc w b C M r) (b + 75) 9 12 = some (b + 83) := by unfold zm_R; rw [zo_g zat_75]; rfl
theorem zqa_83 {n : Nat} (h : n < 20) : zm_aI (zc w b C M r) (b + 83) (Int32.ofNat n) = some (M.1 12 n) := zo_aI zat_83 h (by decide)
theorem zqs_83 {n : Nat} {v : Int32} (h : n < 20) : zm_sI (zc w b C M r) (b + 83) (Int32.ofNat n) v = some (zc w b C (zJ M 12 n v) r) := (zo_sI zat_83 h (by decide)).trans (congrArg some (zc_J (v := 12) (k := n) (y := v) (congrArg (fun g => Sum.inl (0, 20, Sum.inl g)) zJ_row)))
theorem zqg_75_13 : zm_R (zc w b C M r) (b + 75) 9 13 = some (b + 84) := by unfold zm_R; rw [zo_g zat_75]; rfl
theorem zqa_84 {n : Nat} (h : n < 80) : zm_aI (zc w b C M r) (b + 84) (Int32.ofNat n) = some (M.1 13 n) := zo_aI zat_84 h (by decide)
theorem zqs_84 {n : Nat} {v : Int32} (h : n < 80) : zm_sI (zc w b C M r) (b + 84) (Int32.ofNat n) v = some (zc w b C (zJ M 13 n v) r) := (zo_sI zat_84 h (by decide)).trans (congrArg some (zc_J (v := 13) (k := n) (y := v) (congrArg (fun g => Sum.inl (0, 80, Sum.inl g)) zJ_row)))
theorem zqg_75_14 : zm_R (zc w b C M r) (b + 75) 9 14 = some (b + 85) := by unfold zm_R; rw [zo_g zat_75]; rfl
theorem zqa_85 {n : Nat} (h : n < 20) : zm_aI (zc w b C M r) (b + 85) (Int32.ofNat n) = some (M.1 14 n) := zo_aI zat_85 h (by decide)
theorem zqs_85 {n : Nat} {v : Int32} (h : n < 20) : zm_sI (zc w b C M r) (b + 85) (Int32.ofNat n) v = some (zc w b C (zJ M 14 n v) r) := (zo_sI zat_85 h (by decide)).trans (congrArg some (zc_J (v := 14) (k := n) (y := v) (congrArg (fun g => Sum.inl (0, 20, Sum.inl g)) zJ_row)))
theorem zqg_75_15 : zm_R (zc w b C M r) (b + 75) 9 15 = some (b + 86) := by unfold zm_R; rw [zo_g zat_75]; rfl
theorem zqa_86 {n : Nat} (h : n < 20) : zm_aI (zc w b C M r) (b + 86) (Int32.ofNat n) = some (M.1 15 n) := zo_aI zat_86 h (by decide)
theorem zqs_86 {n : Nat} {v : Int32} (h : n < 20) : zm_sI (zc w b C M r) (b + 86) (Int32.ofNat n) v = some (zc w b C (zJ M 15 n v) r) := (zo_sI zat_86 h (by decide)).trans (congrArg some (zc_J (v := 15) (k := n) (y := v) (congrArg (fun g => Sum.inl (0, 20, Sum.inl g)) zJ_row)))
theorem zqg_75_16 : zm_R (zc w b C M r) (b + 75) 9 16 = some (b + 87) := by unfold zm_R; rw [zo_g zat_75]; rfl
theorem zqa_87 {n : Nat} (h : n < 20) : zm_aI (zc w b C M r) (b + 87) (Int32.ofNat n) = some (M.1 16 n) := zo_aI zat_87 h (by decide)
theorem zqs_87 {n : Nat} {v : Int32} (h : n < 20) : zm_sI (zc w b C M r) (b + 87) (Int32.ofNat n) v = some (zc w b C (zJ M 16 n v) r) := (zo_sI zat_87 h (by decide)).trans (congrArg some (zc_J (v := 16) (k := n) (y := v) (congrArg (fun g => Sum.inl (0, 20, Sum.inl g)) zJ_row)))
theorem zqg_75_17 : zm_R (zc w b C M r) (b + 75) 9 17 = some (b + 88) := by unfold zm_R; rw [zo_g zat_75]; rfl
theorem zqa_88 {n : Nat} (h : n < 4000) : zm_aI (zc w b C M r) (b + 88) (Int32.ofNat n) = some (M.1 17 n) := zo_aI zat_88 h (by decide)
theorem zqs_88 {n : Nat} {v : Int32} (h : n < 4000) : zm_sI (zc w b C M r) (b + 88) (Int32.ofNat n) v = some (zc w b C (zJ M 17 n v) r) := (zo_sI zat_88 h (by decide)).trans (congrArg some (zc_J (v := 17) (k := n) (y := v) (congrArg (fun g => Sum.inl (0, 4000, Sum.inl g)) zJ_row)))
theorem zqg_75_18 : zm_R (zc w b C M r) (b + 75) 9 18 = some (b + 89) := by unfold zm_R; rw [zo_g zat_75]; rfl
theorem zqa_89 {n : Nat} (h : n < 20) : zm_aI (zc w b C M r) (b + 89) (Int32.ofNat n) = some (M.1 18 n) := zo_aI zat_89 h (by decide)
theorem zqs_89 {n : Nat} {v : Int32} (h : n < 20) : zm_sI (zc w b C M r) (b + 89) (Int32.ofNat n) v = some (zc w b C (zJ M 18 n v) r) := (zo_sI zat_89 h (by decide)).trans (congrArg some (zc_J (v := 18) (k := n) (y := v) (congrArg (fun g => Sum.inl (0, 20, Sum.inl g)) zJ_row)))
theorem zqg_75_19 : zm_I (zc w b C M r) (b + 75) 9 19 = some (M.1 100 19) := by unfold zm_I; rw [zo_g zat_75]; rfl
theorem zqp_75_19 (v : Int32) : zm_p (zc w b C M r) (b + 75) 9 19 (.int v) = some (zc w b C (zJ M 100 19 v) r) := (zo_p zat_75 (Nat.le_of_ble_eq_true rfl)).trans (congrArg some (zc_J (v := 100) rfl))
theorem zqg_75_20 : zm_R (zc w b C M r) (b + 75) 9 20 = some (b + 90) := by unfold zm_R; rw [zo_g zat_75]; rfl
theorem zqa_90 {n : Nat} (h : n < 200) : zm_aB (zc w b C M r) (b + 90) (Int32.ofNat n) = some (M.1 20 n) := zo_aB (Or.inr rfl) zat_90 h (by decide)
theorem zqs_90 {n : Nat} {v : Int32} (hv : v = 0 ∨ v = 1) (h : n < 200) : zm_sB (zc w b C M r) (b + 90) (Int32.ofNat n) v = some (zc w b C (zJ M 20 n v) r) := (zo_sZ hv zat_90 h (by decide)).trans (congrArg some (zc_J (v := 20) (k := n) (y := v) (congrArg (fun g => Sum.inl (3, 200, Sum.inl g)) zJ_row)))
theorem zqg_75_21 : zm_R (zc w b C M r) (b + 75) 9 21 = some (b + 91) := by unfold zm_R; rw [zo_g zat_75]; rfl
theorem zqa_91 {n : Nat} (h : n < 200) : zm_aI (zc w b C M r) (b + 91) (Int32.ofNat n) = some (M.1 21 n) := zo_aI zat_91 h (by decide)
theorem zqs_91 {n : Nat} {v : Int32} (h : n < 200) : zm_sI (zc w b C M r) (b + 91) (Int32.ofNat n) v = some (zc w b C (zJ M 21 n v) r) := (zo_sI zat_91 h (by decide)).trans (congrArg some (zc_J (v := 21) (k := n) (y := v) (congrArg (fun g => Sum.inl (0, 200, Sum.inl g)) zJ_row)))
theorem zqg_75_22 : zm_R (zc w b C M r) (b + 75) 9 22 = some (b + 92) := by unfold zm_R; rw [zo_g zat_75]; rfl
theorem zqa_92 {n : Nat} (h : n < 2400) : zm_aI (zc w b C M r) (b + 92) (Int32.ofNat n) = some (M.1 22 n) := zo_aI zat_92 h (by decide)
theorem zqs_92 {n : Nat} {v : Int32} (h : n < 2400) : zm_sI (zc w b C M r) (b + 92) (Int32.ofNat n) v = some (zc w b C (zJ M 22 n v) r) := (zo_sI zat_92 h (by decide)).trans (congrArg some (zc_J (v := 22) (k := n) (y := v) (congrArg (fun g => Sum.inl (0, 2400, Sum.inl g)) zJ_row)))
theorem zqg_75_23 : zm_R (zc w b C M r) (b + 75) 9 23 = some (b + 93) := by unfold zm_R; rw [zo_g zat_75]; rfl
theorem zqa_93 {n : Nat} (h : n < 3200) : zm_aI (zc w b C M r) (b + 93) (Int32.ofNat n) = some (M.1 23 n) := zo_aI zat_93 h (by decide)
theorem zqs_93 {n : Nat} {v : Int32} (h : n < 3200) : zm_sI (zc w b C M r) (b + 93) (Int32.ofNat n) v = some (zc w b C (zJ M 23 n v) r) := (zo_sI zat_93 h (by decide)).trans (congrArg some (zc_J (v := 23) (k := n) (y := v) (congrArg (fun g => Sum.inl (0, 3200, Sum.inl g)) zJ_row)))
theorem zqg_75_24 : zm_R (zc w b C M r) (b + 75) 9 24 = some (b + 94) := by unfold zm_R; rw [zo_g zat_75]; rfl
theorem zqa_94 {n : Nat} (h : n < 16) : zm_aI (zc w b C M r) (b + 94) (Int32.ofNat n) = some (M.1 24 n) := zo_aI zat_94 h (by decide)
theorem zqs_94 {n : Nat} {v : Int32} (h : n < 16) : zm_sI (zc w b C M r) (b + 94) (Int32.ofNat n) v = some (zc w b C (zJ M 24 n v) r) := (zo_sI zat_94 h (by decide)).trans (congrArg some (zc_J (v := 24) (k := n) (y := v) (congrArg (fun g => Sum.inl (0, 16, Sum.inl g)) zJ_row)))
theorem zqg_75_25 : zm_I (zc w b C M r) (b + 75) 9 25 = some (M.1 100 25) := by unfold zm_I; rw [zo_g zat_75]; rfl
theorem zqp_75_25 (v : Int32) : zm_p (zc w b C M r) (b + 75) 9 25 (.int v) = some (zc w b C (zJ M 100 25 v) r) := (zo_p zat_75 (Nat.le_of_ble_eq_true rfl)).trans (congrArg some (zc_J (v := 100) rfl))
theorem zqg_75_26 : zm_R (zc w b C M r) (b + 75) 9 26 = some (b + 95) := by unfold zm_R; rw [zo_g zat_75]; rfl
theorem zqa_95 {n : Nat} (h : n < 16) : zm_aI (zc w b C M r) (b + 95) (Int32.ofNat n) = some (M.1 26 n) := zo_aI zat_95 h (by decide)
theorem zqs_95 {n : Nat} {v : Int32} (h : n < 16) : zm_sI (zc w b C M r) (b + 95) (Int32.ofNat n) v = some (zc w b C (zJ M 26 n v) r) := (zo_sI zat_95 h (by decide)).trans (congrArg some (zc_J (v := 26) (k := n) (y := v) (congrArg (fun g => Sum.inl (0, 16, Sum.inl g)) zJ_row)))
theorem zqg_75_27 : zm_I (zc w b C M r) (b + 75) 9 27 = some (M.1 100 27) := by unfold zm_I; rw [zo_g zat_75]; rfl
theorem zqp_75_27 (v : Int32) : zm_p (zc w b C M r) (b + 75) 9 27 (.int v) = some (zc w b C (zJ M 100 27 v) r) := (zo_p zat_75 (Nat.le_of_ble_eq_true rfl)).trans (congrArg some (zc_J (v := 100) rfl))
theorem zqg_75_28 : zm_I (zc w b C M r) (b + 75) 9 28 = some (M.1 100 28) := by unfold zm_I; rw [zo_g zat_75]; rfl
theorem zqp_75_28 (v : Int32) : zm_p (zc w b C M r) (b + 75) 9 28 (.int v) = some (zc w b C (zJ M 100 28 v) r) := (zo_p zat_75 (Nat.le_of_ble_eq_true rfl)).trans (congrArg some (zc_J (v := 100) rfl))
theorem zqg_75_29 : zm_R (zc w b C M r) (b + 75) 9 29 = some (b + 96) := by unfold zm_R; rw [zo_g zat_75]; rfl
theorem zqa_96 {n : Nat} (h : n < 201) : zm_aB (zc w b C M r) (b + 96) (Int32.ofNat n) = some (M.1 29 n) := zo_aB (Or.inr rfl) zat_96 h (by decide)
theorem zqs_96 {n : Nat} {v : Int32} (hv : v = 0 ∨ v = 1) (h : n < 201) : zm_sB (zc w b C M r) (b + 96) (Int32.ofNat n) v = some (zc w b C (zJ M 29 n v) r) := (zo_sZ hv zat_96 h (by decide)).trans (congrArg some (zc_J (v := 29) (k := n) (y := v) (congrArg (fun g => Sum.inl (3, 201, Sum.inl g)) zJ_row)))
theorem zqg_75_30 : zm_R (zc w b C M r) (b + 75) 9 30 = some (b + 97) := by unfold zm_R; rw [zo_g zat_75]; rfl
theorem zqa_97 {n : Nat} (h : n < 201) : zm_aB (zc w b C M r) (b + 97) (Int32.ofNat n) = some (M.1 30 n) := zo_aB (Or.inr rfl) zat_97 h (by decide)
theorem zqs_97 {n : Nat} {v : Int32} (hv : v = 0 ∨ v = 1) (h : n < 201) : zm_sB (zc w b C M r) (b + 97) (Int32.ofNat n) v = some (zc w b C (zJ M 30 n v) r) := (zo_sZ hv zat_97 h (by decide)).trans (congrArg some (zc_J (v := 30) (k := n) (y := v) (congrArg (fun g => Sum.inl (3, 201, Sum.inl g)) zJ_row)))
theorem zqg_75_31 : zm_R (zc w b C M r) (b + 75) 9 31 = some (b + 98) := by unfold zm_R; rw [zo_g zat_75]; rfl
theorem zqa_98 {n : Nat} (h : n < 201) : zm_aI (zc w b C M r) (b + 98) (Int32.ofNat n) = some (M.1 31 n) := zo_aI zat_98 h (by decide)
theorem zqs_98 {n : Nat} {v : Int32} (h : n < 201) : zm_sI (zc w b C M r) (b + 98) (Int32.ofNat n) v = some (zc w b C (zJ M 31 n v) r) := (zo_sI zat_98 h (by decide)).trans (congrArg some (zc_J (v := 31) (k := n) (y := v) (congrArg (fun g => Sum.inl (0, 201, Sum.inl g)) zJ_row)))
theorem zqg_75_32 : zm_R (zc w b C M r) (b + 75) 9 32 = some (b + 99) := by unfold zm_R; rw [zo_g zat_75]; rfl
theorem zqa_99 {n : Nat} (h : n < 201) : zm_aI (zc w b C M r) (b + 99) (Int32.ofNat n) = some (M.1 32 n) := zo_aI zat_99 h (by decide)
theorem zqs_99 {n : Nat} {v : Int32} (h : n < 201) : zm_sI (zc w b C M r) (b + 99) (Int32.ofNat n) v = some (zc w b C (zJ M 32 n v) r) := (zo_sI zat_99 h (by decide)).trans (congrArg some (zc_J (v := 32) (k := n) (y := v) (congrArg (fun g => Sum.inl (0, 201, Sum.inl g)) zJ_row)))
theorem zqg_75_33 : zm_R (zc w b C M r) (b + 75) 9 33 = some (b + 100) := by unfold zm_R; rw [zo_g zat_75]; rfl
theorem zqa_100 {n : Nat} (h : n < 201) : zm_aI (zc w b C M r) (b + 100) (Int32.ofNat n) = some (M.1 33 n) := zo_aI zat_100 h (by decide)
theorem zqs_100 {n : Nat} {v : Int32} (h : n < 201) : zm_sI (zc w b C M r) (b + 100) (Int32.ofNat n) v = some (zc w b C (zJ M 33 n v) r) := (zo_sI zat_100 h (by decide)).trans (congrArg some (zc_J (v := 33) (k := n) (y := v) (congrArg (fun g => Sum.inl (0, 201, Sum.inl g)) zJ_row)))
theorem zqg_75_34 : zm_R (zc w b C M r) (b + 75) 9 34 = some (b + 101) := by unfold zm_R; rw [zo_g zat_75]; rfl
theorem zqa_101 {n : Nat} (h : n < 201) : zm_aI (zc w b C M r) (b + 101) (Int32.ofNat n) = some (M.1 34 n) := zo_aI zat_101 h (by decide)
theorem zqs_101 {n : Nat} {v : Int32} (h : n < 201) : zm_sI (zc w b C M r) (b + 101) (Int32.ofNat n) v = some (zc w b C (zJ M 34 n v) r) := (zo_sI zat_101 h (by decide)).trans (congrArg some (zc_J (v := 34) (k := n) (y := v) (congrArg (fun g => Sum.inl (0, 201, Sum.inl g)) zJ_row)))
theorem zqg_75_35 : zm_R (zc w b C M r) (b + 75) 9 35 = some (b + 102) := by unfold zm_R; rw [zo_g zat_75]; rfl
theorem zqa_102 {n : Nat} (h : n < 201) : zm_aI (zc w b C M r) (b + 102) (Int32.ofNat n) = some (M.1 35 n) := zo_aI zat_102 h (by decide)
theorem zqs_102 {n : Nat} {v : Int32} (h : n < 201) : zm_sI (zc w b C M r) (b + 102) (Int32.ofNat n) v = some (zc w b C (zJ M 35 n v) r) := (zo_sI zat_102 h (by decide)).trans (congrArg some (zc_J (v := 35) (k := n) (y := v) (congrArg (fun g => Sum.inl (0, 201, Sum.inl g)) zJ_row)))
theorem zqg_75_36 : zm_I (zc w b C M r) (b + 75) 9 36 = some (M.1 100 36) := by unfold zm_I; rw [zo_g zat_75]; rfl
theorem zqp_75_36 (v : Int32) : zm_p (zc w b C M r) (b + 75) 9 36 (.int v) = some (zc w b C (zJ M 100 36 v) r) := (zo_p zat_75 (Nat.le_of_ble_eq_true rfl)).trans (congrArg some (zc_J (v := 100) rfl))
theorem zqg_75_37 : zm_R (zc w b C M r) (b + 75) 9 37 = some (b + 103) := by unfold zm_R; rw [zo_g zat_75]; rfl
theorem zqa_103 {n : Nat} (h : n < 1700) : zm_aL (zc w b C M r) (b + 103) (Int32.ofNat n) = some (M.2 37 n) := zo_aL zat_103 h (by decide)
theorem zqs_103 {n : Nat} {v : Int64} (h : n < 1700) : zm_sL (zc w b C M r) (b + 103) (Int32.ofNat n) v = some (zc w b C (zK M 37 n v) r) := (zo_sL zat_103 h (by decide)).trans (congrArg some (zc_K (v := 37) (k := n) (y := v) (congrArg (fun g => Sum.inl (1, 1700, Sum.inr (Sum.inl g))) zK_row)))
theorem zqg_75_38 : zm_I (zc w b C M r) (b + 75) 9 38 = some (M.1 100 38) := by unfold zm_I; rw [zo_g zat_75]; rfl
theorem zqp_75_38 (v : Int32) : zm_p (zc w b C M r) (b + 75) 9 38 (.int v) = some (zc w b C (zJ M 100 38 v) r) := (zo_p zat_75 (Nat.le_of_ble_eq_true rfl)).trans (congrArg some (zc_J (v := 100) rfl))
theorem zqg_75_39 : zm_R (zc w b C M r) (b + 75) 9 39 = some (b + 104) := by unfold zm_R; rw [zo_g zat_75]; rfl
theorem zqa_104 {n : Nat} (h : n < 202) : zm_aI (zc w b C M r) (b + 104) (Int32.ofNat n) = some (M.1 39 n) := zo_aI zat_104 h (by decide)
theorem zqs_104 {n : Nat} {v : Int32} (h : n < 202) : zm_sI (zc w b C M r) (b + 104) (Int32.ofNat n) v = some (zc w b C (zJ M 39 n v) r) := (zo_sI zat_104 h (by decide)).trans (congrArg some (zc_J (v := 39) (k := n) (y := v) (congrArg (fun g => Sum.inl (0, 202, Sum.inl g)) zJ_row)))
theorem zqg_75_40 : zm_R (zc w b C M r) (b + 75) 9 40 = some (b + 105) := by unfold zm_R; rw [zo_g zat_75]; rfl
theorem zqa_105 {n : Nat} (h : n < 16) : zm_aI (zc w b C M r) (b + 105) (Int32.ofNat n) = some (M.1 40 n) := zo_aI zat_105 h (by decide)
theorem zqs_105 {n : Nat} {v : Int32} (h : n < 16) : zm_sI (zc w b C M r) (b + 105) (Int32.ofNat n) v = some (zc w b C (zJ M 40 n v) r) := (zo_sI zat_105 h (by decide)).trans (congrArg some (zc_J (v := 40) (k := n) (y := v) (congrArg (fun g => Sum.inl (0, 16, Sum.inl g)) zJ_row)))
theorem zqg_75_41 : zm_R (zc w b C M r) (b + 75) 9 41 = some (b + 106) := by unfold zm_R; rw [zo_g zat_75]; rfl
theorem zqa_106 {n : Nat} (h : n < 16) : zm_aI (zc w b C M r) (b + 106) (Int32.ofNat n) = some (M.1 41 n) := zo_aI zat_106 h (by decide)
theorem zqs_106 {n : Nat} {v : Int32} (h : n < 16) : zm_sI (zc w b C M r) (b + 106) (Int32.ofNat n) v = some (zc w b C (zJ M 41 n v) r) := (zo_sI zat_106 h (by decide)).trans (congrArg some (zc_J (v := 41) (k := n) (y := v) (congrArg (fun g => Sum.inl (0, 16, Sum.inl g)) zJ_row)))
theorem zqg_75_42 : zm_R (zc w b C M r) (b + 75) 9 42 = some (b + 107) := by unfold zm_R; rw [zo_g zat_75]; rfl
theorem zqa_107 {n : Nat} (h : n < 16) : zm_aI (zc w b C M r) (b + 107) (Int32.ofNat n) = some (M.1 42 n) := zo_aI zat_107 h (by decide)
theorem zqs_107 {n : Nat} {v : Int32} (h : n < 16) : zm_sI (zc w b C M r) (b + 107) (Int32.ofNat n) v = some (zc w b C (zJ M 42 n v) r) := (zo_sI zat_107 h (by decide)).trans (congrArg some (zc_J (v := 42) (k := n) (y := v) (congrArg (fun g => Sum.inl (0, 16, Sum.inl g)) zJ_row)))
theorem zqg_75_43 : zm_R (zc w b C M r) (b + 75) 9 43 = some (b + 108) := by unfold zm_R; rw [zo_g zat_75]; rfl
theorem zqa_108 {n : Nat} (h : n < 256) : zm_aL (zc w b C M r) (b + 108) (Int32.ofNat n) = some (M.2 43 n) := zo_aL zat_108 h (by decide)
theorem zqs_108 {n : Nat} {v : Int64} (h : n < 256) : zm_sL (zc w b C M r) (b + 108) (Int32.ofNat n) v = some (zc w b C (zK M 43 n v) r) := (zo_sL zat_108 h (by decide)).trans (congrArg some (zc_K (v := 43) (k := n) (y := v) (congrArg (fun g => Sum.inl (1, 256, Sum.inr (Sum.inl g))) zK_row)))
theorem zqg_75_44 : zm_R (zc w b C M r) (b + 75) 9 44 = some (b + 109) := by unfold zm_R; rw [zo_g zat_75]; rfl
theorem zqa_109 {n : Nat} (h : n < 256) : zm_aI (zc w b C M r) (b + 109) (Int32.ofNat n) = some (M.1 44 n) := zo_aI zat_109 h (by decide)
theorem zqs_109 {n : Nat} {v : Int32} (h : n < 256) : zm_sI (zc w b C M r) (b + 109) (Int32.ofNat n) v = some (zc w b C (zJ M 44 n v) r) := (zo_sI zat_109 h (by decide)).trans (congrArg some (zc_J (v := 44) (k := n) (y := v) (congrArg (fun g => Sum.inl (0, 256, Sum.inl g)) zJ_row)))
theorem zqg_75_45 : zm_R (zc w b C M r) (b + 75) 9 45 = some (b + 110) := by unfold zm_R; rw [zo_g zat_75]; rfl
theorem zqa_110 {n : Nat} (h : n < 192) : zm_aL (zc w b C M r) (b + 110) (Int32.ofNat n) = some (M.2 45 n) := zo_aL zat_110 h (by decide)
theorem zqs_110 {n : Nat} {v : Int64} (h : n < 192) : zm_sL (zc w b C M r) (b + 110) (Int32.ofNat n) v = some (zc w b C (zK M 45 n v) r) := (zo_sL zat_110 h (by decide)).trans (congrArg some (zc_K (v := 45) (k := n) (y := v) (congrArg (fun g => Sum.inl (1, 192, Sum.inr (Sum.inl g))) zK_row)))
theorem zqg_75_46 : zm_R (zc w b C M r) (b + 75) 9 46 = some (b + 111) := by unfold zm_R; rw [zo_g zat_75]; rfl
theorem zqa_111 {n : Nat} (h : n < 192) : zm_aI (zc w b C M r) (b + 111) (Int32.ofNat n) = some (M.1 46 n) := zo_aI zat_111 h (by decide)
theorem zqs_111 {n : Nat} {v : Int32} (h : n < 192) : zm_sI (zc w b C M r) (b + 111) (Int32.ofNat n) v = some (zc w b C (zJ M 46 n v) r) := (zo_sI zat_111 h (by decide)).trans (congrArg some (zc_J (v := 46) (k := n) (y := v) (congrArg (fun g => Sum.inl (0, 192, Sum.inl g)) zJ_row)))
theorem zqg_75_47 : zm_I (zc w b C M r) (b + 75) 9 47 = some (M.1 100 47) := by unfold zm_I; rw [zo_g zat_75]; rfl
theorem zqp_75_47 (v : Int32) : zm_p (zc w b C M r) (b + 75) 9 47 (.int v) = some (zc w b C (zJ M 100 47 v) r) := (zo_p zat_75 (Nat.le_of_ble_eq_true rfl)).trans (congrArg some (zc_J (v := 100) rfl))
theorem zqg_75_48 : zm_I (zc w b C M r) (b + 75) 9 48 = some (M.1 100 48) := by unfold zm_I; rw [zo_g zat_75]; rfl
theorem zqp_75_48 (v : Int32) : zm_p (zc w b C M r) (b + 75) 9 48 (.int v) = some (zc w b C (zJ M 100 48 v) r) := (zo_p zat_75 (Nat.le_of_ble_eq_true rfl)).trans (congrArg some (zc_J (v := 100) rfl))
theorem zqg_75_49 : zm_I (zc w b C M r) (b + 75) 9 49 = some (M.1 100 49) := by unfold zm_I; rw [zo_g zat_75]; rfl
theorem zqp_75_49 (v : Int32) : zm_p (zc w b C M r) (b + 75) 9 49 (.int v) = some (zc w b C (zJ M 100 49 v) r) := (zo_p zat_75 (Nat.le_of_ble_eq_true rfl)).trans (congrArg some (zc_J (v := 100) rfl))
theorem zqg_75_50 : zm_L (zc w b C M r) (b + 75) 9 50 = some (M.2 100 50) := by unfold zm_L; rw [zo_g zat_75]; rfl
theorem zqp_75_50 (v : Int64) : zm_p (zc w b C M r) (b + 75) 9 50 (.long v) = some (zc w b C (zK M 100 50 v) r) := (zo_p zat_75 (Nat.le_of_ble_eq_true rfl)).trans (congrArg some (zc_K (v := 100) rfl))
theorem zqg_75_51 : zm_I (zc w b C M r) (b + 75) 9 51 = some (M.1 100 51) := by unfold zm_I; rw [zo_g zat_75]; rfl
theorem zqp_75_51 (v : Int32) : zm_p (zc w b C M r) (b + 75) 9 51 (.int v) = some (zc w b C (zJ M 100 51 v) r) := (zo_p zat_75 (Nat.le_of_ble_eq_true rfl)).trans (congrArg some (zc_J (v := 100) rfl))
theorem zqg_75_52 : zm_I (zc w b C M r) (b + 75) 9 52 = some (M.1 100 52) := by unfold zm_I; rw [zo_g zat_75]; rfl
theorem zqp_75_52 (v : Int32) : zm_p (zc w b C M r) (b + 75) 9 52 (.int v) = some (zc w b C (zJ M 100 52 v) r) := (zo_p zat_75 (Nat.le_of_ble_eq_true rfl)).trans (congrArg some (zc_J (v := 100) rfl))
theorem zqg_75_53 : zm_I (zc w b C M r) (b + 75) 9 53 = some (M.1 100 53) := by unfold zm_I; rw [zo_g zat_75]; rfl
theorem zqp_75_53 (v : Int32) : zm_p (zc w b C M r) (b + 75) 9 53 (.int v) = some (zc w b C (zJ M 100 53 v) r) := (zo_p zat_75 (Nat.le_of_ble_eq_true rfl)).trans (congrArg some (zc_J (v := 100) rfl))
theorem zqg_75_54 : zm_I (zc w b C M r) (b + 75) 9 54 = some (M.1 100 54) := by unfold zm_I; rw [zo_g zat_75]; rfl
theorem zqp_75_54 (v : Int32) : zm_p (zc w b C M r) (b + 75) 9 54 (.int v) = some (zc w b C (zJ M 100 54 v) r) := (zo_p zat_75 (Nat.le_of_ble_eq_true rfl)).trans (congrArg some (zc_J (v := 100) rfl))
theorem zqa_112 : zm_aL (zc w b C M r) (b + 112) (Int32.ofNat 0) = some (M.2 99 0) := zo_aL zat_112 (by decide) (by decide)
theorem zqs_112 {v : Int64} : zm_sL (zc w b C M r) (b + 112) (Int32.ofNat 0) v = some (zc w b C (zK M 99 0 v) r) := (zo_sL zat_112 (by decide) (by decide)).trans (congrArg some (zc_K (v := 99) (k := 0) (y := v) (congrArg (fun g => Sum.inl (1, 1, Sum.inr (Sum.inl g))) zK_row)))
end ZCM
