abbrev fX5_shapeOfReckoning (d : Nat) (x0 : zv_X) (o : (zv_X × Int32)) : zv_G := (d, RX5, cX5_shapeOfReckoning, 1, (some .int), ("shapeOfReckoning", []), x0, o.1, zv_fin x0 o.1 (some (.int o.2)))
def mX5_shapeOfReckoning_264 (N : Nat)  (x : zv_X) : Option (zv_X × Int32) := (mX5_pack N (1 : Int32) (0 : Int32) (0 : Int32) x).bind fun o1 => some (o1.1, o1.2)
theorem kX5_shapeOfReckoning_264 {d : Nat} {x0 : zv_X} {o : (zv_X × Int32)} (hd : 1 ≤ d) {N : Nat}  (x : zv_X) (h : mX5_shapeOfReckoning_264 N  x = some o) : zv_V (fX5_shapeOfReckoning d x0 o) 264 [] [] x := by
  unfold mX5_shapeOfReckoning_264 at h
  refine zv_iconst (v := 1) dX5_shapeOfReckoning_264 (by decide) ?_
  refine zv_iconst (v := 0) dX5_shapeOfReckoning_265 (by decide) ?_
  refine zv_iconst (v := 0) dX5_shapeOfReckoning_266 (by decide) ?_
  refine zr_cSi (st := []) dX5_shapeOfReckoning_267 mw_X5_pack wd_668 wd_669 [.int (1 : Int32), .int (0 : Int32), .int (0 : Int32)] rfl rfl (Nat.le_of_ble_eq_true rfl) (show d - 1 + 1 ≤ d by omega) h (fun o1 e2 => tX5_pack (d := d - 1) (by omega) e2) (fun o1 e2 h => ?_)
  cases h
  exact zv_iret dX5_shapeOfReckoning_270 rfl
def mX5_shapeOfReckoning_359 (N : Nat)  (x : zv_X) : Option (zv_X × Int32) := some (x, (0 : Int32))
theorem kX5_shapeOfReckoning_359 {d : Nat} {x0 : zv_X} {o : (zv_X × Int32)} (hd : 1 ≤ d) {N : Nat}  (x : zv_X) (h : mX5_shapeOfReckoning_359 N  x = some o) : zv_V (fX5_shapeOfReckoning d x0 o) 359 [] [] x := by
  unfold mX5_shapeOfReckoning_359 at h
  refine zv_iconst (v := 0) dX5_shapeOfReckoning_359 (by decide) ?_
  cases h
  exact zv_iret dX5_shapeOfReckoning_360 rfl
def mX5_shapeOfReckoning_278 (N : Nat)  (x : zv_X) : Option (zv_X × Int32) := (mX5_pack N (1 : Int32) (5 : Int32) (1 : Int32) x).bind fun o1 => some (o1.1, o1.2)
theorem kX5_shapeOfReckoning_278 {d : Nat} {x0 : zv_X} {o : (zv_X × Int32)} (hd : 1 ≤ d) {N : Nat}  (x : zv_X) (h : mX5_shapeOfReckoning_278 N  x = some o) : zv_V (fX5_shapeOfReckoning d x0 o) 278 [] [] x := by
  unfold mX5_shapeOfReckoning_278 at h
  refine zv_iconst (v := 1) dX5_shapeOfReckoning_278 (by decide) ?_
  refine zv_iconst (v := 5) dX5_shapeOfReckoning_279 (by decide) ?_
  refine zv_iconst (v := 1) dX5_shapeOfReckoning_280 (by decide) ?_
  refine zr_cSi (st := []) dX5_shapeOfReckoning_281 mw_X5_pack wd_668 wd_669 [.int (1 : Int32), .int (5 : Int32), .int (1 : Int32)] rfl rfl (Nat.le_of_ble_eq_true rfl) (show d - 1 + 1 ≤ d by omega) h (fun o1 e2 => tX5_pack (d := d - 1) (by omega) e2) (fun o1 e2 h => ?_)
  cases h
  exact zv_iret dX5_shapeOfReckoning_284 rfl
def mX5_shapeOfReckoning_292 (N : Nat)  (x : zv_X) : Option (zv_X × Int32) := (mX5_pack N (1 : Int32) (10 : Int32) (2 : Int32) x).bind fun o1 => some (o1.1, o1.2)
theorem kX5_shapeOfReckoning_292 {d : Nat} {x0 : zv_X} {o : (zv_X × Int32)} (hd : 1 ≤ d) {N : Nat}  (x : zv_X) (h : mX5_shapeOfReckoning_292 N  x = some o) : zv_V (fX5_shapeOfReckoning d x0 o) 292 [] [] x := by
  unfold mX5_shapeOfReckoning_292 at h
  refine zv_iconst (v := 1) dX5_shapeOfReckoning_292 (by decide) ?_
  refine zv_bipush (v := 10) dX5_shapeOfReckoning_293 (by decide) ?_
  refine zv_iconst (v := 2) dX5_shapeOfReckoning_295 (by decide) ?_
  refine zr_cSi (st := []) dX5_shapeOfReckoning_296 mw_X5_pack wd_668 wd_669 [.int (1 : Int32), .int (10 : Int32), .int (2 : Int32)] rfl rfl (Nat.le_of_ble_eq_true rfl) (show d - 1 + 1 ≤ d by omega) h (fun o1 e2 => tX5_pack (d := d - 1) (by omega) e2) (fun o1 e2 h => ?_)
  cases h
  exact zv_iret dX5_shapeOfReckoning_299 rfl
def mX5_shapeOfReckoning_316 (N : Nat)  (x : zv_X) : Option (zv_X × Int32) := (mX5_pack N (1 : Int32) (1 : Int32) (1 : Int32) x).bind fun o1 => some (o1.1, o1.2)
theorem kX5_shapeOfReckoning_316 {d : Nat} {x0 : zv_X} {o : (zv_X × Int32)} (hd : 1 ≤ d) {N : Nat}  (x : zv_X) (h : mX5_shapeOfReckoning_316 N  x = some o) : zv_V (fX5_shapeOfReckoning d x0 o) 316 [] [] x := by
  unfold mX5_shapeOfReckoning_316 at h
  refine zv_iconst (v := 1) dX5_shapeOfReckoning_316 (by decide) ?_
  refine zv_iconst (v := 1) dX5_shapeOfReckoning_317 (by decide) ?_
  refine zv_iconst (v := 1) dX5_shapeOfReckoning_318 (by decide) ?_
  refine zr_cSi (st := []) dX5_shapeOfReckoning_319 mw_X5_pack wd_668 wd_669 [.int (1 : Int32), .int (1 : Int32), .int (1 : Int32)] rfl rfl (Nat.le_of_ble_eq_true rfl) (show d - 1 + 1 ≤ d by omega) h (fun o1 e2 => tX5_pack (d := d - 1) (by omega) e2) (fun o1 e2 h => ?_)
  cases h
  exact zv_iret dX5_shapeOfReckoning_322 rfl
def mX5_shapeOfReckoning_285 (N : Nat)  (x : zv_X) : Option (zv_X × Int32) := (mX5_pack N (1 : Int32) (5 : Int32) (1 : Int32) x).bind fun o1 => some (o1.1, o1.2)
theorem kX5_shapeOfReckoning_285 {d : Nat} {x0 : zv_X} {o : (zv_X × Int32)} (hd : 1 ≤ d) {N : Nat}  (x : zv_X) (h : mX5_shapeOfReckoning_285 N  x = some o) : zv_V (fX5_shapeOfReckoning d x0 o) 285 [] [] x := by
  unfold mX5_shapeOfReckoning_285 at h
  refine zv_iconst (v := 1) dX5_shapeOfReckoning_285 (by decide) ?_
  refine zv_iconst (v := 5) dX5_shapeOfReckoning_286 (by decide) ?_
  refine zv_iconst (v := 1) dX5_shapeOfReckoning_287 (by decide) ?_
  refine zr_cSi (st := []) dX5_shapeOfReckoning_288 mw_X5_pack wd_668 wd_669 [.int (1 : Int32), .int (5 : Int32), .int (1 : Int32)] rfl rfl (Nat.le_of_ble_eq_true rfl) (show d - 1 + 1 ≤ d by omega) h (fun o1 e2 => tX5_pack (d := d - 1) (by omega) e2) (fun o1 e2 h => ?_)
  cases h
  exact zv_iret dX5_shapeOfReckoning_291 rfl
def mX5_shapeOfReckoning_308 (N : Nat)  (x : zv_X) : Option (zv_X × Int32) := (mX5_pack N (1 : Int32) (9 : Int32) (2 : Int32) x).bind fun o1 => some (o1.1, o1.2)
theorem kX5_shapeOfReckoning_308 {d : Nat} {x0 : zv_X} {o : (zv_X × Int32)} (hd : 1 ≤ d) {N : Nat}  (x : zv_X) (h : mX5_shapeOfReckoning_308 N  x = some o) : zv_V (fX5_shapeOfReckoning d x0 o) 308 [] [] x := by
  unfold mX5_shapeOfReckoning_308 at h
  refine zv_iconst (v := 1) dX5_shapeOfReckoning_308 (by decide) ?_
  refine zv_bipush (v := 9) dX5_shapeOfReckoning_309 (by decide) ?_
  refine zv_iconst (v := 2) dX5_shapeOfReckoning_311 (by decide) ?_
  refine zr_cSi (st := []) dX5_shapeOfReckoning_312 mw_X5_pack wd_668 wd_669 [.int (1 : Int32), .int (9 : Int32), .int (2 : Int32)] rfl rfl (Nat.le_of_ble_eq_true rfl) (show d - 1 + 1 ≤ d by omega) h (fun o1 e2 => tX5_pack (d := d - 1) (by omega) e2) (fun o1 e2 h => ?_)
  cases h
  exact zv_iret dX5_shapeOfReckoning_315 rfl
def mX5_shapeOfReckoning_300 (N : Nat)  (x : zv_X) : Option (zv_X × Int32) := (mX5_pack N (1 : Int32) (10 : Int32) (2 : Int32) x).bind fun o1 => some (o1.1, o1.2)
theorem kX5_shapeOfReckoning_300 {d : Nat} {x0 : zv_X} {o : (zv_X × Int32)} (hd : 1 ≤ d) {N : Nat}  (x : zv_X) (h : mX5_shapeOfReckoning_300 N  x = some o) : zv_V (fX5_shapeOfReckoning d x0 o) 300 [] [] x := by
  unfold mX5_shapeOfReckoning_300 at h
  refine zv_iconst (v := 1) dX5_shapeOfReckoning_300 (by decide) ?_
  refine zv_bipush (v := 10) dX5_shapeOfReckoning_301 (by decide) ?_
  refine zv_iconst (v := 2) dX5_shapeOfReckoning_303 (by decide) ?_
  refine zr_cSi (st := []) dX5_shapeOfReckoning_304 mw_X5_pack wd_668 wd_669 [.int (1 : Int32), .int (10 : Int32), .int (2 : Int32)] rfl rfl (Nat.le_of_ble_eq_true rfl) (show d - 1 + 1 ≤ d by omega) h (fun o1 e2 => tX5_pack (d := d - 1) (by omega) e2) (fun o1 e2 h => ?_)
  cases h
  exact zv_iret dX5_shapeOfReckoning_307 rfl
def mX5_shapeOfReckoning_0 (N : Nat) (l0 : Int32) (x : zv_X) : Option (zv_X × Int32) := if l0 = (87 : Int32) then (mX5_shapeOfReckoning_264 N x) else if l0 = (88 : Int32) then ((mX5_pack N (1 : Int32) (2 : Int32) (0 : Int32) x).bind fun o2 => some (o2.1, o2.2)) else if l0 = (89 : Int32) then (mX5_shapeOfReckoning_264 N x) else if l0 = (90 : Int32) then (mX5_shapeOfReckoning_359 N x) else if l0 = (91 : Int32) then (mX5_shapeOfReckoning_359 N x) else if l0 = (92 : Int32) then (mX5_shapeOfReckoning_359 N x) else if l0 = (93 : Int32) then (mX5_shapeOfReckoning_359 N x) else if l0 = (94 : Int32) then (mX5_shapeOfReckoning_359 N x) else if l0 = (95 : Int32) then (mX5_shapeOfReckoning_264 N x) else if l0 = (96 : Int32) then (mX5_shapeOfReckoning_278 N x) else if l0 = (97 : Int32) then (mX5_shapeOfReckoning_292 N x) else if l0 = (98 : Int32) then (mX5_shapeOfReckoning_359 N x) else if l0 = (99 : Int32) then (mX5_shapeOfReckoning_359 N x) else if l0 = (100 : Int32) then (mX5_shapeOfReckoning_278 N x) else if l0 = (101 : Int32) then (mX5_shapeOfReckoning_292 N x) else if l0 = (102 : Int32) then (mX5_shapeOfReckoning_359 N x) else if l0 = (103 : Int32) then (mX5_shapeOfReckoning_359 N x) else if l0 = (104 : Int32) then (mX5_shapeOfReckoning_278 N x) else if l0 = (105 : Int32) then (mX5_shapeOfReckoning_292 N x) else if l0 = (106 : Int32) then (mX5_shapeOfReckoning_359 N x) else if l0 = (107 : Int32) then (mX5_shapeOfReckoning_359 N x) else if l0 = (108 : Int32) then (mX5_shapeOfReckoning_278 N x) else if l0 = (109 : Int32) then (mX5_shapeOfReckoning_292 N x) else if l0 = (110 : Int32) then (mX5_shapeOfReckoning_359 N x) else if l0 = (111 : Int32) then (mX5_shapeOfReckoning_359 N x) else if l0 = (112 : Int32) then (mX5_shapeOfReckoning_278 N x) else if l0 = (113 : Int32) then (mX5_shapeOfReckoning_292 N x) else if l0 = (114 : Int32) then (mX5_shapeOfReckoning_359 N x) else if l0 = (115 : Int32) then (mX5_shapeOfReckoning_359 N x) else if l0 = (116 : Int32) then (mX5_shapeOfReckoning_316 N x) else if l0 = (117 : Int32) then ((mX5_pack N (1 : Int32) (2 : Int32) (2 : Int32) x).bind fun o33 => some (o33.1, o33.2)) else if l0 = (118 : Int32) then (mX5_shapeOfReckoning_359 N x) else if l0 = (119 : Int32) then (mX5_shapeOfReckoning_359 N x) else if l0 = (120 : Int32) then (mX5_shapeOfReckoning_285 N x) else if l0 = (121 : Int32) then (mX5_shapeOfReckoning_308 N x) else if l0 = (122 : Int32) then (mX5_shapeOfReckoning_285 N x) else if l0 = (123 : Int32) then (mX5_shapeOfReckoning_308 N x) else if l0 = (124 : Int32) then (mX5_shapeOfReckoning_285 N x) else if l0 = (125 : Int32) then (mX5_shapeOfReckoning_308 N x) else if l0 = (126 : Int32) then (mX5_shapeOfReckoning_285 N x) else if l0 = (127 : Int32) then (mX5_shapeOfReckoning_300 N x) else if l0 = (128 : Int32) then (mX5_shapeOfReckoning_285 N x) else if l0 = (129 : Int32) then (mX5_shapeOfReckoning_300 N x) else if l0 = (130 : Int32) then (mX5_shapeOfReckoning_285 N x) else if l0 = (131 : Int32) then (mX5_shapeOfReckoning_300 N x) else if l0 = (132 : Int32) then ((mX5_pack N (3 : Int32) (0 : Int32) (0 : Int32) x).bind fun o50 => some (o50.1, o50.2)) else if l0 = (133 : Int32) then ((mX5_pack N (1 : Int32) (1 : Int32) (2 : Int32) x).bind fun o53 => some (o53.1, o53.2)) else if l0 = (134 : Int32) then (mX5_shapeOfReckoning_359 N x) else if l0 = (135 : Int32) then (mX5_shapeOfReckoning_359 N x) else if l0 = (136 : Int32) then ((mX5_pack N (1 : Int32) (2 : Int32) (1 : Int32) x).bind fun o58 => some (o58.1, o58.2)) else if l0 = (137 : Int32) then (mX5_shapeOfReckoning_359 N x) else if l0 = (138 : Int32) then (mX5_shapeOfReckoning_359 N x) else if l0 = (139 : Int32) then (mX5_shapeOfReckoning_359 N x) else if l0 = (140 : Int32) then (mX5_shapeOfReckoning_359 N x) else if l0 = (141 : Int32) then (mX5_shapeOfReckoning_359 N x) else if l0 = (142 : Int32) then (mX5_shapeOfReckoning_359 N x) else if l0 = (143 : Int32) then (mX5_shapeOfReckoning_359 N x) else if l0 = (144 : Int32) then (mX5_shapeOfReckoning_359 N x) else if l0 = (145 : Int32) then (mX5_shapeOfReckoning_316 N x) else if l0 = (146 : Int32) then (mX5_shapeOfReckoning_316 N x) else if l0 = (147 : Int32) then (mX5_shapeOfReckoning_316 N x) else if l0 = (148 : Int32) then ((mX5_pack N (1 : Int32) (10 : Int32) (1 : Int32) x).bind fun o72 => some (o72.1, o72.2)) else (mX5_shapeOfReckoning_359 N x)
theorem kX5_shapeOfReckoning_0 {d : Nat} {x0 : zv_X} {o : (zv_X × Int32)} (hd : 1 ≤ d) {N : Nat} (l0 : Int32) (x : zv_X) (h : mX5_shapeOfReckoning_0 N l0 x = some o) : zv_V (fX5_shapeOfReckoning d x0 o) 0 [(0, .int l0)] [] x := by
  unfold mX5_shapeOfReckoning_0 at h
  refine zv_iload_n (n := 0) dX5_shapeOfReckoning_0 rfl rfl ?_
  rcases zif h with ⟨c1, h⟩ | ⟨c1, h⟩
  · refine zr_tabIn (tgt := 264) (off := 263) c1 dX5_shapeOfReckoning_1 (by decide) (by decide) (by decide) (by decide) ?_
    exact zv_fewer [] rfl (kX5_shapeOfReckoning_264 hd _ h)
  rcases zif h with ⟨c4, h⟩ | ⟨c4, h⟩
  · refine zr_tabIn (tgt := 271) (off := 270) c4 dX5_shapeOfReckoning_1 (by decide) (by decide) (by decide) (by decide) ?_
    refine zv_iconst (v := 1) dX5_shapeOfReckoning_271 (by decide) ?_
    refine zv_iconst (v := 2) dX5_shapeOfReckoning_272 (by decide) ?_
    refine zv_iconst (v := 0) dX5_shapeOfReckoning_273 (by decide) ?_
    refine zr_cSi (st := []) dX5_shapeOfReckoning_274 mw_X5_pack wd_668 wd_669 [.int (1 : Int32), .int (2 : Int32), .int (0 : Int32)] rfl rfl (Nat.le_of_ble_eq_true rfl) (show d - 1 + 1 ≤ d by omega) h (fun o2 e3 => tX5_pack (d := d - 1) (by omega) e3) (fun o2 e3 h => ?_)
    cases h
    exact zv_iret dX5_shapeOfReckoning_277 rfl
  rcases zif h with ⟨c5, h⟩ | ⟨c5, h⟩
  · refine zr_tabIn (tgt := 264) (off := 263) c5 dX5_shapeOfReckoning_1 (by decide) (by decide) (by decide) (by decide) ?_
    exact zv_fewer [] rfl (kX5_shapeOfReckoning_264 hd _ h)
  rcases zif h with ⟨c6, h⟩ | ⟨c6, h⟩
  · refine zr_tabIn (tgt := 359) (off := 358) c6 dX5_shapeOfReckoning_1 (by decide) (by decide) (by decide) (by decide) ?_
    exact zv_fewer [] rfl (kX5_shapeOfReckoning_359 hd _ h)
  rcases zif h with ⟨c7, h⟩ | ⟨c7, h⟩
  · refine zr_tabIn (tgt := 359) (off := 358) c7 dX5_shapeOfReckoning_1 (by decide) (by decide) (by decide) (by decide) ?_
    exact zv_fewer [] rfl (kX5_shapeOfReckoning_359 hd _ h)
  rcases zif h with ⟨c8, h⟩ | ⟨c8, h⟩
  · refine zr_tabIn (tgt := 359) (off := 358) c8 dX5_shapeOfReckoning_1 (by decide) (by decide) (by decide) (by decide) ?_
    exact zv_fewer [] rfl (kX5_shapeOfReckoning_359 hd _ h)
  rcases zif h with ⟨c9, h⟩ | ⟨c9, h⟩
  · refine zr_tabIn (tgt := 359) (off := 358) c9 dX5_shapeOfReckoning_1 (by decide) (by decide) (by decide) (by decide) ?_
    exact zv_fewer [] rfl (kX5_shapeOfReckoning_359 hd _ h)
  rcases zif h with ⟨c10, h⟩ | ⟨c10, h⟩
  · refine zr_tabIn (tgt := 359) (off := 358) c10 dX5_shapeOfReckoning_1 (by decide) (by decide) (by decide) (by decide) ?_
    exact zv_fewer [] rfl (kX5_shapeOfReckoning_359 hd _ h)
  rcases zif h with ⟨c11, h⟩ | ⟨c11, h⟩
  · refine zr_tabIn (tgt := 264) (off := 263) c11 dX5_shapeOfReckoning_1 (by decide) (by decide) (by decide) (by decide) ?_
    exact zv_fewer [] rfl (kX5_shapeOfReckoning_264 hd _ h)
  rcases zif h with ⟨c12, h⟩ | ⟨c12, h⟩
  · refine zr_tabIn (tgt := 278) (off := 277) c12 dX5_shapeOfReckoning_1 (by decide) (by decide) (by decide) (by decide) ?_
    exact zv_fewer [] rfl (kX5_shapeOfReckoning_278 hd _ h)
  rcases zif h with ⟨c13, h⟩ | ⟨c13, h⟩
  · refine zr_tabIn (tgt := 292) (off := 291) c13 dX5_shapeOfReckoning_1 (by decide) (by decide) (by decide) (by decide) ?_
    exact zv_fewer [] rfl (kX5_shapeOfReckoning_292 hd _ h)
  rcases zif h with ⟨c14, h⟩ | ⟨c14, h⟩
  · refine zr_tabIn (tgt := 359) (off := 358) c14 dX5_shapeOfReckoning_1 (by decide) (by decide) (by decide) (by decide) ?_
    exact zv_fewer [] rfl (kX5_shapeOfReckoning_359 hd _ h)
  rcases zif h with ⟨c15, h⟩ | ⟨c15, h⟩
  · refine zr_tabIn (tgt := 359) (off := 358) c15 dX5_shapeOfReckoning_1 (by decide) (by decide) (by decide) (by decide) ?_
    exact zv_fewer [] rfl (kX5_shapeOfReckoning_359 hd _ h)
  rcases zif h with ⟨c16, h⟩ | ⟨c16, h⟩
  · refine zr_tabIn (tgt := 278) (off := 277) c16 dX5_shapeOfReckoning_1 (by decide) (by decide) (by decide) (by decide) ?_
    exact zv_fewer [] rfl (kX5_shapeOfReckoning_278 hd _ h)
  rcases zif h with ⟨c17, h⟩ | ⟨c17, h⟩
  · refine zr_tabIn (tgt := 292) (off := 291) c17 dX5_shapeOfReckoning_1 (by decide) (by decide) (by decide) (by decide) ?_
    exact zv_fewer [] rfl (kX5_shapeOfReckoning_292 hd _ h)
  rcases zif h with ⟨c18, h⟩ | ⟨c18, h⟩
  · refine zr_tabIn (tgt := 359) (off := 358) c18 dX5_shapeOfReckoning_1 (by decide) (by decide) (by decide) (by decide) ?_
    exact zv_fewer [] rfl (kX5_shapeOfReckoning_359 hd _ h)
  rcases zif h with ⟨c19, h⟩ | ⟨c19, h⟩
  · refine zr_tabIn (tgt := 359) (off := 358) c19 dX5_shapeOfReckoning_1 (by decide) (by decide) (by decide) (by decide) ?_
    exact zv_fewer [] rfl (kX5_shapeOfReckoning_359 hd _ h)
  rcases zif h with ⟨c20, h⟩ | ⟨c20, h⟩
  · refine zr_tabIn (tgt := 278) (off := 277) c20 dX5_shapeOfReckoning_1 (by decide) (by decide) (by decide) (by decide) ?_
    exact zv_fewer [] rfl (kX5_shapeOfReckoning_278 hd _ h)
  rcases zif h with ⟨c21, h⟩ | ⟨c21, h⟩
  · refine zr_tabIn (tgt := 292) (off := 291) c21 dX5_shapeOfReckoning_1 (by decide) (by decide) (by decide) (by decide) ?_
    exact zv_fewer [] rfl (kX5_shapeOfReckoning_292 hd _ h)
  rcases zif h with ⟨c22, h⟩ | ⟨c22, h⟩
  · refine zr_tabIn (tgt := 359) (off := 358) c22 dX5_shapeOfReckoning_1 (by decide) (by decide) (by decide) (by decide) ?_
    exact zv_fewer [] rfl (kX5_shapeOfReckoning_359 hd _ h)
  rcases zif h with ⟨c23, h⟩ | ⟨c23, h⟩
  · refine zr_tabIn (tgt := 359) (off := 358) c23 dX5_shapeOfReckoning_1 (by decide) (by decide) (by decide) (by decide) ?_
    exact zv_fewer [] rfl (kX5_shapeOfReckoning_359 hd _ h)
  rcases zif h with ⟨c24, h⟩ | ⟨c24, h⟩
  · refine zr_tabIn (tgt := 278) (off := 277) c24 dX5_shapeOfReckoning_1 (by decide) (by decide) (by decide) (by decide) ?_
    exact zv_fewer [] rfl (kX5_shapeOfReckoning_278 hd _ h)
  rcases zif h with ⟨c25, h⟩ | ⟨c25, h⟩
  · refine zr_tabIn (tgt := 292) (off := 291) c25 dX5_shapeOfReckoning_1 (by decide) (by decide) (by decide) (by decide) ?_
    exact zv_fewer [] rfl (kX5_shapeOfReckoning_292 hd _ h)
  rcases zif h with ⟨c26, h⟩ | ⟨c26, h⟩
  · refine zr_tabIn (tgt := 359) (off := 358) c26 dX5_shapeOfReckoning_1 (by decide) (by decide) (by decide) (by decide) ?_
    exact zv_fewer [] rfl (kX5_shapeOfReckoning_359 hd _ h)
  rcases zif h with ⟨c27, h⟩ | ⟨c27, h⟩
  · refine zr_tabIn (tgt := 359) (off := 358) c27 dX5_shapeOfReckoning_1 (by decide) (by decide) (by decide) (by decide) ?_
    exact zv_fewer [] rfl (kX5_shapeOfReckoning_359 hd _ h)
  rcases zif h with ⟨c28, h⟩ | ⟨c28, h⟩
  · refine zr_tabIn (tgt := 278) (off := 277) c28 dX5_shapeOfReckoning_1 (by decide) (by decide) (by decide) (by decide) ?_
    exact zv_fewer [] rfl (kX5_shapeOfReckoning_278 hd _ h)
  rcases zif h with ⟨c29, h⟩ | ⟨c29, h⟩
  · refine zr_tabIn (tgt := 292) (off := 291) c29 dX5_shapeOfReckoning_1 (by decide) (by decide) (by decide) (by decide) ?_
    exact zv_fewer [] rfl (kX5_shapeOfReckoning_292 hd _ h)
  rcases zif h with ⟨c30, h⟩ | ⟨c30, h⟩
  · refine zr_tabIn (tgt := 359) (off := 358) c30 dX5_shapeOfReckoning_1 (by decide) (by decide) (by decide) (by decide) ?_
    exact zv_fewer [] rfl (kX5_shapeOfReckoning_359 hd _ h)
  rcases zif h with ⟨c31, h⟩ | ⟨c31, h⟩
  · refine zr_tabIn (tgt := 359) (off := 358) c31 dX5_shapeOfReckoning_1 (by decide) (by decide) (by decide) (by decide) ?_
    exact zv_fewer [] rfl (kX5_shapeOfReckoning_359 hd _ h)
  rcases zif h with ⟨c32, h⟩ | ⟨c32, h⟩
  · refine zr_tabIn (tgt := 316) (off := 315) c32 dX5_shapeOfReckoning_1 (by decide) (by decide) (by decide) (by decide) ?_
    exact zv_fewer [] rfl (kX5_shapeOfReckoning_316 hd _ h)
  rcases zif h with ⟨c35, h⟩ | ⟨c35, h⟩
  · refine zr_tabIn (tgt := 323) (off := 322) c35 dX5_shapeOfReckoning_1 (by decide) (by decide) (by decide) (by decide) ?_
    refine zv_iconst (v := 1) dX5_shapeOfReckoning_323 (by decide) ?_
    refine zv_iconst (v := 2) dX5_shapeOfReckoning_324 (by decide) ?_
    refine zv_iconst (v := 2) dX5_shapeOfReckoning_325 (by decide) ?_
    refine zr_cSi (st := []) dX5_shapeOfReckoning_326 mw_X5_pack wd_668 wd_669 [.int (1 : Int32), .int (2 : Int32), .int (2 : Int32)] rfl rfl (Nat.le_of_ble_eq_true rfl) (show d - 1 + 1 ≤ d by omega) h (fun o33 e34 => tX5_pack (d := d - 1) (by omega) e34) (fun o33 e34 h => ?_)
    cases h
    exact zv_iret dX5_shapeOfReckoning_329 rfl
  rcases zif h with ⟨c36, h⟩ | ⟨c36, h⟩
  · refine zr_tabIn (tgt := 359) (off := 358) c36 dX5_shapeOfReckoning_1 (by decide) (by decide) (by decide) (by decide) ?_
    exact zv_fewer [] rfl (kX5_shapeOfReckoning_359 hd _ h)
  rcases zif h with ⟨c37, h⟩ | ⟨c37, h⟩
  · refine zr_tabIn (tgt := 359) (off := 358) c37 dX5_shapeOfReckoning_1 (by decide) (by decide) (by decide) (by decide) ?_
    exact zv_fewer [] rfl (kX5_shapeOfReckoning_359 hd _ h)
  rcases zif h with ⟨c38, h⟩ | ⟨c38, h⟩
  · refine zr_tabIn (tgt := 285) (off := 284) c38 dX5_shapeOfReckoning_1 (by decide) (by decide) (by decide) (by decide) ?_
    exact zv_fewer [] rfl (kX5_shapeOfReckoning_285 hd _ h)
  rcases zif h with ⟨c39, h⟩ | ⟨c39, h⟩
  · refine zr_tabIn (tgt := 308) (off := 307) c39 dX5_shapeOfReckoning_1 (by decide) (by decide) (by decide) (by decide) ?_
    exact zv_fewer [] rfl (kX5_shapeOfReckoning_308 hd _ h)
  rcases zif h with ⟨c40, h⟩ | ⟨c40, h⟩
  · refine zr_tabIn (tgt := 285) (off := 284) c40 dX5_shapeOfReckoning_1 (by decide) (by decide) (by decide) (by decide) ?_
    exact zv_fewer [] rfl (kX5_shapeOfReckoning_285 hd _ h)
  rcases zif h with ⟨c41, h⟩ | ⟨c41, h⟩
  · refine zr_tabIn (tgt := 308) (off := 307) c41 dX5_shapeOfReckoning_1 (by decide) (by decide) (by decide) (by decide) ?_
    exact zv_fewer [] rfl (kX5_shapeOfReckoning_308 hd _ h)
  rcases zif h with ⟨c42, h⟩ | ⟨c42, h⟩
  · refine zr_tabIn (tgt := 285) (off := 284) c42 dX5_shapeOfReckoning_1 (by decide) (by decide) (by decide) (by decide) ?_
    exact zv_fewer [] rfl (kX5_shapeOfReckoning_285 hd _ h)
  rcases zif h with ⟨c43, h⟩ | ⟨c43, h⟩
  · refine zr_tabIn (tgt := 308) (off := 307) c43 dX5_shapeOfReckoning_1 (by decide) (by decide) (by decide) (by decide) ?_
    exact zv_fewer [] rfl (kX5_shapeOfReckoning_308 hd _ h)
  rcases zif h with ⟨c44, h⟩ | ⟨c44, h⟩
  · refine zr_tabIn (tgt := 285) (off := 284) c44 dX5_shapeOfReckoning_1 (by decide) (by decide) (by decide) (by decide) ?_
    exact zv_fewer [] rfl (kX5_shapeOfReckoning_285 hd _ h)
  rcases zif h with ⟨c45, h⟩ | ⟨c45, h⟩
  · refine zr_tabIn (tgt := 300) (off := 299) c45 dX5_shapeOfReckoning_1 (by decide) (by decide) (by decide) (by decide) ?_
    exact zv_fewer [] rfl (kX5_shapeOfReckoning_300 hd _ h)
  rcases zif h with ⟨c46, h⟩ | ⟨c46, h⟩
  · refine zr_tabIn (tgt := 285) (off := 284) c46 dX5_shapeOfReckoning_1 (by decide) (by decide) (by decide) (by decide) ?_
    exact zv_fewer [] rfl (kX5_shapeOfReckoning_285 hd _ h)
  rcases zif h with ⟨c47, h⟩ | ⟨c47, h⟩
  · refine zr_tabIn (tgt := 300) (off := 299) c47 dX5_shapeOfReckoning_1 (by decide) (by decide) (by decide) (by decide) ?_
    exact zv_fewer [] rfl (kX5_shapeOfReckoning_300 hd _ h)
  rcases zif h with ⟨c48, h⟩ | ⟨c48, h⟩
  · refine zr_tabIn (tgt := 285) (off := 284) c48 dX5_shapeOfReckoning_1 (by decide) (by decide) (by decide) (by decide) ?_
    exact zv_fewer [] rfl (kX5_shapeOfReckoning_285 hd _ h)
  rcases zif h with ⟨c49, h⟩ | ⟨c49, h⟩
  · refine zr_tabIn (tgt := 300) (off := 299) c49 dX5_shapeOfReckoning_1 (by decide) (by decide) (by decide) (by decide) ?_
    exact zv_fewer [] rfl (kX5_shapeOfReckoning_300 hd _ h)
  rcases zif h with ⟨c52, h⟩ | ⟨c52, h⟩
  · refine zr_tabIn (tgt := 330) (off := 329) c52 dX5_shapeOfReckoning_1 (by decide) (by decide) (by decide) (by decide) ?_
    refine zv_iconst (v := 3) dX5_shapeOfReckoning_330 (by decide) ?_
    refine zv_iconst (v := 0) dX5_shapeOfReckoning_331 (by decide) ?_
    refine zv_iconst (v := 0) dX5_shapeOfReckoning_332 (by decide) ?_
    refine zr_cSi (st := []) dX5_shapeOfReckoning_333 mw_X5_pack wd_668 wd_669 [.int (3 : Int32), .int (0 : Int32), .int (0 : Int32)] rfl rfl (Nat.le_of_ble_eq_true rfl) (show d - 1 + 1 ≤ d by omega) h (fun o50 e51 => tX5_pack (d := d - 1) (by omega) e51) (fun o50 e51 h => ?_)
    cases h
    exact zv_iret dX5_shapeOfReckoning_336 rfl
  rcases zif h with ⟨c55, h⟩ | ⟨c55, h⟩
  · refine zr_tabIn (tgt := 337) (off := 336) c55 dX5_shapeOfReckoning_1 (by decide) (by decide) (by decide) (by decide) ?_
    refine zv_iconst (v := 1) dX5_shapeOfReckoning_337 (by decide) ?_
    refine zv_iconst (v := 1) dX5_shapeOfReckoning_338 (by decide) ?_
    refine zv_iconst (v := 2) dX5_shapeOfReckoning_339 (by decide) ?_
    refine zr_cSi (st := []) dX5_shapeOfReckoning_340 mw_X5_pack wd_668 wd_669 [.int (1 : Int32), .int (1 : Int32), .int (2 : Int32)] rfl rfl (Nat.le_of_ble_eq_true rfl) (show d - 1 + 1 ≤ d by omega) h (fun o53 e54 => tX5_pack (d := d - 1) (by omega) e54) (fun o53 e54 h => ?_)
    cases h
    exact zv_iret dX5_shapeOfReckoning_343 rfl
  rcases zif h with ⟨c56, h⟩ | ⟨c56, h⟩
  · refine zr_tabIn (tgt := 359) (off := 358) c56 dX5_shapeOfReckoning_1 (by decide) (by decide) (by decide) (by decide) ?_
    exact zv_fewer [] rfl (kX5_shapeOfReckoning_359 hd _ h)
  rcases zif h with ⟨c57, h⟩ | ⟨c57, h⟩
  · refine zr_tabIn (tgt := 359) (off := 358) c57 dX5_shapeOfReckoning_1 (by decide) (by decide) (by decide) (by decide) ?_
    exact zv_fewer [] rfl (kX5_shapeOfReckoning_359 hd _ h)
  rcases zif h with ⟨c60, h⟩ | ⟨c60, h⟩
  · refine zr_tabIn (tgt := 344) (off := 343) c60 dX5_shapeOfReckoning_1 (by decide) (by decide) (by decide) (by decide) ?_
    refine zv_iconst (v := 1) dX5_shapeOfReckoning_344 (by decide) ?_
    refine zv_iconst (v := 2) dX5_shapeOfReckoning_345 (by decide) ?_
    refine zv_iconst (v := 1) dX5_shapeOfReckoning_346 (by decide) ?_
    refine zr_cSi (st := []) dX5_shapeOfReckoning_347 mw_X5_pack wd_668 wd_669 [.int (1 : Int32), .int (2 : Int32), .int (1 : Int32)] rfl rfl (Nat.le_of_ble_eq_true rfl) (show d - 1 + 1 ≤ d by omega) h (fun o58 e59 => tX5_pack (d := d - 1) (by omega) e59) (fun o58 e59 h => ?_)
    cases h
    exact zv_iret dX5_shapeOfReckoning_350 rfl
  rcases zif h with ⟨c61, h⟩ | ⟨c61, h⟩
  · refine zr_tabIn (tgt := 359) (off := 358) c61 dX5_shapeOfReckoning_1 (by decide) (by decide) (by decide) (by decide) ?_
    exact zv_fewer [] rfl (kX5_shapeOfReckoning_359 hd _ h)
  rcases zif h with ⟨c62, h⟩ | ⟨c62, h⟩
  · refine zr_tabIn (tgt := 359) (off := 358) c62 dX5_shapeOfReckoning_1 (by decide) (by decide) (by decide) (by decide) ?_
    exact zv_fewer [] rfl (kX5_shapeOfReckoning_359 hd _ h)
  rcases zif h with ⟨c63, h⟩ | ⟨c63, h⟩
  · refine zr_tabIn (tgt := 359) (off := 358) c63 dX5_shapeOfReckoning_1 (by decide) (by decide) (by decide) (by decide) ?_
    exact zv_fewer [] rfl (kX5_shapeOfReckoning_359 hd _ h)
  rcases zif h with ⟨c64, h⟩ | ⟨c64, h⟩
  · refine zr_tabIn (tgt := 359) (off := 358) c64 dX5_shapeOfReckoning_1 (by decide) (by decide) (by decide) (by decide) ?_
    exact zv_fewer [] rfl (kX5_shapeOfReckoning_359 hd _ h)
  rcases zif h with ⟨c65, h⟩ | ⟨c65, h⟩
  · refine zr_tabIn (tgt := 359) (off := 358) c65 dX5_shapeOfReckoning_1 (by decide) (by decide) (by decide) (by decide) ?_
    exact zv_fewer [] rfl (kX5_shapeOfReckoning_359 hd _ h)
  rcases zif h with ⟨c66, h⟩ | ⟨c66, h⟩
  · refine zr_tabIn (tgt := 359) (off := 358) c66 dX5_shapeOfReckoning_1 (by decide) (by decide) (by decide) (by decide) ?_
    exact zv_fewer [] rfl (kX5_shapeOfReckoning_359 hd _ h)
  rcases zif h with ⟨c67, h⟩ | ⟨c67, h⟩
  · refine zr_tabIn (tgt := 359) (off := 358) c67 dX5_shapeOfReckoning_1 (by decide) (by decide) (by decide) (by decide) ?_
    exact zv_fewer [] rfl (kX5_shapeOfReckoning_359 hd _ h)
  rcases zif h with ⟨c68, h⟩ | ⟨c68, h⟩
  · refine zr_tabIn (tgt := 359) (off := 358) c68 dX5_shapeOfReckoning_1 (by decide) (by decide) (by decide) (by decide) ?_
    exact zv_fewer [] rfl (kX5_shapeOfReckoning_359 hd _ h)
  rcases zif h with ⟨c69, h⟩ | ⟨c69, h⟩
  · refine zr_tabIn (tgt := 316) (off := 315) c69 dX5_shapeOfReckoning_1 (by decide) (by decide) (by decide) (by decide) ?_
    exact zv_fewer [] rfl (kX5_shapeOfReckoning_316 hd _ h)
  rcases zif h with ⟨c70, h⟩ | ⟨c70, h⟩
  · refine zr_tabIn (tgt := 316) (off := 315) c70 dX5_shapeOfReckoning_1 (by decide) (by decide) (by decide) (by decide) ?_
    exact zv_fewer [] rfl (kX5_shapeOfReckoning_316 hd _ h)
  rcases zif h with ⟨c71, h⟩ | ⟨c71, h⟩
  · refine zr_tabIn (tgt := 316) (off := 315) c71 dX5_shapeOfReckoning_1 (by decide) (by decide) (by decide) (by decide) ?_
    exact zv_fewer [] rfl (kX5_shapeOfReckoning_316 hd _ h)
  rcases zif h with ⟨c74, h⟩ | ⟨c74, h⟩
  · refine zr_tabIn (tgt := 351) (off := 350) c74 dX5_shapeOfReckoning_1 (by decide) (by decide) (by decide) (by decide) ?_
    refine zv_iconst (v := 1) dX5_shapeOfReckoning_351 (by decide) ?_
    refine zv_bipush (v := 10) dX5_shapeOfReckoning_352 (by decide) ?_
    refine zv_iconst (v := 1) dX5_shapeOfReckoning_354 (by decide) ?_
    refine zr_cSi (st := []) dX5_shapeOfReckoning_355 mw_X5_pack wd_668 wd_669 [.int (1 : Int32), .int (10 : Int32), .int (1 : Int32)] rfl rfl (Nat.le_of_ble_eq_true rfl) (show d - 1 + 1 ≤ d by omega) h (fun o72 e73 => tX5_pack (d := d - 1) (by omega) e73) (fun o72 e73 h => ?_)
    cases h
    exact zv_iret dX5_shapeOfReckoning_358 rfl
  refine zv_tableOut (tgt := 359) dX5_shapeOfReckoning_1 (by have := lv_neT c1 (show (87 : Int32).toInt = 87 by decide); have := lv_neT c4 (show (88 : Int32).toInt = 88 by decide); have := lv_neT c5 (show (89 : Int32).toInt = 89 by decide); have := lv_neT c6 (show (90 : Int32).toInt = 90 by decide); have := lv_neT c7 (show (91 : Int32).toInt = 91 by decide); have := lv_neT c8 (show (92 : Int32).toInt = 92 by decide); have := lv_neT c9 (show (93 : Int32).toInt = 93 by decide); have := lv_neT c10 (show (94 : Int32).toInt = 94 by decide); have := lv_neT c11 (show (95 : Int32).toInt = 95 by decide); have := lv_neT c12 (show (96 : Int32).toInt = 96 by decide); have := lv_neT c13 (show (97 : Int32).toInt = 97 by decide); have := lv_neT c14 (show (98 : Int32).toInt = 98 by decide); have := lv_neT c15 (show (99 : Int32).toInt = 99 by decide); have := lv_neT c16 (show (100 : Int32).toInt = 100 by decide); have := lv_neT c17 (show (101 : Int32).toInt = 101 by decide); have := lv_neT c18 (show (102 : Int32).toInt = 102 by decide); have := lv_neT c19 (show (103 : Int32).toInt = 103 by decide); have := lv_neT c20 (show (104 : Int32).toInt = 104 by decide); have := lv_neT c21 (show (105 : Int32).toInt = 105 by decide); have := lv_neT c22 (show (106 : Int32).toInt = 106 by decide); have := lv_neT c23 (show (107 : Int32).toInt = 107 by decide); have := lv_neT c24 (show (108 : Int32).toInt = 108 by decide); have := lv_neT c25 (show (109 : Int32).toInt = 109 by decide); have := lv_neT c26 (show (110 : Int32).toInt = 110 by decide); have := lv_neT c27 (show (111 : Int32).toInt = 111 by decide); have := lv_neT c28 (show (112 : Int32).toInt = 112 by decide); have := lv_neT c29 (show (113 : Int32).toInt = 113 by decide); have := lv_neT c30 (show (114 : Int32).toInt = 114 by decide); have := lv_neT c31 (show (115 : Int32).toInt = 115 by decide); have := lv_neT c32 (show (116 : Int32).toInt = 116 by decide); have := lv_neT c35 (show (117 : Int32).toInt = 117 by decide); have := lv_neT c36 (show (118 : Int32).toInt = 118 by decide); have := lv_neT c37 (show (119 : Int32).toInt = 119 by decide); have := lv_neT c38 (show (120 : Int32).toInt = 120 by decide); have := lv_neT c39 (show (121 : Int32).toInt = 121 by decide); have := lv_neT c40 (show (122 : Int32).toInt = 122 by decide); have := lv_neT c41 (show (123 : Int32).toInt = 123 by decide); have := lv_neT c42 (show (124 : Int32).toInt = 124 by decide); have := lv_neT c43 (show (125 : Int32).toInt = 125 by decide); have := lv_neT c44 (show (126 : Int32).toInt = 126 by decide); have := lv_neT c45 (show (127 : Int32).toInt = 127 by decide); have := lv_neT c46 (show (128 : Int32).toInt = 128 by decide); have := lv_neT c47 (show (129 : Int32).toInt = 129 by decide); have := lv_neT c48 (show (130 : Int32).toInt = 130 by decide); have := lv_neT c49 (show (131 : Int32).toInt = 131 by decide); have := lv_neT c52 (show (132 : Int32).toInt = 132 by decide); have := lv_neT c55 (show (133 : Int32).toInt = 133 by decide); have := lv_neT c56 (show (134 : Int32).toInt = 134 by decide); have := lv_neT c57 (show (135 : Int32).toInt = 135 by decide); have := lv_neT c60 (show (136 : Int32).toInt = 136 by decide); have := lv_neT c61 (show (137 : Int32).toInt = 137 by decide); have := lv_neT c62 (show (138 : Int32).toInt = 138 by decide); have := lv_neT c63 (show (139 : Int32).toInt = 139 by decide); have := lv_neT c64 (show (140 : Int32).toInt = 140 by decide); have := lv_neT c65 (show (141 : Int32).toInt = 141 by decide); have := lv_neT c66 (show (142 : Int32).toInt = 142 by decide); have := lv_neT c67 (show (143 : Int32).toInt = 143 by decide); have := lv_neT c68 (show (144 : Int32).toInt = 144 by decide); have := lv_neT c69 (show (145 : Int32).toInt = 145 by decide); have := lv_neT c70 (show (146 : Int32).toInt = 146 by decide); have := lv_neT c71 (show (147 : Int32).toInt = 147 by decide); have := lv_neT c74 (show (148 : Int32).toInt = 148 by decide); omega) (by decide) ?_
  exact zv_fewer [] rfl (kX5_shapeOfReckoning_359 hd _ h)
def mX5_shapeOfReckoning (N : Nat) (a0 : Int32) (x : zv_X) : Option (zv_X × Int32) := mX5_shapeOfReckoning_0 N a0 x
theorem tX5_shapeOfReckoning {d : Nat} (hd : 1 ≤ d) {N : Nat} {x : zv_X} {a0 : Int32} {o : (zv_X × Int32)} (h : mX5_shapeOfReckoning N a0 x = some o) : zv_T d yX5_shapeOfReckoning cX5_shapeOfReckoning 1 ((some .int)) [.int a0] x o.1 (some (.int o.2)) := by
  unfold mX5_shapeOfReckoning at h
  exact zv_enter (by decide) (Nat.le_of_ble_eq_true rfl) (kX5_shapeOfReckoning_0 hd _ _ h)

abbrev fX5_shapeOfWay (d : Nat) (x0 : zv_X) (o : (zv_X × Int32)) : zv_G := (d, RX5, cX5_shapeOfWay, 1, (some .int), ("shapeOfWay", []), x0, o.1, zv_fin x0 o.1 (some (.int o.2)))
def mX5_shapeOfWay_184 (N : Nat)  (x : zv_X) : Option (zv_X × Int32) := (mX5_pack N (3 : Int32) (15 : Int32) (0 : Int32) x).bind fun o1 => some (o1.1, o1.2)
theorem kX5_shapeOfWay_184 {d : Nat} {x0 : zv_X} {o : (zv_X × Int32)} (hd : 1 ≤ d) {N : Nat}  (x : zv_X) (h : mX5_shapeOfWay_184 N  x = some o) : zv_V (fX5_shapeOfWay d x0 o) 184 [] [] x := by
  unfold mX5_shapeOfWay_184 at h
  refine zv_iconst (v := 3) dX5_shapeOfWay_184 (by decide) ?_
  refine zv_bipush (v := 15) dX5_shapeOfWay_185 (by decide) ?_
  refine zv_iconst (v := 0) dX5_shapeOfWay_187 (by decide) ?_
  refine zr_cSi (st := []) dX5_shapeOfWay_188 mw_X5_pack wd_668 wd_669 [.int (3 : Int32), .int (15 : Int32), .int (0 : Int32)] rfl rfl (Nat.le_of_ble_eq_true rfl) (show d - 1 + 1 ≤ d by omega) h (fun o1 e2 => tX5_pack (d := d - 1) (by omega) e2) (fun o1 e2 h => ?_)
  cases h
  exact zv_iret dX5_shapeOfWay_191 rfl
def mX5_shapeOfWay_234 (N : Nat)  (x : zv_X) : Option (zv_X × Int32) := some (x, (0 : Int32))
theorem kX5_shapeOfWay_234 {d : Nat} {x0 : zv_X} {o : (zv_X × Int32)} (hd : 1 ≤ d) {N : Nat}  (x : zv_X) (h : mX5_shapeOfWay_234 N  x = some o) : zv_V (fX5_shapeOfWay d x0 o) 234 [] [] x := by
  unfold mX5_shapeOfWay_234 at h
  refine zv_iconst (v := 0) dX5_shapeOfWay_234 (by decide) ?_
  cases h
  exact zv_iret dX5_shapeOfWay_235 rfl
def mX5_shapeOfWay_192 (N : Nat)  (x : zv_X) : Option (zv_X × Int32) := (mX5_pack N (3 : Int32) (3 : Int32) (0 : Int32) x).bind fun o1 => some (o1.1, o1.2)
theorem kX5_shapeOfWay_192 {d : Nat} {x0 : zv_X} {o : (zv_X × Int32)} (hd : 1 ≤ d) {N : Nat}  (x : zv_X) (h : mX5_shapeOfWay_192 N  x = some o) : zv_V (fX5_shapeOfWay d x0 o) 192 [] [] x := by
  unfold mX5_shapeOfWay_192 at h
  refine zv_iconst (v := 3) dX5_shapeOfWay_192 (by decide) ?_
  refine zv_iconst (v := 3) dX5_shapeOfWay_193 (by decide) ?_
  refine zv_iconst (v := 0) dX5_shapeOfWay_194 (by decide) ?_
  refine zr_cSi (st := []) dX5_shapeOfWay_195 mw_X5_pack wd_668 wd_669 [.int (3 : Int32), .int (3 : Int32), .int (0 : Int32)] rfl rfl (Nat.le_of_ble_eq_true rfl) (show d - 1 + 1 ≤ d by omega) h (fun o1 e2 => tX5_pack (d := d - 1) (by omega) e2) (fun o1 e2 h => ?_)
  cases h
  exact zv_iret dX5_shapeOfWay_198 rfl
def mX5_shapeOfWay_0 (N : Nat) (l0 : Int32) (x : zv_X) : Option (zv_X × Int32) := if (158 : Int32) < l0 then (if (164 : Int32) < l0 then (if l0 = (165 : Int32) then (mX5_shapeOfWay_184 N x) else if l0 = (166 : Int32) then (mX5_shapeOfWay_184 N x) else if l0 = (167 : Int32) then ((mX5_pack N (3 : Int32) (0 : Int32) (0 : Int32) x).bind fun o3 => some (o3.1, o3.2)) else if l0 = (168 : Int32) then (mX5_shapeOfWay_234 N x) else if l0 = (169 : Int32) then (mX5_shapeOfWay_234 N x) else if l0 = (170 : Int32) then (mX5_shapeOfWay_234 N x) else if l0 = (171 : Int32) then (mX5_shapeOfWay_234 N x) else if l0 = (172 : Int32) then ((mX5_pack N (1 : Int32) (1 : Int32) (0 : Int32) x).bind fun o10 => some (o10.1, o10.2)) else if l0 = (173 : Int32) then ((mX5_pack N (1 : Int32) (2 : Int32) (0 : Int32) x).bind fun o13 => some (o13.1, o13.2)) else if l0 = (174 : Int32) then (mX5_shapeOfWay_234 N x) else if l0 = (175 : Int32) then (mX5_shapeOfWay_234 N x) else if l0 = (176 : Int32) then ((mX5_pack N (1 : Int32) (3 : Int32) (0 : Int32) x).bind fun o18 => some (o18.1, o18.2)) else if l0 = (177 : Int32) then ((mX5_pack N (1 : Int32) (0 : Int32) (0 : Int32) x).bind fun o21 => some (o21.1, o21.2)) else if l0 = (178 : Int32) then (mX5_shapeOfWay_234 N x) else if l0 = (179 : Int32) then (mX5_shapeOfWay_234 N x) else if l0 = (180 : Int32) then (mX5_shapeOfWay_234 N x) else if l0 = (181 : Int32) then (mX5_shapeOfWay_234 N x) else if l0 = (182 : Int32) then (mX5_shapeOfWay_234 N x) else if l0 = (183 : Int32) then (mX5_shapeOfWay_234 N x) else if l0 = (184 : Int32) then (mX5_shapeOfWay_234 N x) else if l0 = (185 : Int32) then (mX5_shapeOfWay_234 N x) else if l0 = (186 : Int32) then (mX5_shapeOfWay_234 N x) else if l0 = (187 : Int32) then (mX5_shapeOfWay_234 N x) else if l0 = (188 : Int32) then (mX5_shapeOfWay_234 N x) else if l0 = (189 : Int32) then (mX5_shapeOfWay_234 N x) else if l0 = (190 : Int32) then (mX5_shapeOfWay_234 N x) else if l0 = (191 : Int32) then (mX5_shapeOfWay_234 N x) else if l0 = (192 : Int32) then (mX5_shapeOfWay_234 N x) else if l0 = (193 : Int32) then (mX5_shapeOfWay_234 N x) else if l0 = (194 : Int32) then (mX5_shapeOfWay_234 N x) else if l0 = (195 : Int32) then (mX5_shapeOfWay_234 N x) else if l0 = (196 : Int32) then (mX5_shapeOfWay_234 N x) else if l0 = (197 : Int32) then (mX5_shapeOfWay_234 N x) else if l0 = (198 : Int32) then (mX5_shapeOfWay_192 N x) else if l0 = (199 : Int32) then (mX5_shapeOfWay_192 N x) else (mX5_shapeOfWay_234 N x)) else ((mX5_pack N (3 : Int32) (5 : Int32) (0 : Int32) x).bind fun o46 => some (o46.1, o46.2))) else ((mX5_pack N (3 : Int32) (1 : Int32) (0 : Int32) x).bind fun o49 => some (o49.1, o49.2))
theorem kX5_shapeOfWay_0 {d : Nat} {x0 : zv_X} {o : (zv_X × Int32)} (hd : 1 ≤ d) {N : Nat} (l0 : Int32) (x : zv_X) (h : mX5_shapeOfWay_0 N l0 x = some o) : zv_V (fX5_shapeOfWay d x0 o) 0 [(0, .int l0)] [] x := by
  unfold mX5_shapeOfWay_0 at h
  refine zv_iload_n (n := 0) dX5_shapeOfWay_0 rfl rfl ?_
  refine zv_sipush (v := 158) dX5_shapeOfWay_1 (by decide) ?_
  refine zr_icmp_gt (tgt := 14) dX5_shapeOfWay_4 (by decide) h (fun c51 h => ?_) (fun c51 h => ?_)
  · refine zv_iload_n (n := 0) dX5_shapeOfWay_14 rfl rfl ?_
    refine zv_sipush (v := 164) dX5_shapeOfWay_15 (by decide) ?_
    refine zr_icmp_gt (tgt := 28) dX5_shapeOfWay_18 (by decide) h (fun c48 h => ?_) (fun c48 h => ?_)
    · refine zv_iload_n (n := 0) dX5_shapeOfWay_28 rfl rfl ?_
      rcases zif h with ⟨c1, h⟩ | ⟨c1, h⟩
      · refine zr_tabIn (tgt := 184) (off := 155) c1 dX5_shapeOfWay_29 (by decide) (by decide) (by decide) (by decide) ?_
        exact zv_fewer [] rfl (kX5_shapeOfWay_184 hd _ h)
      rcases zif h with ⟨c2, h⟩ | ⟨c2, h⟩
      · refine zr_tabIn (tgt := 184) (off := 155) c2 dX5_shapeOfWay_29 (by decide) (by decide) (by decide) (by decide) ?_
        exact zv_fewer [] rfl (kX5_shapeOfWay_184 hd _ h)
      rcases zif h with ⟨c5, h⟩ | ⟨c5, h⟩
      · refine zr_tabIn (tgt := 199) (off := 170) c5 dX5_shapeOfWay_29 (by decide) (by decide) (by decide) (by decide) ?_
        refine zv_iconst (v := 3) dX5_shapeOfWay_199 (by decide) ?_
        refine zv_iconst (v := 0) dX5_shapeOfWay_200 (by decide) ?_
        refine zv_iconst (v := 0) dX5_shapeOfWay_201 (by decide) ?_
        refine zr_cSi (st := []) dX5_shapeOfWay_202 mw_X5_pack wd_668 wd_669 [.int (3 : Int32), .int (0 : Int32), .int (0 : Int32)] rfl rfl (Nat.le_of_ble_eq_true rfl) (show d - 1 + 1 ≤ d by omega) h (fun o3 e4 => tX5_pack (d := d - 1) (by omega) e4) (fun o3 e4 h => ?_)
        cases h
        exact zv_iret dX5_shapeOfWay_205 rfl
      rcases zif h with ⟨c6, h⟩ | ⟨c6, h⟩
      · refine zr_tabIn (tgt := 234) (off := 205) c6 dX5_shapeOfWay_29 (by decide) (by decide) (by decide) (by decide) ?_
        exact zv_fewer [] rfl (kX5_shapeOfWay_234 hd _ h)
      rcases zif h with ⟨c7, h⟩ | ⟨c7, h⟩
      · refine zr_tabIn (tgt := 234) (off := 205) c7 dX5_shapeOfWay_29 (by decide) (by decide) (by decide) (by decide) ?_
        exact zv_fewer [] rfl (kX5_shapeOfWay_234 hd _ h)
      rcases zif h with ⟨c8, h⟩ | ⟨c8, h⟩
      · refine zr_tabIn (tgt := 234) (off := 205) c8 dX5_shapeOfWay_29 (by decide) (by decide) (by decide) (by decide) ?_
        exact zv_fewer [] rfl (kX5_shapeOfWay_234 hd _ h)
      rcases zif h with ⟨c9, h⟩ | ⟨c9, h⟩
      · refine zr_tabIn (tgt := 234) (off := 205) c9 dX5_shapeOfWay_29 (by decide) (by decide) (by decide) (by decide) ?_
        exact zv_fewer [] rfl (kX5_shapeOfWay_234 hd _ h)
      rcases zif h with ⟨c12, h⟩ | ⟨c12, h⟩
      · refine zr_tabIn (tgt := 206) (off := 177) c12 dX5_shapeOfWay_29 (by decide) (by decide) (by decide) (by decide) ?_
        refine zv_iconst (v := 1) dX5_shapeOfWay_206 (by decide) ?_
        refine zv_iconst (v := 1) dX5_shapeOfWay_207 (by decide) ?_
        refine zv_iconst (v := 0) dX5_shapeOfWay_208 (by decide) ?_
        refine zr_cSi (st := []) dX5_shapeOfWay_209 mw_X5_pack wd_668 wd_669 [.int (1 : Int32), .int (1 : Int32), .int (0 : Int32)] rfl rfl (Nat.le_of_ble_eq_true rfl) (show d - 1 + 1 ≤ d by omega) h (fun o10 e11 => tX5_pack (d := d - 1) (by omega) e11) (fun o10 e11 h => ?_)
        cases h
        exact zv_iret dX5_shapeOfWay_212 rfl
      rcases zif h with ⟨c15, h⟩ | ⟨c15, h⟩
      · refine zr_tabIn (tgt := 213) (off := 184) c15 dX5_shapeOfWay_29 (by decide) (by decide) (by decide) (by decide) ?_
        refine zv_iconst (v := 1) dX5_shapeOfWay_213 (by decide) ?_
        refine zv_iconst (v := 2) dX5_shapeOfWay_214 (by decide) ?_
        refine zv_iconst (v := 0) dX5_shapeOfWay_215 (by decide) ?_
        refine zr_cSi (st := []) dX5_shapeOfWay_216 mw_X5_pack wd_668 wd_669 [.int (1 : Int32), .int (2 : Int32), .int (0 : Int32)] rfl rfl (Nat.le_of_ble_eq_true rfl) (show d - 1 + 1 ≤ d by omega) h (fun o13 e14 => tX5_pack (d := d - 1) (by omega) e14) (fun o13 e14 h => ?_)
        cases h
        exact zv_iret dX5_shapeOfWay_219 rfl
      rcases zif h with ⟨c16, h⟩ | ⟨c16, h⟩
      · refine zr_tabIn (tgt := 234) (off := 205) c16 dX5_shapeOfWay_29 (by decide) (by decide) (by decide) (by decide) ?_
        exact zv_fewer [] rfl (kX5_shapeOfWay_234 hd _ h)
      rcases zif h with ⟨c17, h⟩ | ⟨c17, h⟩
      · refine zr_tabIn (tgt := 234) (off := 205) c17 dX5_shapeOfWay_29 (by decide) (by decide) (by decide) (by decide) ?_
        exact zv_fewer [] rfl (kX5_shapeOfWay_234 hd _ h)
      rcases zif h with ⟨c20, h⟩ | ⟨c20, h⟩
      · refine zr_tabIn (tgt := 220) (off := 191) c20 dX5_shapeOfWay_29 (by decide) (by decide) (by decide) (by decide) ?_
        refine zv_iconst (v := 1) dX5_shapeOfWay_220 (by decide) ?_
        refine zv_iconst (v := 3) dX5_shapeOfWay_221 (by decide) ?_
        refine zv_iconst (v := 0) dX5_shapeOfWay_222 (by decide) ?_
        refine zr_cSi (st := []) dX5_shapeOfWay_223 mw_X5_pack wd_668 wd_669 [.int (1 : Int32), .int (3 : Int32), .int (0 : Int32)] rfl rfl (Nat.le_of_ble_eq_true rfl) (show d - 1 + 1 ≤ d by omega) h (fun o18 e19 => tX5_pack (d := d - 1) (by omega) e19) (fun o18 e19 h => ?_)
        cases h
        exact zv_iret dX5_shapeOfWay_226 rfl
      rcases zif h with ⟨c23, h⟩ | ⟨c23, h⟩
      · refine zr_tabIn (tgt := 227) (off := 198) c23 dX5_shapeOfWay_29 (by decide) (by decide) (by decide) (by decide) ?_
        refine zv_iconst (v := 1) dX5_shapeOfWay_227 (by decide) ?_
        refine zv_iconst (v := 0) dX5_shapeOfWay_228 (by decide) ?_
        refine zv_iconst (v := 0) dX5_shapeOfWay_229 (by decide) ?_
        refine zr_cSi (st := []) dX5_shapeOfWay_230 mw_X5_pack wd_668 wd_669 [.int (1 : Int32), .int (0 : Int32), .int (0 : Int32)] rfl rfl (Nat.le_of_ble_eq_true rfl) (show d - 1 + 1 ≤ d by omega) h (fun o21 e22 => tX5_pack (d := d - 1) (by omega) e22) (fun o21 e22 h => ?_)
        cases h
        exact zv_iret dX5_shapeOfWay_233 rfl
      rcases zif h with ⟨c24, h⟩ | ⟨c24, h⟩
      · refine zr_tabIn (tgt := 234) (off := 205) c24 dX5_shapeOfWay_29 (by decide) (by decide) (by decide) (by decide) ?_
        exact zv_fewer [] rfl (kX5_shapeOfWay_234 hd _ h)
      rcases zif h with ⟨c25, h⟩ | ⟨c25, h⟩
      · refine zr_tabIn (tgt := 234) (off := 205) c25 dX5_shapeOfWay_29 (by decide) (by decide) (by decide) (by decide) ?_
        exact zv_fewer [] rfl (kX5_shapeOfWay_234 hd _ h)
      rcases zif h with ⟨c26, h⟩ | ⟨c26, h⟩
      · refine zr_tabIn (tgt := 234) (off := 205) c26 dX5_shapeOfWay_29 (by decide) (by decide) (by decide) (by decide) ?_
        exact zv_fewer [] rfl (kX5_shapeOfWay_234 hd _ h)
      rcases zif h with ⟨c27, h⟩ | ⟨c27, h⟩
      · refine zr_tabIn (tgt := 234) (off := 205) c27 dX5_shapeOfWay_29 (by decide) (by decide) (by decide) (by decide) ?_
        exact zv_fewer [] rfl (kX5_shapeOfWay_234 hd _ h)
      rcases zif h with ⟨c28, h⟩ | ⟨c28, h⟩
      · refine zr_tabIn (tgt := 234) (off := 205) c28 dX5_shapeOfWay_29 (by decide) (by decide) (by decide) (by decide) ?_
        exact zv_fewer [] rfl (kX5_shapeOfWay_234 hd _ h)
      rcases zif h with ⟨c29, h⟩ | ⟨c29, h⟩
      · refine zr_tabIn (tgt := 234) (off := 205) c29 dX5_shapeOfWay_29 (by decide) (by decide) (by decide) (by decide) ?_
        exact zv_fewer [] rfl (kX5_shapeOfWay_234 hd _ h)
      rcases zif h with ⟨c30, h⟩ | ⟨c30, h⟩
      · refine zr_tabIn (tgt := 234) (off := 205) c30 dX5_shapeOfWay_29 (by decide) (by decide) (by decide) (by decide) ?_
        exact zv_fewer [] rfl (kX5_shapeOfWay_234 hd _ h)
      rcases zif h with ⟨c31, h⟩ | ⟨c31, h⟩
      · refine zr_tabIn (tgt := 234) (off := 205) c31 dX5_shapeOfWay_29 (by decide) (by decide) (by decide) (by decide) ?_
        exact zv_fewer [] rfl (kX5_shapeOfWay_234 hd _ h)
      rcases zif h with ⟨c32, h⟩ | ⟨c32, h⟩
      · refine zr_tabIn (tgt := 234) (off := 205) c32 dX5_shapeOfWay_29 (by decide) (by decide) (by decide) (by decide) ?_
        exact zv_fewer [] rfl (kX5_shapeOfWay_234 hd _ h)
      rcases zif h with ⟨c33, h⟩ | ⟨c33, h⟩
      · refine zr_tabIn (tgt := 234) (off := 205) c33 dX5_shapeOfWay_29 (by decide) (by decide) (by decide) (by decide) ?_
        exact zv_fewer [] rfl (kX5_shapeOfWay_234 hd _ h)
      rcases zif h with ⟨c34, h⟩ | ⟨c34, h⟩
      · refine zr_tabIn (tgt := 234) (off := 205) c34 dX5_shapeOfWay_29 (by decide) (by decide) (by decide) (by decide) ?_
        exact zv_fewer [] rfl (kX5_shapeOfWay_234 hd _ h)
      rcases zif h with ⟨c35, h⟩ | ⟨c35, h⟩
      · refine zr_tabIn (tgt := 234) (off := 205) c35 dX5_shapeOfWay_29 (by decide) (by decide) (by decide) (by decide) ?_
        exact zv_fewer [] rfl (kX5_shapeOfWay_234 hd _ h)
      rcases zif h with ⟨c36, h⟩ | ⟨c36, h⟩
      · refine zr_tabIn (tgt := 234) (off := 205) c36 dX5_shapeOfWay_29 (by decide) (by decide) (by decide) (by decide) ?_
        exact zv_fewer [] rfl (kX5_shapeOfWay_234 hd _ h)
      rcases zif h with ⟨c37, h⟩ | ⟨c37, h⟩
      · refine zr_tabIn (tgt := 234) (off := 205) c37 dX5_shapeOfWay_29 (by decide) (by decide) (by decide) (by decide) ?_
        exact zv_fewer [] rfl (kX5_shapeOfWay_234 hd _ h)
      rcases zif h with ⟨c38, h⟩ | ⟨c38, h⟩
      · refine zr_tabIn (tgt := 234) (off := 205) c38 dX5_shapeOfWay_29 (by decide) (by decide) (by decide) (by decide) ?_
        exact zv_fewer [] rfl (kX5_shapeOfWay_234 hd _ h)
      rcases zif h with ⟨c39, h⟩ | ⟨c39, h⟩
      · refine zr_tabIn (tgt := 234) (off := 205) c39 dX5_shapeOfWay_29 (by decide) (by decide) (by decide) (by decide) ?_
        exact zv_fewer [] rfl (kX5_shapeOfWay_234 hd _ h)
      rcases zif h with ⟨c40, h⟩ | ⟨c40, h⟩
      · refine zr_tabIn (tgt := 234) (off := 205) c40 dX5_shapeOfWay_29 (by decide) (by decide) (by decide) (by decide) ?_
        exact zv_fewer [] rfl (kX5_shapeOfWay_234 hd _ h)
      rcases zif h with ⟨c41, h⟩ | ⟨c41, h⟩
      · refine zr_tabIn (tgt := 234) (off := 205) c41 dX5_shapeOfWay_29 (by decide) (by decide) (by decide) (by decide) ?_
        exact zv_fewer [] rfl (kX5_shapeOfWay_234 hd _ h)
      rcases zif h with ⟨c42, h⟩ | ⟨c42, h⟩
      · refine zr_tabIn (tgt := 234) (off := 205) c42 dX5_shapeOfWay_29 (by decide) (by decide) (by decide) (by decide) ?_
        exact zv_fewer [] rfl (kX5_shapeOfWay_234 hd _ h)
      rcases zif h with ⟨c43, h⟩ | ⟨c43, h⟩
      · refine zr_tabIn (tgt := 234) (off := 205) c43 dX5_shapeOfWay_29 (by decide) (by decide) (by decide) (by decide) ?_
        exact zv_fewer [] rfl (kX5_shapeOfWay_234 hd _ h)
      rcases zif h with ⟨c44, h⟩ | ⟨c44, h⟩
      · refine zr_tabIn (tgt := 192) (off := 163) c44 dX5_shapeOfWay_29 (by decide) (by decide) (by decide) (by decide) ?_
        exact zv_fewer [] rfl (kX5_shapeOfWay_192 hd _ h)
      rcases zif h with ⟨c45, h⟩ | ⟨c45, h⟩
      · refine zr_tabIn (tgt := 192) (off := 163) c45 dX5_shapeOfWay_29 (by decide) (by decide) (by decide) (by decide) ?_
        exact zv_fewer [] rfl (kX5_shapeOfWay_192 hd _ h)
      refine zv_tableOut (tgt := 234) dX5_shapeOfWay_29 (by have := lv_neT c1 (show (165 : Int32).toInt = 165 by decide); have := lv_neT c2 (show (166 : Int32).toInt = 166 by decide); have := lv_neT c5 (show (167 : Int32).toInt = 167 by decide); have := lv_neT c6 (show (168 : Int32).toInt = 168 by decide); have := lv_neT c7 (show (169 : Int32).toInt = 169 by decide); have := lv_neT c8 (show (170 : Int32).toInt = 170 by decide); have := lv_neT c9 (show (171 : Int32).toInt = 171 by decide); have := lv_neT c12 (show (172 : Int32).toInt = 172 by decide); have := lv_neT c15 (show (173 : Int32).toInt = 173 by decide); have := lv_neT c16 (show (174 : Int32).toInt = 174 by decide); have := lv_neT c17 (show (175 : Int32).toInt = 175 by decide); have := lv_neT c20 (show (176 : Int32).toInt = 176 by decide); have := lv_neT c23 (show (177 : Int32).toInt = 177 by decide); have := lv_neT c24 (show (178 : Int32).toInt = 178 by decide); have := lv_neT c25 (show (179 : Int32).toInt = 179 by decide); have := lv_neT c26 (show (180 : Int32).toInt = 180 by decide); have := lv_neT c27 (show (181 : Int32).toInt = 181 by decide); have := lv_neT c28 (show (182 : Int32).toInt = 182 by decide); have := lv_neT c29 (show (183 : Int32).toInt = 183 by decide); have := lv_neT c30 (show (184 : Int32).toInt = 184 by decide); have := lv_neT c31 (show (185 : Int32).toInt = 185 by decide); have := lv_neT c32 (show (186 : Int32).toInt = 186 by decide); have := lv_neT c33 (show (187 : Int32).toInt = 187 by decide); have := lv_neT c34 (show (188 : Int32).toInt = 188 by decide); have := lv_neT c35 (show (189 : Int32).toInt = 189 by decide); have := lv_neT c36 (show (190 : Int32).toInt = 190 by decide); have := lv_neT c37 (show (191 : Int32).toInt = 191 by decide); have := lv_neT c38 (show (192 : Int32).toInt = 192 by decide); have := lv_neT c39 (show (193 : Int32).toInt = 193 by decide); have := lv_neT c40 (show (194 : Int32).toInt = 194 by decide); have := lv_neT c41 (show (195 : Int32).toInt = 195 by decide); have := lv_neT c42 (show (196 : Int32).toInt = 196 by decide); have := lv_neT c43 (show (197 : Int32).toInt = 197 by decide); have := lv_neT c44 (show (198 : Int32).toInt = 198 by decide); have := lv_neT c45 (show (199 : Int32).toInt = 199 by decide); omega) (by decide) ?_
      exact zv_fewer [] rfl (kX5_shapeOfWay_234 hd _ h)
    · refine zv_iconst (v := 3) dX5_shapeOfWay_21 (by decide) ?_
      refine zv_iconst (v := 5) dX5_shapeOfWay_22 (by decide) ?_
      refine zv_iconst (v := 0) dX5_shapeOfWay_23 (by decide) ?_
      refine zr_cSi (st := []) dX5_shapeOfWay_24 mw_X5_pack wd_668 wd_669 [.int (3 : Int32), .int (5 : Int32), .int (0 : Int32)] rfl rfl (Nat.le_of_ble_eq_true rfl) (show d - 1 + 1 ≤ d by omega) h (fun o46 e47 => tX5_pack (d := d - 1) (by omega) e47) (fun o46 e47 h => ?_)
      cases h
      exact zv_iret dX5_shapeOfWay_27 rfl
  · refine zv_iconst (v := 3) dX5_shapeOfWay_7 (by decide) ?_
    refine zv_iconst (v := 1) dX5_shapeOfWay_8 (by decide) ?_
    refine zv_iconst (v := 0) dX5_shapeOfWay_9 (by decide) ?_
    refine zr_cSi (st := []) dX5_shapeOfWay_10 mw_X5_pack wd_668 wd_669 [.int (3 : Int32), .int (1 : Int32), .int (0 : Int32)] rfl rfl (Nat.le_of_ble_eq_true rfl) (show d - 1 + 1 ≤ d by omega) h (fun o49 e50 => tX5_pack (d := d - 1) (by omega) e50) (fun o49 e50 h => ?_)
    cases h
    exact zv_iret dX5_shapeOfWay_13 rfl
def mX5_shapeOfWay (N : Nat) (a0 : Int32) (x : zv_X) : Option (zv_X × Int32) := mX5_shapeOfWay_0 N a0 x
theorem tX5_shapeOfWay {d : Nat} (hd : 1 ≤ d) {N : Nat} {x : zv_X} {a0 : Int32} {o : (zv_X × Int32)} (h : mX5_shapeOfWay N a0 x = some o) : zv_T d yX5_shapeOfWay cX5_shapeOfWay 1 ((some .int)) [.int a0] x o.1 (some (.int o.2)) := by
  unfold mX5_shapeOfWay at h
  exact zv_enter (by decide) (Nat.le_of_ble_eq_true rfl) (kX5_shapeOfWay_0 hd _ _ h)

abbrev fX5_shape (d : Nat) (x0 : zv_X) (o : (zv_X × Int32)) : zv_G := (d, RX5, cX5_shape, 1, (some .int), ("shape", []), x0, o.1, zv_fin x0 o.1 (some (.int o.2)))
def mX5_shape_48 (N : Nat) (s0 : Int32) (x : zv_X) : Option (zv_X × Int32) := some (x, s0)
theorem kX5_shape_48 {d : Nat} {x0 : zv_X} {o : (zv_X × Int32)} (hd : 2 ≤ d) {N : Nat} (s0 : Int32) (x : zv_X) (h : mX5_shape_48 N s0 x = some o) : zv_V (fX5_shape d x0 o) 48 [] [.int s0] x := by
  unfold mX5_shape_48 at h
  cases h
  exact zv_iret dX5_shape_48 rfl
def mX5_shape_37 (N : Nat) (l0 : Int32) (x : zv_X) : Option (zv_X × Int32) := (mX5_shapeOfWay N l0 x).bind fun o1 => mX5_shape_48 N o1.2 o1.1
theorem kX5_shape_37 {d : Nat} {x0 : zv_X} {o : (zv_X × Int32)} (hd : 2 ≤ d) {N : Nat} (l0 : Int32) (x : zv_X) (h : mX5_shape_37 N l0 x = some o) : zv_V (fX5_shape d x0 o) 37 [(0, .int l0)] [] x := by
  unfold mX5_shape_37 at h
  refine zv_iload_n (n := 0) dX5_shape_37 rfl rfl ?_
  refine zr_cSi (st := []) dX5_shape_38 mw_X5_shapeOfWay wd_674 wd_675 [.int l0] rfl rfl (Nat.le_of_ble_eq_true rfl) (show d - 1 + 1 ≤ d by omega) h (fun o1 e2 => tX5_shapeOfWay (d := d - 1) (by omega) e2) (fun o1 e2 h => ?_)
  refine zv_goto (tgt := 48) dX5_shape_41 (by decide) ?_
  exact zv_fewer [] rfl (kX5_shape_48 hd _ _ h)
def mX5_shape_0 (N : Nat) (l0 : Int32) (x : zv_X) : Option (zv_X × Int32) := if (87 : Int32) ≤ l0 then (if (153 : Int32) ≤ l0 then (if l0 < (180 : Int32) then (mX5_shape_37 N l0 x) else (if l0 < (198 : Int32) then ((mX5_shapeOfHeapUse N l0 x).bind fun o1 => mX5_shape_48 N o1.2 o1.1) else (mX5_shape_37 N l0 x))) else ((mX5_shapeOfReckoning N l0 x).bind fun o5 => some (o5.1, o5.2))) else ((mX5_shapeOfMove N l0 x).bind fun o8 => some (o8.1, o8.2))
theorem kX5_shape_0 {d : Nat} {x0 : zv_X} {o : (zv_X × Int32)} (hd : 2 ≤ d) {N : Nat} (l0 : Int32) (x : zv_X) (h : mX5_shape_0 N l0 x = some o) : zv_V (fX5_shape d x0 o) 0 [(0, .int l0)] [] x := by
  unfold mX5_shape_0 at h
  refine zv_iload_n (n := 0) dX5_shape_0 rfl rfl ?_
  refine zv_bipush (v := 87) dX5_shape_1 (by decide) ?_
  refine zr_icmp_ge (tgt := 11) dX5_shape_3 (by decide) h (fun c10 h => ?_) (fun c10 h => ?_)
  · refine zv_iload_n (n := 0) dX5_shape_11 rfl rfl ?_
    refine zv_sipush (v := 153) dX5_shape_12 (by decide) ?_
    refine zr_icmp_ge (tgt := 23) dX5_shape_15 (by decide) h (fun c7 h => ?_) (fun c7 h => ?_)
    · refine zv_iload_n (n := 0) dX5_shape_23 rfl rfl ?_
      refine zv_sipush (v := 180) dX5_shape_24 (by decide) ?_
      refine zr_icmp_lt (tgt := 37) dX5_shape_27 (by decide) h (fun c4 h => ?_) (fun c4 h => ?_)
      · exact kX5_shape_37 hd _ _ h
      · refine zv_iload_n (n := 0) dX5_shape_30 rfl rfl ?_
        refine zv_sipush (v := 198) dX5_shape_31 (by decide) ?_
        refine zr_icmp_lt (tgt := 44) dX5_shape_34 (by decide) h (fun c3 h => ?_) (fun c3 h => ?_)
        · refine zv_iload_n (n := 0) dX5_shape_44 rfl rfl ?_
          refine zr_cSi (st := []) dX5_shape_45 mw_X5_shapeOfHeapUse wd_677 wd_678 [.int l0] rfl rfl (Nat.le_of_ble_eq_true rfl) (show d - 1 + 1 ≤ d by omega) h (fun o1 e2 => tX5_shapeOfHeapUse (d := d - 1) (by omega) e2) (fun o1 e2 h => ?_)
          exact zv_fewer [] rfl (kX5_shape_48 hd _ _ h)
        · exact kX5_shape_37 hd _ _ h
    · refine zv_iload_n (n := 0) dX5_shape_18 rfl rfl ?_
      refine zr_cSi (st := []) dX5_shape_19 mw_X5_shapeOfReckoning wd_671 wd_672 [.int l0] rfl rfl (Nat.le_of_ble_eq_true rfl) (show d - 1 + 1 ≤ d by omega) h (fun o5 e6 => tX5_shapeOfReckoning (d := d - 1) (by omega) e6) (fun o5 e6 h => ?_)
      cases h
      exact zv_iret dX5_shape_22 rfl
  · refine zv_iload_n (n := 0) dX5_shape_6 rfl rfl ?_
    refine zr_cSi (st := []) dX5_shape_7 mw_X5_shapeOfMove wd_665 wd_666 [.int l0] rfl rfl (Nat.le_of_ble_eq_true rfl) (show d - 1 + 1 ≤ d by omega) h (fun o8 e9 => tX5_shapeOfMove (d := d - 1) (by omega) e9) (fun o8 e9 h => ?_)
    cases h
    exact zv_iret dX5_shape_10 rfl
def mX5_shape (N : Nat) (a0 : Int32) (x : zv_X) : Option (zv_X × Int32) := mX5_shape_0 N a0 x
theorem tX5_shape {d : Nat} (hd : 2 ≤ d) {N : Nat} {x : zv_X} {a0 : Int32} {o : (zv_X × Int32)} (h : mX5_shape N a0 x = some o) : zv_T d yX5_shape cX5_shape 1 ((some .int)) [.int a0] x o.1 (some (.int o.2)) := by
  unfold mX5_shape at h
  exact zv_enter (by decide) (Nat.le_of_ble_eq_true rfl) (kX5_shape_0 hd _ _ h)

abbrev fX6_pairAt (d : Nat) (x0 : zv_X) (o : (zv_X × Int32)) : zv_G := (d, RX6, cX6_pairAt, 2, (some .int), ("pairAt", []), x0, o.1, zv_fin x0 o.1 (some (.int o.2)))
def mX6_pairAt_0 (N : Nat) (l0 : Nat) (l1 : Int32) (x : zv_X) : Option (zv_X × Int32) := (zm_R x l0 6 0).bind fun v1 => (zm_aB x v1 l1).bind fun v3 => (zm_R x l0 6 0).bind fun v5 => (zm_aB x v5 (l1 + (1 : Int32))).bind fun v7 => some (x, (v3 <<< ((8 : Int32) &&& 31)) ||| (v7 &&& (255 : Int32)))
theorem kX6_pairAt_0 {d : Nat} {x0 : zv_X} {o : (zv_X × Int32)} (hd : 0 ≤ d) {N : Nat} (l0 : Nat) (l1 : Int32) (x : zv_X) (h : mX6_pairAt_0 N l0 l1 x = some o) : zv_V (fX6_pairAt d x0 o) 0 [(0, .ref l0), (1, .int l1)] [] x := by
  unfold mX6_pairAt_0 at h
  refine zv_aload_n (n := 0) dX6_pairAt_0 rfl rfl ?_
  refine zr_gR dX6_pairAt_1 fg_312 h (fun v1 e2 h => ?_)
  refine zv_iload_n (n := 1) dX6_pairAt_4 rfl rfl ?_
  refine zr_aB dX6_pairAt_5 h (fun v3 e4 h => ?_)
  refine zv_bipush (v := 8) dX6_pairAt_6 (by decide) ?_
  refine zv_ishl dX6_pairAt_8 ?_
  refine zv_aload_n (n := 0) dX6_pairAt_9 rfl rfl ?_
  refine zr_gR dX6_pairAt_10 fg_312 h (fun v5 e6 h => ?_)
  refine zv_iload_n (n := 1) dX6_pairAt_13 rfl rfl ?_
  refine zv_iconst (v := 1) dX6_pairAt_14 (by decide) ?_
  refine zv_iadd dX6_pairAt_15 ?_
  refine zr_aB dX6_pairAt_16 h (fun v7 e8 h => ?_)
  refine zv_sipush (v := 255) dX6_pairAt_17 (by decide) ?_
  refine zv_iand dX6_pairAt_20 ?_
  refine zv_ior dX6_pairAt_21 ?_
  cases h
  exact zv_iret dX6_pairAt_22 rfl
def mX6_pairAt (N : Nat) (a0 : Nat) (a1 : Int32) (x : zv_X) : Option (zv_X × Int32) := mX6_pairAt_0 N a0 a1 x
theorem tX6_pairAt {d : Nat} (hd : 0 ≤ d) {N : Nat} {x : zv_X} {a0 : Nat} {a1 : Int32} {o : (zv_X × Int32)} (h : mX6_pairAt N a0 a1 x = some o) : zv_T d yX6_pairAt cX6_pairAt 2 ((some .int)) [.ref a0, .int a1] x o.1 (some (.int o.2)) := by
  unfold mX6_pairAt at h
  exact zv_enter (by decide) (Nat.le_of_ble_eq_true rfl) (kX6_pairAt_0 hd _ _ _ h)

abbrev fX3_look (d : Nat) (x0 : zv_X) (o : zv_X) : zv_G := (d, RX3, cX3_look, 5, none, ("look", []), x0, o, zv_fin x0 o none)
def mX3_look_166 (N : Nat)  (x : zv_X) : Option zv_X := some x
theorem kX3_look_166 {d : Nat} {x0 : zv_X} {o : zv_X} (hd : 5 ≤ d) {N : Nat}  (x : zv_X) (h : mX3_look_166 N  x = some o) : zv_V (fX3_look d x0 o) 166 [] [] x := by
  unfold mX3_look_166 at h
  cases h
  exact zv_vret dX3_look_166 rfl
def mX3_look_145 (N : Nat) (l0 : Nat) (l2 : Int32) (l4 : Int32) (x : zv_X) : Option zv_X := (mX5_goesOn N l2 x).bind fun o1 => if o1.2 = 0 then (mX3_look_166 N o1.1) else ((zm_I o1.1 l0 3 10).bind fun v3 => (zm_I o1.1 l0 3 11).bind fun v5 => if zm_k o1.1 l0 3 = true then ((mX3_lead N l0 l4 v3 v5 o1.1).bind fun o7 => mX3_look_166 N o7) else none)
theorem kX3_look_145 {d : Nat} {x0 : zv_X} {o : zv_X} (hd : 5 ≤ d) {N : Nat} (l0 : Nat) (l2 : Int32) (l4 : Int32) (x : zv_X) (h : mX3_look_145 N l0 l2 l4 x = some o) : zv_V (fX3_look d x0 o) 145 [(0, .ref l0), (2, .int l2), (4, .int l4)] [] x := by
  unfold mX3_look_145 at h
  refine zv_iload_n (n := 1) dX3_look_145 rfl rfl ?_
  refine zr_cSi (st := []) dX3_look_146 mw_X5_goesOn wd_772 wd_773 [.int l2] rfl rfl (Nat.le_of_ble_eq_true rfl) (show d - 1 + 1 ≤ d by omega) h (fun o1 e2 => tX5_goesOn (d := d - 1) (by omega) e2) (fun o1 e2 h => ?_)
  refine zr_if_eq (tgt := 166) dX3_look_149 (by decide) h (fun c9 h => ?_) (fun c9 h => ?_)
  · exact zv_fewer [] rfl (kX3_look_166 hd _ h)
  · refine zv_aload_n (n := 0) dX3_look_152 rfl rfl ?_
    refine zv_iload (n := 2) dX3_look_153 rfl ?_
    refine zv_aload_n (n := 0) dX3_look_155 rfl rfl ?_
    refine zr_gI dX3_look_156 fg_221 h (fun v3 e4 h => ?_)
    refine zv_aload_n (n := 0) dX3_look_159 rfl rfl ?_
    refine zr_gI dX3_look_160 fg_222 h (fun v5 e6 h => ?_)
    refine zr_cVv (ci := 3) (st := []) dX3_look_163 mw_X3_lead wd_638 wd_640 wd_1 rfl rfl [.int l4, .int v3, .int v5] rfl rfl (Nat.le_of_ble_eq_true rfl) (show d - 1 + 1 ≤ d by omega) h (fun o7 e8 => tX3_lead (d := d - 1) (by omega) e8) (fun o7 e8 h => ?_)
    exact zv_fewer [] rfl (kX3_look_166 hd _ h)
def mX3_look_47 (N : Nat) (l0 : Nat) (l1 : Int32) (l2 : Int32) (l3 : Int32) (l4 : Int32) (s0 : Int32) (s1 : Nat) (x : zv_X) : Option zv_X := if zm_k x s1 3 = true then ((mX3_require N s1 s0 x).bind fun o1 => (zm_I o1 l0 3 9).bind fun v3 => if v3 = 0 then (some o1) else ((zm_R o1 l0 3 5).bind fun v5 => (zm_aI o1 v5 l1).bind fun v7 => (zm_p o1 l0 3 10 (.int v7)).bind fun x9 => (zm_R x9 l0 3 6).bind fun v11 => (zm_aI x9 v11 l1).bind fun v13 => (zm_p x9 l0 3 11 (.int v13)).bind fun x15 => if zm_k x15 l0 3 = true then ((mX3_leadToHandlers N l0 l1 x15).bind fun o17 => (mX5_takes N l3 o17).bind fun o19 => if zm_k o19.1 l0 3 = true then ((mX3_take N l0 o19.2 o19.1).bind fun o21 => if zm_k o21 l0 3 = true then ((mX3_heed N l0 l2 l1 l3 o21).bind fun o23 => (mX5_leaves N l3 o23).bind fun o25 => if zm_k o25.1 l0 3 = true then ((mX3_give N l0 o25.2 o25.1).bind fun o27 => (zm_I o27 l0 3 9).bind fun v29 => if v29 = 0 then (some o27) else ((mX5_jumps N l2 o27).bind fun o31 => if o31.2 = 0 then (mX3_look_145 N l0 l2 l4 o31.1) else ((zm_R o31.1 l0 3 8).bind fun v33 => if zm_k o31.1 v33 6 = true then ((mX6_pairAt N v33 (l1 + (1 : Int32)) o31.1).bind fun o35 => (zm_I o35.1 l0 3 10).bind fun v37 => (zm_I o35.1 l0 3 11).bind fun v39 => if zm_k o35.1 l0 3 = true then ((mX3_lead N l0 (l1 + o35.2) v37 v39 o35.1).bind fun o41 => mX3_look_145 N l0 l2 l4 o41) else none) else none))) else none) else none) else none) else none)) else none
theorem kX3_look_47 {d : Nat} {x0 : zv_X} {o : zv_X} (hd : 5 ≤ d) {N : Nat} (l0 : Nat) (l1 : Int32) (l2 : Int32) (l3 : Int32) (l4 : Int32) (s0 : Int32) (s1 : Nat) (x : zv_X) (h : mX3_look_47 N l0 l1 l2 l3 l4 s0 s1 x = some o) : zv_V (fX3_look d x0 o) 47 [(0, .ref l0), (1, .int l1), (2, .int l2), (3, .int l3), (4, .int l4)] [.int s0, .ref s1] x := by
  unfold mX3_look_47 at h
  refine zr_cVv (ci := 3) (st := []) dX3_look_47 mw_X3_require wd_642 wd_644 wd_2 rfl rfl [.int s0] rfl rfl (Nat.le_of_ble_eq_true rfl) (show d - 1 + 1 ≤ d by omega) h (fun o1 e2 => tX3_require (d := d - 1) (by omega) e2) (fun o1 e2 h => ?_)
  refine zv_aload_n (n := 0) dX3_look_50 rfl rfl ?_
  refine zr_gI dX3_look_51 fg_220 h (fun v3 e4 h => ?_)
  refine zr_if_ne (tgt := 58) dX3_look_54 (by decide) h (fun c45 h => ?_) (fun c45 h => ?_)
  · refine zv_aload_n (n := 0) dX3_look_58 rfl rfl ?_
    refine zv_aload_n (n := 0) dX3_look_59 rfl rfl ?_
    refine zr_gR dX3_look_60 fg_216 h (fun v5 e6 h => ?_)
    refine zv_iload_n (n := 1) dX3_look_63 rfl rfl ?_
    refine zr_aI dX3_look_64 h (fun v7 e8 h => ?_)
    refine zr_p dX3_look_65 fl_221 (fun q => nomatch q) rfl rfl h (fun x9 e10 h => ?_)
    refine zv_aload_n (n := 0) dX3_look_68 rfl rfl ?_
    refine zv_aload_n (n := 0) dX3_look_69 rfl rfl ?_
    refine zr_gR dX3_look_70 fg_217 h (fun v11 e12 h => ?_)
    refine zv_iload_n (n := 1) dX3_look_73 rfl rfl ?_
    refine zr_aI dX3_look_74 h (fun v13 e14 h => ?_)
    refine zr_p dX3_look_75 fl_222 (fun q => nomatch q) rfl rfl h (fun x15 e16 h => ?_)
    refine zv_aload_n (n := 0) dX3_look_78 rfl rfl ?_
    refine zv_iload_n (n := 1) dX3_look_79 rfl rfl ?_
    refine zr_cVv (ci := 3) (st := []) dX3_look_80 mw_X3_leadToHandlers wd_683 wd_685 wd_5 rfl rfl [.int l1] rfl rfl (Nat.le_of_ble_eq_true rfl) (show d - 1 + 1 ≤ d by omega) h (fun o17 e18 => tX3_leadToHandlers (d := d - 1) (by omega) e18) (fun o17 e18 h => ?_)
    refine zv_aload_n (n := 0) dX3_look_83 rfl rfl ?_
    refine zv_iload_n (n := 3) dX3_look_84 rfl rfl ?_
    refine zr_cSi (st := [.ref l0]) dX3_look_85 mw_X5_takes wd_691 wd_692 [.int l3] rfl rfl (Nat.le_of_ble_eq_true rfl) (show d - 1 + 1 ≤ d by omega) h (fun o19 e20 => tX5_takes (d := d - 1) (by omega) e20) (fun o19 e20 h => ?_)
    refine zr_cVv (ci := 3) (st := []) dX3_look_88 mw_X3_take wd_694 wd_696 wd_6 rfl rfl [.int o19.2] rfl rfl (Nat.le_of_ble_eq_true rfl) (show d - 1 + 1 ≤ d by omega) h (fun o21 e22 => tX3_take (d := d - 1) (by omega) e22) (fun o21 e22 h => ?_)
    refine zv_aload_n (n := 0) dX3_look_91 rfl rfl ?_
    refine zv_iload_n (n := 2) dX3_look_92 rfl rfl ?_
    refine zv_iload_n (n := 1) dX3_look_93 rfl rfl ?_
    refine zv_iload_n (n := 3) dX3_look_94 rfl rfl ?_
    refine zr_cVv (ci := 3) (st := []) dX3_look_95 mw_X3_heed wd_698 wd_700 wd_7 rfl rfl [.int l2, .int l1, .int l3] rfl rfl (Nat.le_of_ble_eq_true rfl) (show d - 1 + 1 ≤ d by omega) h (fun o23 e24 => tX3_heed (d := d - 1) (by omega) e24) (fun o23 e24 h => ?_)
    refine zv_aload_n (n := 0) dX3_look_98 rfl rfl ?_
    refine zv_iload_n (n := 3) dX3_look_99 rfl rfl ?_
    refine zr_cSi (st := [.ref l0]) dX3_look_100 mw_X5_leaves wd_702 wd_703 [.int l3] rfl rfl (Nat.le_of_ble_eq_true rfl) (show d - 1 + 1 ≤ d by omega) h (fun o25 e26 => tX5_leaves (d := d - 1) (by omega) e26) (fun o25 e26 h => ?_)
    refine zr_cVv (ci := 3) (st := []) dX3_look_103 mw_X3_give wd_721 wd_723 wd_12 rfl rfl [.int o25.2] rfl rfl (Nat.le_of_ble_eq_true rfl) (show d - 1 + 1 ≤ d by omega) h (fun o27 e28 => tX3_give (d := d - 1) (by omega) e28) (fun o27 e28 h => ?_)
    refine zv_aload_n (n := 0) dX3_look_106 rfl rfl ?_
    refine zr_gI dX3_look_107 fg_220 h (fun v29 e30 h => ?_)
    refine zr_if_ne (tgt := 114) dX3_look_110 (by decide) h (fun c44 h => ?_) (fun c44 h => ?_)
    · refine zv_iload_n (n := 2) dX3_look_114 rfl rfl ?_
      refine zr_cSi (st := []) dX3_look_115 mw_X5_jumps wd_765 wd_766 [.int l2] rfl rfl (Nat.le_of_ble_eq_true rfl) (show d - 1 + 1 ≤ d by omega) h (fun o31 e32 => tX5_jumps (d := d - 1) (by omega) e32) (fun o31 e32 h => ?_)
      refine zr_if_eq (tgt := 145) dX3_look_118 (by decide) h (fun c43 h => ?_) (fun c43 h => ?_)
      · exact zv_fewer [0, 2, 4] rfl (kX3_look_145 hd _ _ _ _ h)
      · refine zv_aload_n (n := 0) dX3_look_121 rfl rfl ?_
        refine zv_iload_n (n := 1) dX3_look_122 rfl rfl ?_
        refine zv_aload_n (n := 0) dX3_look_123 rfl rfl ?_
        refine zr_gR dX3_look_124 fg_219 h (fun v33 e34 h => ?_)
        refine zv_iload_n (n := 1) dX3_look_127 rfl rfl ?_
        refine zv_iconst (v := 1) dX3_look_128 (by decide) ?_
        refine zv_iadd dX3_look_129 ?_
        refine zr_cVi (ci := 6) (st := [.int l1, .ref l0]) dX3_look_130 mw_X6_pairAt wd_768 wd_769 wd_770 rfl rfl [.int (l1 + (1 : Int32))] rfl rfl (Nat.le_of_ble_eq_true rfl) (show d - 1 + 1 ≤ d by omega) h (fun o35 e36 => tX6_pairAt (d := d - 1) (by omega) e36) (fun o35 e36 h => ?_)
        refine zv_iadd dX3_look_133 ?_
        refine zv_aload_n (n := 0) dX3_look_134 rfl rfl ?_
        refine zr_gI dX3_look_135 fg_221 h (fun v37 e38 h => ?_)
        refine zv_aload_n (n := 0) dX3_look_138 rfl rfl ?_
        refine zr_gI dX3_look_139 fg_222 h (fun v39 e40 h => ?_)
        refine zr_cVv (ci := 3) (st := []) dX3_look_142 mw_X3_lead wd_638 wd_640 wd_1 rfl rfl [.int (l1 + o35.2), .int v37, .int v39] rfl rfl (Nat.le_of_ble_eq_true rfl) (show d - 1 + 1 ≤ d by omega) h (fun o41 e42 => tX3_lead (d := d - 1) (by omega) e42) (fun o41 e42 h => ?_)
        exact zv_fewer [0, 2, 4] rfl (kX3_look_145 hd _ _ _ _ h)
    · cases h
      exact zv_vret dX3_look_113 rfl
  · cases h
    exact zv_vret dX3_look_57 rfl
def mX3_look_46 (N : Nat) (l0 : Nat) (l1 : Int32) (l2 : Int32) (l3 : Int32) (l4 : Int32) (s0 : Nat) (x : zv_X) : Option zv_X := mX3_look_47 N l0 l1 l2 l3 l4 (0 : Int32) s0 x
theorem kX3_look_46 {d : Nat} {x0 : zv_X} {o : zv_X} (hd : 5 ≤ d) {N : Nat} (l0 : Nat) (l1 : Int32) (l2 : Int32) (l3 : Int32) (l4 : Int32) (s0 : Nat) (x : zv_X) (h : mX3_look_46 N l0 l1 l2 l3 l4 s0 x = some o) : zv_V (fX3_look d x0 o) 46 [(0, .ref l0), (1, .int l1), (2, .int l2), (3, .int l3), (4, .int l4)] [.ref s0] x := by
  unfold mX3_look_46 at h
  refine zv_iconst (v := 0) dX3_look_46 (by decide) ?_
  exact kX3_look_47 hd _ _ _ _ _ _ _ _ h
def mX3_look_0 (N : Nat) (l0 : Nat) (l1 : Int32) (x : zv_X) : Option zv_X := (zm_R x l0 3 8).bind fun v1 => if zm_k x v1 6 = true then ((mX6_at N v1 l1 x).bind fun o3 => (mX5_shape N o3.2 o3.1).bind fun o5 => (mX5_bytes N o5.2 o5.1).bind fun o7 => if (l1 + o7.2) ≤ l1 then (mX3_look_46 N l0 l1 o3.2 o5.2 (l1 + o7.2) l0 o7.1) else ((zm_R o7.1 l0 3 8).bind fun v9 => (zm_R o7.1 v9 6 0).bind fun v11 => (zm_n o7.1 v11).bind fun v13 => if v13 < (l1 + o7.2) then (mX3_look_46 N l0 l1 o3.2 o5.2 (l1 + o7.2) l0 o7.1) else (mX3_look_47 N l0 l1 o3.2 o5.2 (l1 + o7.2) (1 : Int32) l0 o7.1))) else none
theorem kX3_look_0 {d : Nat} {x0 : zv_X} {o : zv_X} (hd : 5 ≤ d) {N : Nat} (l0 : Nat) (l1 : Int32) (x : zv_X) (h : mX3_look_0 N l0 l1 x = some o) : zv_V (fX3_look d x0 o) 0 [(0, .ref l0), (1, .int l1)] [] x := by
  unfold mX3_look_0 at h
  refine zv_aload_n (n := 0) dX3_look_0 rfl rfl ?_
  refine zr_gR dX3_look_1 fg_219 h (fun v1 e2 h => ?_)
  refine zv_iload_n (n := 1) dX3_look_4 rfl rfl ?_
  refine zr_cVi (ci := 6) (st := []) dX3_look_5 mw_X6_at wd_658 wd_659 wd_660 rfl rfl [.int l1] rfl rfl (Nat.le_of_ble_eq_true rfl) (show d - 1 + 1 ≤ d by omega) h (fun o3 e4 => tX6_at (d := d - 1) (by omega) e4) (fun o3 e4 h => ?_)
  refine zv_istore_n (L' := [(2, .int o3.2), (0, .ref l0), (1, .int l1)]) dX3_look_8 rfl (Nat.le_of_ble_eq_true rfl) rfl ?_
  refine zv_iload_n (n := 0) dX3_look_9 rfl rfl ?_
  refine zr_cSi (st := []) dX3_look_10 mw_X5_shape wd_662 wd_663 [.int o3.2] rfl rfl (Nat.le_of_ble_eq_true rfl) (show d - 1 + 1 ≤ d by omega) h (fun o5 e6 => tX5_shape (d := d - 1) (by omega) e6) (fun o5 e6 h => ?_)
  refine zv_istore_n (L' := [(3, .int o5.2), (2, .int o3.2), (0, .ref l0), (1, .int l1)]) dX3_look_13 rfl (Nat.le_of_ble_eq_true rfl) rfl ?_
  refine zv_iload_n (n := 3) dX3_look_14 rfl rfl ?_
  refine zv_iload_n (n := 0) dX3_look_15 rfl rfl ?_
  refine zr_cSi (st := [.int l1]) dX3_look_16 mw_X5_bytes wd_680 wd_681 [.int o5.2] rfl rfl (Nat.le_of_ble_eq_true rfl) (show d - 1 + 1 ≤ d by omega) h (fun o7 e8 => tX5_bytes (d := d - 1) (by omega) e8) (fun o7 e8 h => ?_)
  refine zv_iadd dX3_look_19 ?_
  refine zv_istore (L' := [(4, .int (l1 + o7.2)), (3, .int o5.2), (2, .int o3.2), (0, .ref l0), (1, .int l1)]) dX3_look_20 (Nat.le_of_ble_eq_true rfl) rfl ?_
  refine zv_aload_n (n := 3) dX3_look_22 rfl rfl ?_
  refine zv_iload (n := 0) dX3_look_23 rfl ?_
  refine zv_iload_n (n := 4) dX3_look_25 rfl rfl ?_
  refine zr_icmp_le (tgt := 46) dX3_look_26 (by decide) h (fun c16 h => ?_) (fun c16 h => ?_)
  · exact zv_fewer [3, 4, 2, 1, 0] rfl (kX3_look_46 hd _ _ _ _ _ _ _ h)
  · refine zv_iload (n := 0) dX3_look_29 rfl ?_
    refine zv_aload_n (n := 3) dX3_look_31 rfl rfl ?_
    refine zr_gR dX3_look_32 fg_219 h (fun v9 e10 h => ?_)
    refine zr_gR dX3_look_35 fg_313 h (fun v11 e12 h => ?_)
    refine zr_n dX3_look_38 h (fun v13 e14 h => ?_)
    refine zr_icmp_gt (tgt := 46) dX3_look_39 (by decide) h (fun c15 h => ?_) (fun c15 h => ?_)
    · exact zv_fewer [3, 4, 2, 1, 0] rfl (kX3_look_46 hd _ _ _ _ _ _ _ h)
    · refine zv_iconst (v := 1) dX3_look_42 (by decide) ?_
      refine zv_goto (tgt := 47) dX3_look_43 (by decide) ?_
      exact zv_fewer [3, 4, 2, 1, 0] rfl (kX3_look_47 hd _ _ _ _ _ _ _ _ h)
def mX3_look (N : Nat) (a0 : Nat) (a1 : Int32) (x : zv_X) : Option zv_X := mX3_look_0 N a0 a1 x
theorem tX3_look {d : Nat} (hd : 5 ≤ d) {N : Nat} {x : zv_X} {a0 : Nat} {a1 : Int32} {o : zv_X} (h : mX3_look N a0 a1 x = some o) : zv_T d yX3_look cX3_look 5 (none) [.ref a0, .int a1] x o none := by
  unfold mX3_look at h
  exact zv_enter (by decide) (Nat.le_of_ble_eq_true rfl) (kX3_look_0 hd _ _ _ h)

abbrev fX3_findsGood (d : Nat) (x0 : zv_X) (o : (zv_X × Int32)) : zv_G := (d, RX3, cX3_findsGood, 4, (some .boolean), ("findsGood", []), x0, o.1, zv_fin x0 o.1 (some (.int o.2)))
def mX3_findsGood_115 (N : Nat) (l0 : Nat) (x : zv_X) : Option (zv_X × Int32) := (zm_I x l0 3 9).bind fun v1 => if v1 = 0 ∨ v1 = 1 then some (x, v1) else none
theorem kX3_findsGood_115 {d : Nat} {x0 : zv_X} {o : (zv_X × Int32)} (hd : 6 ≤ d) {N : Nat} (l0 : Nat) (x : zv_X) (h : mX3_findsGood_115 N l0 x = some o) : zv_V (fX3_findsGood d x0 o) 115 [(0, .ref l0)] [] x := by
  unfold mX3_findsGood_115 at h
  refine zv_aload_n (n := 0) dX3_findsGood_115 rfl rfl ?_
  refine zr_gI dX3_findsGood_116 fg_220 h (fun v1 e2 h => ?_)
  obtain ⟨hv, h⟩ := zg h
  cases h
  exact zv_zret dX3_findsGood_119 rfl hv
def mX3_findsGood_56 (N : Nat) : Nat → Nat → Int32 → zv_X → Option (zv_X × Int32)
  | 0, _, _, _ => none
  | n + 1, l0, l2, x => if (3400 : Int32) ≤ l2 then (mX3_findsGood_115 N l0 x) else ((zm_I x l0 3 9).bind fun v1 => if v1 = 0 then (mX3_findsGood_115 N l0 x) else ((zm_I x l0 3 7).bind fun v3 => if v3 ≤ 0 then (mX3_findsGood_115 N l0 x) else ((zm_I x l0 3 7).bind fun v5 => (zm_p x l0 3 7 (.int (v5 - (1 : Int32)))).bind fun x7 => (zm_R x7 l0 3 4).bind fun v9 => (zm_I x7 l0 3 7).bind fun v11 => (zm_aI x7 v9 v11).bind fun v13 => (zm_R x7 l0 3 3).bind fun v15 => (zm_sB x7 v15 v13 (0 : Int32)).bind fun x17 => if zm_k x17 l0 3 = true then ((mX3_look N l0 v13 x17).bind fun o19 => mX3_findsGood_56 N n l0 (l2 + (1)) o19) else none)))
theorem kX3_findsGood_56 {d : Nat} {x0 : zv_X} {o : (zv_X × Int32)} (hd : 6 ≤ d) {N : Nat} : ∀ (n : Nat) (l0 : Nat) (l2 : Int32) (x : zv_X), mX3_findsGood_56 N n l0 l2 x = some o → zv_V (fX3_findsGood d x0 o) 56 [(0, .ref l0), (2, .int l2)] [] x := by
  intro n
  induction n with
  | zero => intro l0 l2 x h; cases h
  | succ n ih =>
    intro l0 l2 x h
    unfold mX3_findsGood_56 at h
    refine zv_iload_n (n := 1) dX3_findsGood_56 rfl rfl ?_
    refine zv_sipush (v := 3400) dX3_findsGood_57 (by decide) ?_
    refine zr_icmp_ge (tgt := 115) dX3_findsGood_60 (by decide) h (fun c23 h => ?_) (fun c23 h => ?_)
    · exact zv_fewer [0] rfl (kX3_findsGood_115 hd _ _ h)
    · refine zv_aload_n (n := 0) dX3_findsGood_63 rfl rfl ?_
      refine zr_gI dX3_findsGood_64 fg_220 h (fun v1 e2 h => ?_)
      refine zr_if_eq (tgt := 115) dX3_findsGood_67 (by decide) h (fun c22 h => ?_) (fun c22 h => ?_)
      · exact zv_fewer [0] rfl (kX3_findsGood_115 hd _ _ h)
      · refine zv_aload_n (n := 0) dX3_findsGood_70 rfl rfl ?_
        refine zr_gI dX3_findsGood_71 fg_218 h (fun v3 e4 h => ?_)
        refine zr_if_le (tgt := 115) dX3_findsGood_74 (by decide) h (fun c21 h => ?_) (fun c21 h => ?_)
        · exact zv_fewer [0] rfl (kX3_findsGood_115 hd _ _ h)
        · refine zv_aload_n (n := 0) dX3_findsGood_77 rfl rfl ?_
          refine zv_dup dX3_findsGood_78 rfl ?_
          refine zr_gI dX3_findsGood_79 fg_218 h (fun v5 e6 h => ?_)
          refine zv_iconst (v := 1) dX3_findsGood_82 (by decide) ?_
          refine zv_isub dX3_findsGood_83 ?_
          refine zr_p dX3_findsGood_84 fl_218 (fun q => nomatch q) rfl rfl h (fun x7 e8 h => ?_)
          refine zv_aload_n (n := 0) dX3_findsGood_87 rfl rfl ?_
          refine zr_gR dX3_findsGood_88 fg_215 h (fun v9 e10 h => ?_)
          refine zv_aload_n (n := 0) dX3_findsGood_91 rfl rfl ?_
          refine zr_gI dX3_findsGood_92 fg_218 h (fun v11 e12 h => ?_)
          refine zr_aI dX3_findsGood_95 h (fun v13 e14 h => ?_)
          refine zv_istore_n (L' := [(3, .int v13), (0, .ref l0), (2, .int l2)]) dX3_findsGood_96 rfl (Nat.le_of_ble_eq_true rfl) rfl ?_
          refine zv_aload_n (n := 1) dX3_findsGood_97 rfl rfl ?_
          refine zr_gR dX3_findsGood_98 fg_214 h (fun v15 e16 h => ?_)
          refine zv_iload_n (n := 0) dX3_findsGood_101 rfl rfl ?_
          refine zv_iconst (v := 0) dX3_findsGood_102 (by decide) ?_
          refine zr_sB dX3_findsGood_103 h (fun x17 e18 h => ?_)
          refine zv_aload_n (n := 1) dX3_findsGood_104 rfl rfl ?_
          refine zv_iload_n (n := 0) dX3_findsGood_105 rfl rfl ?_
          refine zr_cVv (ci := 3) (st := []) dX3_findsGood_106 mw_X3_look wd_654 wd_656 wd_4 rfl rfl [.int v13] rfl rfl (Nat.le_of_ble_eq_true rfl) (show d - 1 + 1 ≤ d by omega) h (fun o19 e20 => tX3_look (d := d - 1) (by omega) e20) (fun o19 e20 h => ?_)
          refine zv_iinc (n := 2) (v := l2 + (1)) (L' := [(2, .int (l2 + (1))), (3, .int v13), (0, .ref l0)]) dX3_findsGood_109 rfl rfl (Nat.le_of_ble_eq_true rfl) rfl ?_
          refine zv_goto (tgt := 56) dX3_findsGood_112 (by decide) ?_
          exact zv_fewer [2, 0] rfl (ih _ _ _ h)
def mX3_findsGood_17 (N : Nat) : Nat → Nat → Nat → Int32 → zv_X → Option (zv_X × Int32)
  | 0, _, _, _, _ => none
  | n + 1, l0, l1, l2, x => if (200 : Int32) ≤ l2 then ((zm_I x l1 6 3).bind fun v1 => if zm_k x l0 3 = true then ((mX3_lead N l0 (0 : Int32) (0 : Int32) v1 x).bind fun o3 => mX3_findsGood_56 N N l0 (0 : Int32) o3) else none) else ((zm_R x l0 3 2).bind fun v5 => (zm_sB x v5 l2 (0 : Int32)).bind fun x7 => (zm_R x7 l0 3 3).bind fun v9 => (zm_sB x7 v9 l2 (0 : Int32)).bind fun x11 => mX3_findsGood_17 N n l0 l1 (l2 + (1)) x11)
theorem kX3_findsGood_17 {d : Nat} {x0 : zv_X} {o : (zv_X × Int32)} (hd : 6 ≤ d) {N : Nat} : ∀ (n : Nat) (l0 : Nat) (l1 : Nat) (l2 : Int32) (x : zv_X), mX3_findsGood_17 N n l0 l1 l2 x = some o → zv_V (fX3_findsGood d x0 o) 17 [(0, .ref l0), (1, .ref l1), (2, .int l2)] [] x := by
  intro n
  induction n with
  | zero => intro l0 l1 l2 x h; cases h
  | succ n ih =>
    intro l0 l1 l2 x h
    unfold mX3_findsGood_17 at h
    refine zv_iload_n (n := 2) dX3_findsGood_17 rfl rfl ?_
    refine zv_sipush (v := 200) dX3_findsGood_18 (by decide) ?_
    refine zr_icmp_ge (tgt := 44) dX3_findsGood_21 (by decide) h (fun c13 h => ?_) (fun c13 h => ?_)
    · refine zv_aload_n (n := 0) dX3_findsGood_44 rfl rfl ?_
      refine zv_iconst (v := 0) dX3_findsGood_45 (by decide) ?_
      refine zv_iconst (v := 0) dX3_findsGood_46 (by decide) ?_
      refine zv_aload_n (n := 1) dX3_findsGood_47 rfl rfl ?_
      refine zr_gI dX3_findsGood_48 fg_321 h (fun v1 e2 h => ?_)
      refine zr_cVv (ci := 3) (st := []) dX3_findsGood_51 mw_X3_lead wd_638 wd_640 wd_1 rfl rfl [.int (0 : Int32), .int (0 : Int32), .int v1] rfl rfl (Nat.le_of_ble_eq_true rfl) (show d - 1 + 1 ≤ d by omega) h (fun o3 e4 => tX3_lead (d := d - 1) (by omega) e4) (fun o3 e4 h => ?_)
      refine zv_iconst (v := 0) dX3_findsGood_54 (by decide) ?_
      refine zv_istore_n (L' := [(2, .int (0 : Int32)), (0, .ref l0), (1, .ref l1)]) dX3_findsGood_55 rfl (Nat.le_of_ble_eq_true rfl) rfl ?_
      exact zv_fewer [1, 0] rfl (kX3_findsGood_56 hd N _ _ _ h)
    · refine zv_aload_n (n := 0) dX3_findsGood_24 rfl rfl ?_
      refine zr_gR dX3_findsGood_25 fg_213 h (fun v5 e6 h => ?_)
      refine zv_iload_n (n := 2) dX3_findsGood_28 rfl rfl ?_
      refine zv_iconst (v := 0) dX3_findsGood_29 (by decide) ?_
      refine zr_sB dX3_findsGood_30 h (fun x7 e8 h => ?_)
      refine zv_aload_n (n := 0) dX3_findsGood_31 rfl rfl ?_
      refine zr_gR dX3_findsGood_32 fg_214 h (fun v9 e10 h => ?_)
      refine zv_iload_n (n := 2) dX3_findsGood_35 rfl rfl ?_
      refine zv_iconst (v := 0) dX3_findsGood_36 (by decide) ?_
      refine zr_sB dX3_findsGood_37 h (fun x11 e12 h => ?_)
      refine zv_iinc (n := 2) (v := l2 + (1)) (L' := [(2, .int (l2 + (1))), (0, .ref l0), (1, .ref l1)]) dX3_findsGood_38 rfl rfl (Nat.le_of_ble_eq_true rfl) rfl ?_
      refine zv_goto (tgt := 17) dX3_findsGood_41 (by decide) ?_
      exact zv_fewer [1, 2, 0] rfl (ih _ _ _ _ h)
def mX3_findsGood_0 (N : Nat) (l0 : Nat) (l1 : Nat) (x : zv_X) : Option (zv_X × Int32) := (zm_p x l0 3 8 (.ref l1)).bind fun x1 => (zm_p x1 l0 3 9 (.int (1 : Int32))).bind fun x3 => (zm_p x3 l0 3 7 (.int (0 : Int32))).bind fun x5 => mX3_findsGood_17 N N l0 l1 (0 : Int32) x5
theorem kX3_findsGood_0 {d : Nat} {x0 : zv_X} {o : (zv_X × Int32)} (hd : 6 ≤ d) {N : Nat} (l0 : Nat) (l1 : Nat) (x : zv_X) (h : mX3_findsGood_0 N l0 l1 x = some o) : zv_V (fX3_findsGood d x0 o) 0 [(0, .ref l0), (1, .ref l1)] [] x := by
  unfold mX3_findsGood_0 at h
  refine zv_aload_n (n := 0) dX3_findsGood_0 rfl rfl ?_
  refine zv_aload_n (n := 1) dX3_findsGood_1 rfl rfl ?_
  refine zr_p dX3_findsGood_2 fl_219 (fun q => nomatch q) rfl rfl h (fun x1 e2 h => ?_)
  refine zv_aload_n (n := 0) dX3_findsGood_5 rfl rfl ?_
  refine zv_iconst (v := 1) dX3_findsGood_6 (by decide) ?_
  refine zr_p dX3_findsGood_7 fl_220 (fun q => nomatch q) rfl rfl h (fun x3 e4 h => ?_)
  refine zv_aload_n (n := 0) dX3_findsGood_10 rfl rfl ?_
  refine zv_iconst (v := 0) dX3_findsGood_11 (by decide) ?_
  refine zr_p dX3_findsGood_12 fl_218 (fun q => nomatch q) rfl rfl h (fun x5 e6 h => ?_)
  refine zv_iconst (v := 0) dX3_findsGood_15 (by decide) ?_
  refine zv_istore_n (L' := [(2, .int (0 : Int32)), (0, .ref l0), (1, .ref l1)]) dX3_findsGood_16 rfl (Nat.le_of_ble_eq_true rfl) rfl ?_
  exact zv_fewer [1, 2, 0] rfl (kX3_findsGood_17 hd N _ _ _ _ h)
def mX3_findsGood (N : Nat) (a0 : Nat) (a1 : Nat) (x : zv_X) : Option (zv_X × Int32) := mX3_findsGood_0 N a0 a1 x
theorem tX3_findsGood {d : Nat} (hd : 6 ≤ d) {N : Nat} {x : zv_X} {a0 : Nat} {a1 : Nat} {o : (zv_X × Int32)} (h : mX3_findsGood N a0 a1 x = some o) : zv_T d yX3_findsGood cX3_findsGood 4 ((some .boolean)) [.ref a0, .ref a1] x o.1 (some (.int o.2)) := by
  unfold mX3_findsGood at h
  exact zv_enter (by decide) (Nat.le_of_ble_eq_true rfl) (kX3_findsGood_0 hd _ _ _ h)

abbrev fX8_method (d : Nat) (x0 : zv_X) (o : (zv_X × (Int32 ⊕ String))) : zv_G := (d, RX8, cX8_method, 6, (some .int), ("method", []), x0, o.1, zv_finX x0 o)
def mX8_method_11 (N : Nat)  (x : zv_X) : Option (zv_X × (Int32 ⊕ String)) := some (zv_pad x, .inr "java/lang/IllegalArgumentException")
theorem kX8_method_11 {d : Nat} {x0 : zv_X} {o : (zv_X × (Int32 ⊕ String))} (hd : 7 ≤ d) {N : Nat}  (x : zv_X) (h : mX8_method_11 N  x = some o) : zv_V (fX8_method d x0 o) 11 [] [] x := by
  unfold mX8_method_11 at h
  cases h
  exact zx_throw (text := "no such arguments") tw_57 (by decide) dX8_method_11 dX8_method_14 dX8_method_15 dX8_method_17 dX8_method_20 (show 6 ≤ d by omega) (Nat.le_of_ble_eq_true rfl)
def mX8_method_35 (N : Nat)  (x : zv_X) : Option (zv_X × (Int32 ⊕ String)) := some (zv_pad x, .inr "java/lang/IllegalArgumentException")
theorem kX8_method_35 {d : Nat} {x0 : zv_X} {o : (zv_X × (Int32 ⊕ String))} (hd : 7 ≤ d) {N : Nat}  (x : zv_X) (h : mX8_method_35 N  x = some o) : zv_V (fX8_method d x0 o) 35 [] [] x := by
  unfold mX8_method_35 at h
  cases h
  exact zx_throw (text := "locals are not as many as arguments .. 16") tw_57 (by decide) dX8_method_35 dX8_method_38 dX8_method_39 dX8_method_41 dX8_method_44 (show 6 ≤ d by omega) (Nat.le_of_ble_eq_true rfl)
def mX8_method_55 (N : Nat)  (x : zv_X) : Option (zv_X × (Int32 ⊕ String)) := some (zv_pad x, .inr "java/lang/IllegalArgumentException")
theorem kX8_method_55 {d : Nat} {x0 : zv_X} {o : (zv_X × (Int32 ⊕ String))} (hd : 7 ≤ d) {N : Nat}  (x : zv_X) (h : mX8_method_55 N  x = some o) : zv_V (fX8_method d x0 o) 55 [] [] x := by
  unfold mX8_method_55 at h
  cases h
  exact zx_throw (text := "stack is not 0 .. 12") tw_57 (by decide) dX8_method_55 dX8_method_58 dX8_method_59 dX8_method_61 dX8_method_64 (show 6 ≤ d by omega) (Nat.le_of_ble_eq_true rfl)
def mX8_method_76 (N : Nat)  (x : zv_X) : Option (zv_X × (Int32 ⊕ String)) := some (zv_pad x, .inr "java/lang/IllegalArgumentException")
theorem kX8_method_76 {d : Nat} {x0 : zv_X} {o : (zv_X × (Int32 ⊕ String))} (hd : 7 ≤ d) {N : Nat}  (x : zv_X) (h : mX8_method_76 N  x = some o) : zv_V (fX8_method d x0 o) 76 [] [] x := by
  unfold mX8_method_76 at h
  cases h
  exact zx_throw (text := "result is not 0 .. 3") tw_57 (by decide) dX8_method_76 dX8_method_79 dX8_method_80 dX8_method_82 dX8_method_85 (show 6 ≤ d by omega) (Nat.le_of_ble_eq_true rfl)
def mX8_method_0 (N : Nat) (l0 : Nat) (l1 : Int32) (l2 : Int32) (l3 : Int32) (l4 : Int32) (x : zv_X) : Option (zv_X × (Int32 ⊕ String)) := if l1 < 0 then (mX8_method_11 N x) else (if l1 ≤ (255 : Int32) then ((mX8_argumentsIn N l1 x).bind fun o1 => if l2 < o1.2 then (mX8_method_35 N o1.1) else (if l2 ≤ (16 : Int32) then (if l3 < 0 then (mX8_method_55 N o1.1) else (if l3 ≤ (12 : Int32) then (if l4 < 0 then (mX8_method_76 N o1.1) else (if l4 ≤ (3 : Int32) then ((zm_R o1.1 l0 8 2).bind fun v3 => if zm_k o1.1 v3 5 = true then ((mJx4a65c_size_8abf5 N v3 o1.1).bind fun o5 => if o5.2 = (20 : Int32) then (some (zv_pad o5.1, .inr "java/lang/UnsupportedOperationException")) else ((some (zv_nw o5.1 (.inr (6, zd_6)) 7)).bind fun x7 => (zm_R x7 l0 8 1).bind fun v9 => if zm_k x7 v9 0 = true then ((mX0_code N v9 x7).bind fun o11 => (zm_R o11.1 l0 8 1).bind fun v13 => if zm_k o11.1 v13 0 = true then ((mX0_handlerRows N v13 o11.1).bind fun o15 => (mX6_init N o5.1.2.1 o11.2 o15.2 l1 l2 l3 l4 o15.1).bind fun o17 => (zm_R o17 l0 8 1).bind fun v19 => if zm_k o17 v19 0 = true then ((mX0_empty N v19 o17).bind fun o21 => (zm_R o21 l0 8 3).bind fun v23 => if zm_k o21 v23 3 = true then ((mX3_findsGood N v23 o5.1.2.1 o21).bind fun o25 => if o25.2 = 0 then (some (o25.1, .inl (-1 : Int32))) else ((zm_R o25.1 l0 8 2).bind fun v27 => if zm_k o25.1 v27 5 = true then ((mJx4a65c_add_9ea2d N v27 o5.1.2.1 o25.1).bind fun o29 => (zm_R o29.1 l0 8 2).bind fun v31 => if zm_k o29.1 v31 5 = true then ((mJx4a65c_size_8abf5 N v31 o29.1).bind fun o33 => some (o33.1, .inl (o33.2 - (1 : Int32)))) else none) else none)) else none) else none) else none) else none)) else none) else (mX8_method_76 N o1.1))) else (mX8_method_55 N o1.1))) else (mX8_method_35 N o1.1))) else (mX8_method_11 N x))
theorem kX8_method_0 {d : Nat} {x0 : zv_X} {o : (zv_X × (Int32 ⊕ String))} (hd : 7 ≤ d) {N : Nat} (l0 : Nat) (l1 : Int32) (l2 : Int32) (l3 : Int32) (l4 : Int32) (x : zv_X) (h : mX8_method_0 N l0 l1 l2 l3 l4 x = some o) : zv_V (fX8_method d x0 o) 0 [(0, .ref l0), (1, .int l1), (2, .int l2), (3, .int l3), (4, .int l4)] [] x := by
  unfold mX8_method_0 at h
  refine zv_iload_n (n := 1) dX8_method_0 rfl rfl ?_
  refine zr_if_lt (tgt := 11) dX8_method_1 (by decide) h (fun c44 h => ?_) (fun c44 h => ?_)
  · exact zv_fewer [] rfl (kX8_method_11 hd _ h)
  · refine zv_iload_n (n := 1) dX8_method_4 rfl rfl ?_
    refine zv_sipush (v := 255) dX8_method_5 (by decide) ?_
    refine zr_icmp_le (tgt := 21) dX8_method_8 (by decide) h (fun c43 h => ?_) (fun c43 h => ?_)
    · refine zv_iload_n (n := 2) dX8_method_21 rfl rfl ?_
      refine zv_iload_n (n := 1) dX8_method_22 rfl rfl ?_
      refine zr_cSi (st := [.int l2]) dX8_method_23 mw_X8_argumentsIn wd_589 wd_310 [.int l1] rfl rfl (Nat.le_of_ble_eq_true rfl) (show d - 1 + 1 ≤ d by omega) h (fun o1 e2 => tX8_argumentsIn (d := d - 1) (by omega) e2) (fun o1 e2 h => ?_)
      refine zr_icmp_lt (tgt := 35) dX8_method_26 (by decide) h (fun c42 h => ?_) (fun c42 h => ?_)
      · exact zv_fewer [] rfl (kX8_method_35 hd _ h)
      · refine zv_iload_n (n := 2) dX8_method_29 rfl rfl ?_
        refine zv_bipush (v := 16) dX8_method_30 (by decide) ?_
        refine zr_icmp_le (tgt := 45) dX8_method_32 (by decide) h (fun c41 h => ?_) (fun c41 h => ?_)
        · refine zv_iload_n (n := 3) dX8_method_45 rfl rfl ?_
          refine zr_if_lt (tgt := 55) dX8_method_46 (by decide) h (fun c40 h => ?_) (fun c40 h => ?_)
          · exact zv_fewer [] rfl (kX8_method_55 hd _ h)
          · refine zv_iload_n (n := 3) dX8_method_49 rfl rfl ?_
            refine zv_bipush (v := 12) dX8_method_50 (by decide) ?_
            refine zr_icmp_le (tgt := 65) dX8_method_52 (by decide) h (fun c39 h => ?_) (fun c39 h => ?_)
            · refine zv_iload (n := 4) dX8_method_65 rfl ?_
              refine zr_if_lt (tgt := 76) dX8_method_67 (by decide) h (fun c38 h => ?_) (fun c38 h => ?_)
              · exact zv_fewer [] rfl (kX8_method_76 hd _ h)
              · refine zv_iload (n := 4) dX8_method_70 rfl ?_
                refine zv_iconst (v := 3) dX8_method_72 (by decide) ?_
                refine zr_icmp_le (tgt := 86) dX8_method_73 (by decide) h (fun c37 h => ?_) (fun c37 h => ?_)
                · refine zv_aload_n (n := 0) dX8_method_86 rfl rfl ?_
                  refine zr_gR dX8_method_87 fg_409 h (fun v3 e4 h => ?_)
                  refine zr_cVi (ci := 5) (st := []) dX8_method_90 mw_Jx4a65c_size_8abf5 wd_593 wd_594 wd_595 rfl rfl [] rfl rfl (Nat.le_of_ble_eq_true rfl) (show d - 1 + 1 ≤ d by omega) h (fun o5 e6 => tJx4a65c_size_8abf5 (d := d - 1) (by omega) e6) (fun o5 e6 h => ?_)
                  refine zv_bipush (v := 20) dX8_method_93 (by decide) ?_
                  refine zr_icmp_ne (tgt := 108) dX8_method_95 (by decide) h (fun c36 h => ?_) (fun c36 h => ?_)
                  · refine zr_new dX8_method_108 ck_6 wd_598 wd_304 wd_101 df_6 h (fun x7 e8 h => ?_)
                    refine zv_dup dX8_method_111 rfl ?_
                    refine zv_aload_n (n := 0) dX8_method_112 rfl rfl ?_
                    refine zr_gR dX8_method_113 fg_408 h (fun v9 e10 h => ?_)
                    refine zr_cVr (ci := 0) (st := [.ref o5.1.2.1, .ref o5.1.2.1]) dX8_method_116 mw_X0_code wd_599 wd_600 wd_601 rfl rfl [] rfl rfl (Nat.le_of_ble_eq_true rfl) (show d - 1 + 1 ≤ d by omega) h (fun o11 e12 => tX0_code (d := d - 1) (by omega) e12) (fun o11 e12 h => ?_)
                    refine zv_aload_n (n := 0) dX8_method_119 rfl rfl ?_
                    refine zr_gR dX8_method_120 fg_408 h (fun v13 e14 h => ?_)
                    refine zr_cVr (ci := 0) (st := [.ref o11.2, .ref o5.1.2.1, .ref o5.1.2.1]) dX8_method_123 mw_X0_handlerRows wd_617 wd_618 wd_619 rfl rfl [] rfl rfl (Nat.le_of_ble_eq_true rfl) (show d - 1 + 1 ≤ d by omega) h (fun o15 e16 => tX0_handlerRows (d := d - 1) (by omega) e16) (fun o15 e16 h => ?_)
                    refine zv_iload_n (n := 1) dX8_method_126 rfl rfl ?_
                    refine zv_iload_n (n := 2) dX8_method_127 rfl rfl ?_
                    refine zv_iload_n (n := 3) dX8_method_128 rfl rfl ?_
                    refine zv_iload (n := 4) dX8_method_129 rfl ?_
                    refine zr_cI (st := [.ref o5.1.2.1]) dX8_method_131 mw_X6_init wd_629 wd_306 rfl [.ref o11.2, .ref o15.2, .int l1, .int l2, .int l3, .int l4] rfl rfl (Nat.le_of_ble_eq_true rfl) (show d - 1 + 1 ≤ d by omega) h (fun o17 e18 => tX6_init (d := d - 1) (by omega) e18) (fun o17 e18 h => ?_)
                    refine zv_astore (L' := [(5, .ref o5.1.2.1), (0, .ref l0), (1, .int l1), (2, .int l2), (3, .int l3), (4, .int l4)]) dX8_method_134 (Nat.le_of_ble_eq_true rfl) rfl ?_
                    refine zv_aload_n (n := 1) dX8_method_136 rfl rfl ?_
                    refine zr_gR dX8_method_137 fg_408 h (fun v19 e20 h => ?_)
                    refine zr_cVv (ci := 0) (st := []) dX8_method_140 mw_X0_empty wd_630 wd_631 wd_632 rfl rfl [] rfl rfl (Nat.le_of_ble_eq_true rfl) (show d - 1 + 1 ≤ d by omega) h (fun o21 e22 => tX0_empty (d := d - 1) (by omega) e22) (fun o21 e22 h => ?_)
                    refine zv_aload_n (n := 1) dX8_method_143 rfl rfl ?_
                    refine zr_gR dX8_method_144 fg_410 h (fun v23 e24 h => ?_)
                    refine zv_aload (n := 0) dX8_method_147 rfl ?_
                    refine zr_cVi (ci := 3) (st := []) dX8_method_149 mw_X3_findsGood wd_634 wd_635 wd_636 rfl rfl [.ref o5.1.2.1] rfl rfl (Nat.le_of_ble_eq_true rfl) (show d - 1 + 1 ≤ d by omega) h (fun o25 e26 => tX3_findsGood (d := d - 1) (by omega) e26) (fun o25 e26 h => ?_)
                    refine zr_if_ne (tgt := 157) dX8_method_152 (by decide) h (fun c35 h => ?_) (fun c35 h => ?_)
                    · refine zv_aload_n (n := 1) dX8_method_157 rfl rfl ?_
                      refine zr_gR dX8_method_158 fg_409 h (fun v27 e28 h => ?_)
                      refine zv_aload (n := 0) dX8_method_161 rfl ?_
                      refine zr_cVi (ci := 5) (st := []) dX8_method_163 mw_Jx4a65c_add_9ea2d wd_775 wd_776 wd_777 rfl rfl [.ref o5.1.2.1] rfl rfl (Nat.le_of_ble_eq_true rfl) (show d - 1 + 1 ≤ d by omega) h (fun o29 e30 => tJx4a65c_add_9ea2d (d := d - 1) (by omega) e30) (fun o29 e30 h => ?_)
                      refine zv_pop dX8_method_166 rfl ?_
                      refine zv_aload_n (n := 1) dX8_method_167 rfl rfl ?_
                      refine zr_gR dX8_method_168 fg_409 h (fun v31 e32 h => ?_)
                      refine zr_cVi (ci := 5) (st := []) dX8_method_171 mw_Jx4a65c_size_8abf5 wd_593 wd_594 wd_595 rfl rfl [] rfl rfl (Nat.le_of_ble_eq_true rfl) (show d - 1 + 1 ≤ d by omega) h (fun o33 e34 => tJx4a65c_size_8abf5 (d := d - 1) (by omega) e34) (fun o33 e34 h => ?_)
                      refine zv_iconst (v := 1) dX8_method_174 (by decide) ?_
                      refine zv_isub dX8_method_175 ?_
                      cases h
                      exact zx_iret dX8_method_176 rfl
                    · refine zv_iconst (v := -1) dX8_method_155 (by decide) ?_
                      cases h
                      exact zx_iret dX8_method_156 rfl
                  · cases h
                    exact zx_throw (text := "there are 20 methods") tw_68 (by decide) dX8_method_98 dX8_method_101 dX8_method_102 dX8_method_104 dX8_method_107 (show 6 ≤ d by omega) (Nat.le_of_ble_eq_true rfl)
                · exact zv_fewer [] rfl (kX8_method_76 hd _ h)
            · exact zv_fewer [] rfl (kX8_method_55 hd _ h)
        · exact zv_fewer [] rfl (kX8_method_35 hd _ h)
    · exact zv_fewer [] rfl (kX8_method_11 hd _ h)
def mX8_method (N : Nat) (a0 : Nat) (a1 : Int32) (a2 : Int32) (a3 : Int32) (a4 : Int32) (x : zv_X) : Option (zv_X × (Int32 ⊕ String)) := mX8_method_0 N a0 a1 a2 a3 a4 x
theorem tX8_method {d : Nat} (hd : 7 ≤ d) {N : Nat} {x : zv_X} {a0 : Nat} {a1 : Int32} {a2 : Int32} {a3 : Int32} {a4 : Int32} {o : (zv_X × (Int32 ⊕ String))} (h : mX8_method N a0 a1 a2 a3 a4 x = some o) : zv_TX d yX8_method cX8_method 6 ((some .int)) [.ref a0, .int a1, .int a2, .int a3, .int a4] x o := by
  unfold mX8_method at h
  exact zx_enter (by decide) (Nat.le_of_ble_eq_true rfl) (kX8_method_0 hd _ _ _ _ _ _ h)

abbrev fX2_empty (d : Nat) (x0 : zv_X) (o : zv_X) : zv_G := (d, RX2, cX2_empty, 1, none, ("empty", []), x0, o, zv_fin x0 o none)
def mX2_empty_0 (N : Nat) (l0 : Nat) (x : zv_X) : Option zv_X := (zm_p x l0 2 7 (.int (0 : Int32))).bind fun x1 => (zm_p x1 l0 2 8 (.int (0 : Int32))).bind fun x3 => some x3
theorem kX2_empty_0 {d : Nat} {x0 : zv_X} {o : zv_X} (hd : 0 ≤ d) {N : Nat} (l0 : Nat) (x : zv_X) (h : mX2_empty_0 N l0 x = some o) : zv_V (fX2_empty d x0 o) 0 [(0, .ref l0)] [] x := by
  unfold mX2_empty_0 at h
  refine zv_aload_n (n := 0) dX2_empty_0 rfl rfl ?_
  refine zv_iconst (v := 0) dX2_empty_1 (by decide) ?_
  refine zr_p dX2_empty_2 fl_274 (fun q => nomatch q) rfl rfl h (fun x1 e2 h => ?_)
  refine zv_aload_n (n := 0) dX2_empty_5 rfl rfl ?_
  refine zv_iconst (v := 0) dX2_empty_6 (by decide) ?_
  refine zr_p dX2_empty_7 fl_275 (fun q => nomatch q) rfl rfl h (fun x3 e4 h => ?_)
  cases h
  exact zv_vret dX2_empty_10 rfl
def mX2_empty (N : Nat) (a0 : Nat) (x : zv_X) : Option zv_X := mX2_empty_0 N a0 x
theorem tX2_empty {d : Nat} (hd : 0 ≤ d) {N : Nat} {x : zv_X} {a0 : Nat} {o : zv_X} (h : mX2_empty N a0 x = some o) : zv_T d yX2_empty cX2_empty 1 (none) [.ref a0] x o none := by
  unfold mX2_empty at h
  exact zv_enter (by decide) (Nat.le_of_ble_eq_true rfl) (kX2_empty_0 hd _ _ h)

abbrev fJ7_rangeCheck_23922 (d : Nat) (x0 : zv_X) (o : zv_X) : zv_G := (d, RJ7, cJ7_rangeCheck_23922, 3, none, ("rangeCheck", []), x0, o, zv_fin x0 o none)
def mJ7_rangeCheck_23922_0 (N : Nat) (l0 : Int32) (l1 : Int32) (l2 : Int32) (x : zv_X) : Option zv_X := if l1 ≤ l2 then (if 0 ≤ l1 then (if l2 ≤ l0 then (some x) else (none)) else (none)) else (none)
theorem kJ7_rangeCheck_23922_0 {d : Nat} {x0 : zv_X} {o : zv_X} (hd : 0 ≤ d) {N : Nat} (l0 : Int32) (l1 : Int32) (l2 : Int32) (x : zv_X) (h : mJ7_rangeCheck_23922_0 N l0 l1 l2 x = some o) : zv_V (fJ7_rangeCheck_23922 d x0 o) 0 [(0, .int l0), (1, .int l1), (2, .int l2)] [] x := by
  unfold mJ7_rangeCheck_23922_0 at h
  refine zv_iload_n (n := 1) dJ7_rangeCheck_23922_0 rfl rfl ?_
  refine zv_iload_n (n := 2) dJ7_rangeCheck_23922_1 rfl rfl ?_
  refine zr_icmp_le (tgt := 46) dJ7_rangeCheck_23922_2 (by decide) h (fun c3 h => ?_) (fun c3 h => ?_)
  · refine zv_iload_n (n := 1) dJ7_rangeCheck_23922_46 rfl rfl ?_
    refine zr_if_ge (tgt := 59) dJ7_rangeCheck_23922_47 (by decide) h (fun c2 h => ?_) (fun c2 h => ?_)
    · refine zv_iload_n (n := 2) dJ7_rangeCheck_23922_59 rfl rfl ?_
      refine zv_iload_n (n := 0) dJ7_rangeCheck_23922_60 rfl rfl ?_
      refine zr_icmp_le (tgt := 73) dJ7_rangeCheck_23922_61 (by decide) h (fun c1 h => ?_) (fun c1 h => ?_)
      · cases h
        exact zv_vret dJ7_rangeCheck_23922_73 rfl
      · cases h
    · cases h
  · cases h
def mJ7_rangeCheck_23922 (N : Nat) (a0 : Int32) (a1 : Int32) (a2 : Int32) (x : zv_X) : Option zv_X := mJ7_rangeCheck_23922_0 N a0 a1 a2 x
theorem tJ7_rangeCheck_23922 {d : Nat} (hd : 0 ≤ d) {N : Nat} {x : zv_X} {a0 : Int32} {a1 : Int32} {a2 : Int32} {o : zv_X} (h : mJ7_rangeCheck_23922 N a0 a1 a2 x = some o) : zv_T d yJ7_rangeCheck_23922 cJ7_rangeCheck_23922 3 (none) [.int a0, .int a1, .int a2] x o none := by
  unfold mJ7_rangeCheck_23922 at h
  exact zv_enter (by decide) (Nat.le_of_ble_eq_true rfl) (kJ7_rangeCheck_23922_0 hd _ _ _ _ h)

abbrev fJ7_fill_fda19 (d : Nat) (x0 : zv_X) (o : zv_X) : zv_G := (d, RJ7, cJ7_fill_fda19, 5, none, ("fill", []), x0, o, zv_fin x0 o none)
def mJ7_fill_fda19_10 (N : Nat) : Nat → Nat → Int32 → Int32 → Int32 → zv_X → Option zv_X
  | 0, _, _, _, _, _ => none
  | n + 1, l0, l2, l3, l4, x => if l2 ≤ l4 then (some x) else ((zm_sI x l0 l4 l3).bind fun x1 => mJ7_fill_fda19_10 N n l0 l2 l3 (l4 + (1)) x1)
theorem kJ7_fill_fda19_10 {d : Nat} {x0 : zv_X} {o : zv_X} (hd : 1 ≤ d) {N : Nat} : ∀ (n : Nat) (l0 : Nat) (l2 : Int32) (l3 : Int32) (l4 : Int32) (x : zv_X), mJ7_fill_fda19_10 N n l0 l2 l3 l4 x = some o → zv_V (fJ7_fill_fda19 d x0 o) 10 [(0, .ref l0), (2, .int l2), (3, .int l3), (4, .int l4)] [] x := by
  intro n
  induction n with
  | zero => intro l0 l2 l3 l4 x h; cases h
  | succ n ih =>
    intro l0 l2 l3 l4 x h
    unfold mJ7_fill_fda19_10 at h
    refine zv_iload (n := 3) dJ7_fill_fda19_10 rfl ?_
    refine zv_iload_n (n := 1) dJ7_fill_fda19_12 rfl rfl ?_
    refine zr_icmp_ge (tgt := 27) dJ7_fill_fda19_13 (by decide) h (fun c3 h => ?_) (fun c3 h => ?_)
    · cases h
      exact zv_vret dJ7_fill_fda19_27 rfl
    · refine zv_aload_n (n := 0) dJ7_fill_fda19_16 rfl rfl ?_
      refine zv_iload (n := 3) dJ7_fill_fda19_17 rfl ?_
      refine zv_iload_n (n := 2) dJ7_fill_fda19_19 rfl rfl ?_
      refine zr_sI dJ7_fill_fda19_20 h (fun x1 e2 h => ?_)
      refine zv_iinc (n := 3) (v := l4 + (1)) (L' := [(4, .int (l4 + (1))), (0, .ref l0), (2, .int l2), (3, .int l3)]) dJ7_fill_fda19_21 rfl rfl (Nat.le_of_ble_eq_true rfl) rfl ?_
      refine zv_goto (tgt := 10) dJ7_fill_fda19_24 (by decide) ?_
      exact zv_fewer [1, 2, 3, 0] rfl (ih _ _ _ _ _ h)
def mJ7_fill_fda19_0 (N : Nat) (l0 : Nat) (l1 : Int32) (l2 : Int32) (l3 : Int32) (x : zv_X) : Option zv_X := (zm_n x l0).bind fun v1 => (mJ7_rangeCheck_23922 N v1 l1 l2 x).bind fun o3 => mJ7_fill_fda19_10 N N l0 l2 l3 l1 o3
theorem kJ7_fill_fda19_0 {d : Nat} {x0 : zv_X} {o : zv_X} (hd : 1 ≤ d) {N : Nat} (l0 : Nat) (l1 : Int32) (l2 : Int32) (l3 : Int32) (x : zv_X) (h : mJ7_fill_fda19_0 N l0 l1 l2 l3 x = some o) : zv_V (fJ7_fill_fda19 d x0 o) 0 [(0, .ref l0), (1, .int l1), (2, .int l2), (3, .int l3)] [] x := by
  unfold mJ7_fill_fda19_0 at h
  refine zv_aload_n (n := 0) dJ7_fill_fda19_0 rfl rfl ?_
  refine zr_n dJ7_fill_fda19_1 h (fun v1 e2 h => ?_)
  refine zv_iload_n (n := 1) dJ7_fill_fda19_2 rfl rfl ?_
  refine zv_iload_n (n := 2) dJ7_fill_fda19_3 rfl rfl ?_
  refine zr_cSv (st := []) dJ7_fill_fda19_4 mw_J7_rangeCheck_23922 wd_859 wd_860 [.int v1, .int l1, .int l2] rfl rfl (Nat.le_of_ble_eq_true rfl) (show d - 1 + 1 ≤ d by omega) h (fun o3 e4 => tJ7_rangeCheck_23922 (d := d - 1) (by omega) e4) (fun o3 e4 h => ?_)
  refine zv_iload_n (n := 1) dJ7_fill_fda19_7 rfl rfl ?_
  refine zv_istore (L' := [(4, .int l1), (0, .ref l0), (1, .int l1), (2, .int l2), (3, .int l3)]) dJ7_fill_fda19_8 (Nat.le_of_ble_eq_true rfl) rfl ?_
  exact zv_fewer [1, 3, 4, 0] rfl (kJ7_fill_fda19_10 hd N _ _ _ _ _ h)
def mJ7_fill_fda19 (N : Nat) (a0 : Nat) (a1 : Int32) (a2 : Int32) (a3 : Int32) (x : zv_X) : Option zv_X := mJ7_fill_fda19_0 N a0 a1 a2 a3 x
theorem tJ7_fill_fda19 {d : Nat} (hd : 1 ≤ d) {N : Nat} {x : zv_X} {a0 : Nat} {a1 : Int32} {a2 : Int32} {a3 : Int32} {o : zv_X} (h : mJ7_fill_fda19 N a0 a1 a2 a3 x = some o) : zv_T d yJ7_fill_fda19 cJ7_fill_fda19 5 (none) [.ref a0, .int a1, .int a2, .int a3] x o none := by
  unfold mJ7_fill_fda19 at h
  exact zv_enter (by decide) (Nat.le_of_ble_eq_true rfl) (kJ7_fill_fda19_0 hd _ _ _ _ _ h)

abbrev fX1_begin (d : Nat) (x0 : zv_X) (o : zv_X) : zv_G := (d, RX1, cX1_begin, 2, none, ("begin", []), x0, o, zv_fin x0 o none)
def mX1_begin_0 (N : Nat) (l0 : Nat) (l1 : Nat) (x : zv_X) : Option zv_X := (zm_p x l0 1 3 (.ref l1)).bind fun x1 => (zm_p x1 l0 1 4 (.int (0 : Int32))).bind fun x3 => (zm_p x3 l0 1 2 (.int (16 : Int32))).bind fun x5 => (zm_R x5 l0 1 1).bind fun v7 => (mJ7_fill_fda19 N v7 (0 : Int32) (16 : Int32) (0 : Int32) x5).bind fun o9 => some o9
theorem kX1_begin_0 {d : Nat} {x0 : zv_X} {o : zv_X} (hd : 2 ≤ d) {N : Nat} (l0 : Nat) (l1 : Nat) (x : zv_X) (h : mX1_begin_0 N l0 l1 x = some o) : zv_V (fX1_begin d x0 o) 0 [(0, .ref l0), (1, .ref l1)] [] x := by
  unfold mX1_begin_0 at h
  refine zv_aload_n (n := 0) dX1_begin_0 rfl rfl ?_
  refine zv_aload_n (n := 1) dX1_begin_1 rfl rfl ?_
  refine zr_p dX1_begin_2 fl_351 (fun q => nomatch q) rfl rfl h (fun x1 e2 h => ?_)
  refine zv_aload_n (n := 0) dX1_begin_5 rfl rfl ?_
  refine zv_iconst (v := 0) dX1_begin_6 (by decide) ?_
  refine zr_p dX1_begin_7 fl_352 (fun q => nomatch q) rfl rfl h (fun x3 e4 h => ?_)
  refine zv_aload_n (n := 0) dX1_begin_10 rfl rfl ?_
  refine zv_bipush (v := 16) dX1_begin_11 (by decide) ?_
  refine zr_p dX1_begin_13 fl_350 (fun q => nomatch q) rfl rfl h (fun x5 e6 h => ?_)
  refine zv_aload_n (n := 0) dX1_begin_16 rfl rfl ?_
  refine zr_gR dX1_begin_17 fg_349 h (fun v7 e8 h => ?_)
  refine zv_iconst (v := 0) dX1_begin_20 (by decide) ?_
  refine zv_bipush (v := 16) dX1_begin_21 (by decide) ?_
  refine zv_iconst (v := 0) dX1_begin_23 (by decide) ?_
  refine zr_cSv (st := []) dX1_begin_24 mw_J7_fill_fda19 wd_856 wd_857 [.ref v7, .int (0 : Int32), .int (16 : Int32), .int (0 : Int32)] rfl rfl (Nat.le_of_ble_eq_true rfl) (show d - 1 + 1 ≤ d by omega) h (fun o9 e10 => tJ7_fill_fda19 (d := d - 1) (by omega) e10) (fun o9 e10 h => ?_)
  cases h
  exact zv_vret dX1_begin_27 rfl
def mX1_begin (N : Nat) (a0 : Nat) (a1 : Nat) (x : zv_X) : Option zv_X := mX1_begin_0 N a0 a1 x
theorem tX1_begin {d : Nat} (hd : 2 ≤ d) {N : Nat} {x : zv_X} {a0 : Nat} {a1 : Nat} {o : zv_X} (h : mX1_begin N a0 a1 x = some o) : zv_T d yX1_begin cX1_begin 2 (none) [.ref a0, .ref a1] x o none := by
  unfold mX1_begin at h
  exact zv_enter (by decide) (Nat.le_of_ble_eq_true rfl) (kX1_begin_0 hd _ _ _ h)

abbrev fX1_setNumber (d : Nat) (x0 : zv_X) (o : zv_X) : zv_G := (d, RX1, cX1_setNumber, 4, none, ("setNumber", []), x0, o, zv_fin x0 o none)
def mX1_setNumber_0 (N : Nat) (l0 : Nat) (l1 : Int32) (l2 : Int64) (x : zv_X) : Option zv_X := (zm_R x l0 1 0).bind fun v1 => (zm_sL x v1 l1 l2).bind fun x3 => (zm_R x3 l0 1 1).bind fun v5 => (zm_sI x3 v5 l1 (0 : Int32)).bind fun x7 => some x7
theorem kX1_setNumber_0 {d : Nat} {x0 : zv_X} {o : zv_X} (hd : 0 ≤ d) {N : Nat} (l0 : Nat) (l1 : Int32) (l2 : Int64) (x : zv_X) (h : mX1_setNumber_0 N l0 l1 l2 x = some o) : zv_V (fX1_setNumber d x0 o) 0 [(0, .ref l0), (1, .int l1), (2, .long l2)] [] x := by
  unfold mX1_setNumber_0 at h
  refine zv_aload_n (n := 0) dX1_setNumber_0 rfl rfl ?_
  refine zr_gR dX1_setNumber_1 fg_348 h (fun v1 e2 h => ?_)
  refine zv_iload_n (n := 1) dX1_setNumber_4 rfl rfl ?_
  refine zv_lload_n (n := 2) dX1_setNumber_5 rfl rfl ?_
  refine zr_sL dX1_setNumber_6 h (fun x3 e4 h => ?_)
  refine zv_aload_n (n := 0) dX1_setNumber_7 rfl rfl ?_
  refine zr_gR dX1_setNumber_8 fg_349 h (fun v5 e6 h => ?_)
  refine zv_iload_n (n := 1) dX1_setNumber_11 rfl rfl ?_
  refine zv_iconst (v := 0) dX1_setNumber_12 (by decide) ?_
  refine zr_sI dX1_setNumber_13 h (fun x7 e8 h => ?_)
  cases h
  exact zv_vret dX1_setNumber_14 rfl
def mX1_setNumber (N : Nat) (a0 : Nat) (a1 : Int32) (a2 : Int64) (x : zv_X) : Option zv_X := mX1_setNumber_0 N a0 a1 a2 x
theorem tX1_setNumber {d : Nat} (hd : 0 ≤ d) {N : Nat} {x : zv_X} {a0 : Nat} {a1 : Int32} {a2 : Int64} {o : zv_X} (h : mX1_setNumber N a0 a1 a2 x = some o) : zv_T d yX1_setNumber cX1_setNumber 4 (none) [.ref a0, .int a1, .long a2] x o none := by
  unfold mX1_setNumber at h
  exact zv_enter (by decide) (Nat.le_of_ble_eq_true rfl) (kX1_setNumber_0 hd _ _ _ _ h)

abbrev fX4_beginFirst (d : Nat) (x0 : zv_X) (o : zv_X) : zv_G := (d, RX4, cX4_beginFirst, 14, none, ("beginFirst", []), x0, o, zv_fin x0 o none)
def mX4_beginFirst_95 (K33 : Nat → Nat → Int64 → Int64 → Int32 → zv_X → Option zv_X) (N : Nat) (l0 : Nat) (l1 : Nat) (l6 : Int64) (l8 : Int64) (l10 : Int32) (x : zv_X) : Option zv_X := K33 l0 l1 l6 l8 (l10 + (1)) x
theorem kX4_beginFirst_95 {d : Nat} {x0 : zv_X} {o : zv_X} (hd : 3 ≤ d) {K33 : Nat → Nat → Int64 → Int64 → Int32 → zv_X → Option zv_X} (hK33 : ∀ (l0 : Nat) (l1 : Nat) (l6 : Int64) (l8 : Int64) (l10 : Int32) (x : zv_X), K33 l0 l1 l6 l8 l10 x = some o → zv_V (fX4_beginFirst d x0 o) 33 [(0, .ref l0), (1, .ref l1), (6, .long l6), (8, .long l8), (10, .int l10)] [] x) {N : Nat} (l0 : Nat) (l1 : Nat) (l6 : Int64) (l8 : Int64) (l10 : Int32) (x : zv_X) (h : mX4_beginFirst_95 K33 N l0 l1 l6 l8 l10 x = some o) : zv_V (fX4_beginFirst d x0 o) 95 [(0, .ref l0), (1, .ref l1), (6, .long l6), (8, .long l8), (10, .int l10)] [] x := by
  unfold mX4_beginFirst_95 at h
  refine zv_iinc (n := 4) (v := l10 + (1)) (L' := [(10, .int (l10 + (1))), (0, .ref l0), (1, .ref l1), (6, .long l6), (8, .long l8)]) dX4_beginFirst_95 rfl rfl (Nat.le_of_ble_eq_true rfl) rfl ?_
  refine zv_goto (tgt := 33) dX4_beginFirst_98 (by decide) ?_
  exact zv_fewer [1, 2, 3, 4, 0] rfl (hK33 _ _ _ _ _ _ h)
def mX4_beginFirst_80 (K33 : Nat → Nat → Int64 → Int64 → Int32 → zv_X → Option zv_X) (N : Nat) (l0 : Nat) (l1 : Nat) (l6 : Int64) (l8 : Int64) (l10 : Int32) (s0 : Int64) (s1 : Int32) (s2 : Nat) (x : zv_X) : Option zv_X := if zm_k x s2 1 = true then ((mX1_setNumber N s2 s1 s0 x).bind fun o1 => mX4_beginFirst_95 K33 N l0 l1 l8 l6 l10 o1) else none
theorem kX4_beginFirst_80 {d : Nat} {x0 : zv_X} {o : zv_X} (hd : 3 ≤ d) {K33 : Nat → Nat → Int64 → Int64 → Int32 → zv_X → Option zv_X} (hK33 : ∀ (l0 : Nat) (l1 : Nat) (l6 : Int64) (l8 : Int64) (l10 : Int32) (x : zv_X), K33 l0 l1 l6 l8 l10 x = some o → zv_V (fX4_beginFirst d x0 o) 33 [(0, .ref l0), (1, .ref l1), (6, .long l6), (8, .long l8), (10, .int l10)] [] x) {N : Nat} (l0 : Nat) (l1 : Nat) (l6 : Int64) (l8 : Int64) (l10 : Int32) (s0 : Int64) (s1 : Int32) (s2 : Nat) (x : zv_X) (h : mX4_beginFirst_80 K33 N l0 l1 l6 l8 l10 s0 s1 s2 x = some o) : zv_V (fX4_beginFirst d x0 o) 80 [(0, .ref l0), (1, .ref l1), (6, .long l6), (8, .long l8), (10, .int l10)] [.long s0, .int s1, .ref s2] x := by
  unfold mX4_beginFirst_80 at h
  refine zr_cVv (ci := 1) (st := []) dX4_beginFirst_80 mw_X1_setNumber wd_1100 wd_1101 wd_1102 rfl rfl [.int s1, .long s0] rfl rfl (Nat.le_of_ble_eq_true rfl) (show d - 1 + 1 ≤ d by omega) h (fun o1 e2 => tX1_setNumber (d := d - 1) (by omega) e2) (fun o1 e2 h => ?_)
  refine zv_lload (n := 2) dX4_beginFirst_83 rfl ?_
  refine zv_lstore (L' := [(12, .long l6), (0, .ref l0), (1, .ref l1), (6, .long l6), (8, .long l8), (10, .int l10)]) dX4_beginFirst_85 (Nat.le_of_ble_eq_true rfl) rfl ?_
  refine zv_lload (n := 4) dX4_beginFirst_87 rfl ?_
  refine zv_lstore (L' := [(6, .long l8), (12, .long l6), (0, .ref l0), (1, .ref l1), (8, .long l8), (10, .int l10)]) dX4_beginFirst_89 (Nat.le_of_ble_eq_true rfl) rfl ?_
  refine zv_lload (n := 1) dX4_beginFirst_91 rfl ?_
  refine zv_lstore (L' := [(8, .long l6), (6, .long l8), (12, .long l6), (0, .ref l0), (1, .ref l1), (10, .int l10)]) dX4_beginFirst_93 (Nat.le_of_ble_eq_true rfl) rfl ?_
  exact zv_fewer [3, 4, 1, 0, 5] rfl (kX4_beginFirst_95 hd hK33 _ _ _ _ _ _ h)
def mX4_beginFirst_33 (N : Nat) : Nat → Nat → Nat → Int64 → Int64 → Int32 → zv_X → Option zv_X
  | 0, _, _, _, _, _, _ => none
  | n + 1, l0, l1, l6, l8, l10, x => (zm_I x l1 6 2).bind fun v1 => if v1 ≤ l10 then (some x) else (if zm_k x l1 6 = true then ((mX6_kindOfArgument N l1 l10 x).bind fun o3 => if o3.2 = (3 : Int32) then (mX4_beginFirst_95 (mX4_beginFirst_33 N n) N l0 l1 l6 l8 l10 o3.1) else ((zm_R o3.1 l0 4 5).bind fun v5 => if o3.2 = (1 : Int32) then (mX4_beginFirst_80 (mX4_beginFirst_33 N n) N l0 l1 l6 l8 l10 (Int32.toInt64 (Int64.toInt32 l6)) l10 v5 o3.1) else (mX4_beginFirst_80 (mX4_beginFirst_33 N n) N l0 l1 l6 l8 l10 l6 l10 v5 o3.1))) else none)
theorem kX4_beginFirst_33 {d : Nat} {x0 : zv_X} {o : zv_X} (hd : 3 ≤ d) {N : Nat} : ∀ (n : Nat) (l0 : Nat) (l1 : Nat) (l6 : Int64) (l8 : Int64) (l10 : Int32) (x : zv_X), mX4_beginFirst_33 N n l0 l1 l6 l8 l10 x = some o → zv_V (fX4_beginFirst d x0 o) 33 [(0, .ref l0), (1, .ref l1), (6, .long l6), (8, .long l8), (10, .int l10)] [] x := by
  intro n
  induction n with
  | zero => intro l0 l1 l6 l8 l10 x h; cases h
  | succ n ih =>
    intro l0 l1 l6 l8 l10 x h
    unfold mX4_beginFirst_33 at h
    refine zv_iload (n := 4) dX4_beginFirst_33 rfl ?_
    refine zv_aload_n (n := 1) dX4_beginFirst_35 rfl rfl ?_
    refine zr_gI dX4_beginFirst_36 fg_317 h (fun v1 e2 h => ?_)
    refine zr_icmp_ge (tgt := 101) dX4_beginFirst_39 (by decide) h (fun c9 h => ?_) (fun c9 h => ?_)
    · cases h
      exact zv_vret dX4_beginFirst_101 rfl
    · refine zv_aload_n (n := 1) dX4_beginFirst_42 rfl rfl ?_
      refine zv_iload (n := 4) dX4_beginFirst_43 rfl ?_
      refine zr_cVi (ci := 6) (st := []) dX4_beginFirst_45 mw_X6_kindOfArgument wd_1099 wd_759 wd_760 rfl rfl [.int l10] rfl rfl (Nat.le_of_ble_eq_true rfl) (show d - 1 + 1 ≤ d by omega) h (fun o3 e4 => tX6_kindOfArgument (d := d - 1) (by omega) e4) (fun o3 e4 h => ?_)
      refine zv_istore (L' := [(11, .int o3.2), (0, .ref l0), (1, .ref l1), (6, .long l6), (8, .long l8), (10, .int l10)]) dX4_beginFirst_48 (Nat.le_of_ble_eq_true rfl) rfl ?_
      refine zv_iload (n := 0) dX4_beginFirst_50 rfl ?_
      refine zv_iconst (v := 3) dX4_beginFirst_52 (by decide) ?_
      refine zr_icmp_ne (tgt := 59) dX4_beginFirst_53 (by decide) h (fun c8 h => ?_) (fun c8 h => ?_)
      · refine zv_aload_n (n := 1) dX4_beginFirst_59 rfl rfl ?_
        refine zr_gR dX4_beginFirst_60 fg_371 h (fun v5 e6 h => ?_)
        refine zv_iload (n := 5) dX4_beginFirst_63 rfl ?_
        refine zv_iload (n := 0) dX4_beginFirst_65 rfl ?_
        refine zv_iconst (v := 1) dX4_beginFirst_67 (by decide) ?_
        refine zr_icmp_ne (tgt := 78) dX4_beginFirst_68 (by decide) h (fun c7 h => ?_) (fun c7 h => ?_)
        · refine zv_lload (n := 3) dX4_beginFirst_78 rfl ?_
          exact zv_fewer [1, 2, 3, 4, 5] rfl (kX4_beginFirst_80 hd ih _ _ _ _ _ _ _ _ _ h)
        · refine zv_lload (n := 3) dX4_beginFirst_71 rfl ?_
          refine zv_l2i dX4_beginFirst_73 ?_
          refine zv_i2l dX4_beginFirst_74 ?_
          refine zv_goto (tgt := 80) dX4_beginFirst_75 (by decide) ?_
          exact zv_fewer [1, 2, 3, 4, 5] rfl (kX4_beginFirst_80 hd ih _ _ _ _ _ _ _ _ _ h)
      · refine zv_goto (tgt := 95) dX4_beginFirst_56 (by decide) ?_
        exact zv_fewer [1, 2, 3, 4, 5] rfl (kX4_beginFirst_95 hd ih _ _ _ _ _ _ h)
def mX4_beginFirst_0 (N : Nat) (l0 : Nat) (l1 : Nat) (l2 : Int64) (l4 : Int64) (x : zv_X) : Option zv_X := (zm_p x l0 4 6 (.int (0 : Int32))).bind fun x1 => (zm_R x1 l0 4 4).bind fun v3 => (zm_aR x1 v3 (0 : Int32)).bind fun v5 => (zm_p x1 l0 4 5 (.ref v5)).bind fun x7 => (zm_R x7 l0 4 5).bind fun v9 => if zm_k x7 v9 1 = true then ((mX1_begin N v9 l1 x7).bind fun o11 => mX4_beginFirst_33 N N l0 l1 l2 l4 (0 : Int32) o11) else none
theorem kX4_beginFirst_0 {d : Nat} {x0 : zv_X} {o : zv_X} (hd : 3 ≤ d) {N : Nat} (l0 : Nat) (l1 : Nat) (l2 : Int64) (l4 : Int64) (x : zv_X) (h : mX4_beginFirst_0 N l0 l1 l2 l4 x = some o) : zv_V (fX4_beginFirst d x0 o) 0 [(0, .ref l0), (1, .ref l1), (2, .long l2), (4, .long l4)] [] x := by
  unfold mX4_beginFirst_0 at h
  refine zv_aload_n (n := 0) dX4_beginFirst_0 rfl rfl ?_
  refine zv_iconst (v := 0) dX4_beginFirst_1 (by decide) ?_
  refine zr_p dX4_beginFirst_2 fl_372 (fun q => nomatch q) rfl rfl h (fun x1 e2 h => ?_)
  refine zv_aload_n (n := 0) dX4_beginFirst_5 rfl rfl ?_
  refine zv_aload_n (n := 0) dX4_beginFirst_6 rfl rfl ?_
  refine zr_gR dX4_beginFirst_7 fg_370 h (fun v3 e4 h => ?_)
  refine zv_iconst (v := 0) dX4_beginFirst_10 (by decide) ?_
  refine zr_aR dX4_beginFirst_11 h (fun v5 e6 h => ?_)
  refine zr_p dX4_beginFirst_12 fl_371 (fun q => nomatch q) rfl rfl h (fun x7 e8 h => ?_)
  refine zv_aload_n (n := 0) dX4_beginFirst_15 rfl rfl ?_
  refine zr_gR dX4_beginFirst_16 fg_371 h (fun v9 e10 h => ?_)
  refine zv_aload_n (n := 1) dX4_beginFirst_19 rfl rfl ?_
  refine zr_cVv (ci := 1) (st := []) dX4_beginFirst_20 mw_X1_begin wd_852 wd_853 wd_854 rfl rfl [.ref l1] rfl rfl (Nat.le_of_ble_eq_true rfl) (show d - 1 + 1 ≤ d by omega) h (fun o11 e12 => tX1_begin (d := d - 1) (by omega) e12) (fun o11 e12 h => ?_)
  refine zv_lload_n (n := 2) dX4_beginFirst_23 rfl rfl ?_
  refine zv_lstore (L' := [(6, .long l2), (0, .ref l0), (1, .ref l1), (2, .long l2), (4, .long l4)]) dX4_beginFirst_24 (Nat.le_of_ble_eq_true rfl) rfl ?_
  refine zv_lload (n := 4) dX4_beginFirst_26 rfl ?_
  refine zv_lstore (L' := [(8, .long l4), (6, .long l2), (0, .ref l0), (1, .ref l1), (2, .long l2), (4, .long l4)]) dX4_beginFirst_28 (Nat.le_of_ble_eq_true rfl) rfl ?_
  refine zv_iconst (v := 0) dX4_beginFirst_30 (by decide) ?_
  refine zv_istore (L' := [(10, .int (0 : Int32)), (8, .long l4), (6, .long l2), (0, .ref l0), (1, .ref l1), (2, .long l2), (4, .long l4)]) dX4_beginFirst_31 (Nat.le_of_ble_eq_true rfl) rfl ?_
  exact zv_fewer [3, 4, 2, 1, 0] rfl (kX4_beginFirst_33 hd N _ _ _ _ _ _ h)
def mX4_beginFirst (N : Nat) (a0 : Nat) (a1 : Nat) (a2 : Int64) (a3 : Int64) (x : zv_X) : Option zv_X := mX4_beginFirst_0 N a0 a1 a2 a3 x
theorem tX4_beginFirst {d : Nat} (hd : 3 ≤ d) {N : Nat} {x : zv_X} {a0 : Nat} {a1 : Nat} {a2 : Int64} {a3 : Int64} {o : zv_X} (h : mX4_beginFirst N a0 a1 a2 a3 x = some o) : zv_T d yX4_beginFirst cX4_beginFirst 14 (none) [.ref a0, .ref a1, .long a2, .long a3] x o none := by
  unfold mX4_beginFirst at h
  exact zv_enter (by decide) (Nat.le_of_ble_eq_true rfl) (kX4_beginFirst_0 hd _ _ _ _ _ h)
