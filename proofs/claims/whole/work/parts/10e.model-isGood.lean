abbrev fX9_judge (d : Nat) (x0 : zv_X) (o : zv_X) : zv_G := (d, RX9, cX9_judge, 9, none, ("judge", []), x0, o, zv_fin x0 o none)
def mX9_judge_591 (N : Nat)  (x : zv_X) : Option zv_X := some x
theorem kX9_judge_591 {d : Nat} {x0 : zv_X} {o : zv_X} (hd : 2 ≤ d) {N : Nat}  (x : zv_X) (h : mX9_judge_591 N  x = some o) : zv_V (fX9_judge d x0 o) 591 [] [] x := by
  unfold mX9_judge_591 at h
  cases h
  exact zv_vret dX9_judge_591 rfl
def mX9_judge_570 (N : Nat) (l0 : Nat) (l1 : Int32) (l2 : Int32) (l4 : Int32) (l7 : Int32) (x : zv_X) : Option zv_X := (zm_I x l0 9 27).bind fun v1 => if v1 = 0 then (mX9_judge_591 N x) else (if l7 = 0 then (mX9_judge_591 N x) else (if zm_k x l0 9 = true then ((mX9_lead N l0 l1 (l2 + l4) x).bind fun o3 => mX9_judge_591 N o3) else none))
theorem kX9_judge_570 {d : Nat} {x0 : zv_X} {o : zv_X} (hd : 2 ≤ d) {N : Nat} (l0 : Nat) (l1 : Int32) (l2 : Int32) (l4 : Int32) (l7 : Int32) (x : zv_X) (h : mX9_judge_570 N l0 l1 l2 l4 l7 x = some o) : zv_V (fX9_judge d x0 o) 570 [(0, .ref l0), (1, .int l1), (2, .int l2), (4, .int l4), (7, .int l7)] [] x := by
  unfold mX9_judge_570 at h
  refine zv_aload_n (n := 0) dX9_judge_570 rfl rfl ?_
  refine zr_gI dX9_judge_571 fg_1430 h (fun v1 e2 h => ?_)
  refine zr_if_eq (tgt := 591) dX9_judge_574 (by decide) h (fun c6 h => ?_) (fun c6 h => ?_)
  · exact zv_fewer [] rfl (kX9_judge_591 hd _ h)
  · refine zv_iload (n := 4) dX9_judge_577 rfl ?_
    refine zr_if_eq (tgt := 591) dX9_judge_579 (by decide) h (fun c5 h => ?_) (fun c5 h => ?_)
    · exact zv_fewer [] rfl (kX9_judge_591 hd _ h)
    · refine zv_aload_n (n := 0) dX9_judge_582 rfl rfl ?_
      refine zv_iload_n (n := 1) dX9_judge_583 rfl rfl ?_
      refine zv_iload_n (n := 2) dX9_judge_584 rfl rfl ?_
      refine zv_iload (n := 3) dX9_judge_585 rfl ?_
      refine zv_iadd dX9_judge_587 ?_
      refine zr_cVv (ci := 9) (st := []) dX9_judge_588 mw_X9_lead wd_1593 wd_1595 wd_51 rfl rfl [.int l1, .int (l2 + l4)] rfl rfl (Nat.le_of_ble_eq_true rfl) (show d - 1 + 1 ≤ d by omega) h (fun o3 e4 => tX9_lead (d := d - 1) (by omega) e4) (fun o3 e4 h => ?_)
      exact zv_fewer [] rfl (kX9_judge_591 hd _ h)
def mX9_judge_454 (N : Nat) (l0 : Nat) (l1 : Int32) (l2 : Int32) (l4 : Int32) (s0 : Int32) (x : zv_X) : Option zv_X := mX9_judge_570 N l0 l1 l2 l4 s0 x
theorem kX9_judge_454 {d : Nat} {x0 : zv_X} {o : zv_X} (hd : 2 ≤ d) {N : Nat} (l0 : Nat) (l1 : Int32) (l2 : Int32) (l4 : Int32) (s0 : Int32) (x : zv_X) (h : mX9_judge_454 N l0 l1 l2 l4 s0 x = some o) : zv_V (fX9_judge d x0 o) 454 [(0, .ref l0), (1, .int l1), (2, .int l2), (4, .int l4)] [.int s0] x := by
  unfold mX9_judge_454 at h
  refine zv_istore (L' := [(7, .int s0), (0, .ref l0), (1, .int l1), (2, .int l2), (4, .int l4)]) dX9_judge_454 (Nat.le_of_ble_eq_true rfl) rfl ?_
  refine zv_goto (tgt := 570) dX9_judge_456 (by decide) ?_
  exact zv_fewer [1, 2, 3, 4, 0] rfl (kX9_judge_570 hd _ _ _ _ _ _ h)
def mX9_judge_442 (N : Nat) (l0 : Nat) (l1 : Int32) (l2 : Int32) (l3 : Int32) (l4 : Int32) (x : zv_X) : Option zv_X := if l3 = (167 : Int32) then (mX9_judge_454 N l0 l1 l2 l4 (0 : Int32) x) else (mX9_judge_454 N l0 l1 l2 l4 (1 : Int32) x)
theorem kX9_judge_442 {d : Nat} {x0 : zv_X} {o : zv_X} (hd : 2 ≤ d) {N : Nat} (l0 : Nat) (l1 : Int32) (l2 : Int32) (l3 : Int32) (l4 : Int32) (x : zv_X) (h : mX9_judge_442 N l0 l1 l2 l3 l4 x = some o) : zv_V (fX9_judge d x0 o) 442 [(0, .ref l0), (1, .int l1), (2, .int l2), (3, .int l3), (4, .int l4)] [] x := by
  unfold mX9_judge_442 at h
  refine zv_iload_n (n := 3) dX9_judge_442 rfl rfl ?_
  refine zv_sipush (v := 167) dX9_judge_443 (by decide) ?_
  refine zr_icmp_eq (tgt := 453) dX9_judge_446 (by decide) h (fun c1 h => ?_) (fun c1 h => ?_)
  · refine zv_iconst (v := 0) dX9_judge_453 (by decide) ?_
    exact zv_fewer [0, 1, 2, 4] rfl (kX9_judge_454 hd _ _ _ _ _ _ h)
  · refine zv_iconst (v := 1) dX9_judge_449 (by decide) ?_
    refine zv_goto (tgt := 454) dX9_judge_450 (by decide) ?_
    exact zv_fewer [0, 1, 2, 4] rfl (kX9_judge_454 hd _ _ _ _ _ _ h)
def mX9_judge_419 (N : Nat) (l0 : Nat) (l1 : Int32) (l2 : Int32) (l3 : Int32) (l4 : Int32) (x : zv_X) : Option zv_X := if zm_k x l0 9 = true then ((mX9_judgeBranch N l0 l3 x).bind fun o1 => (zm_I o1 l0 9 27).bind fun v3 => if v3 = 0 then (mX9_judge_442 N l0 l1 l2 l3 l4 o1) else (if zm_k o1 l0 9 = true then ((mX9_to N l0 l1 l2 o1).bind fun o5 => if zm_k o5.1 l0 9 = true then ((mX9_lead N l0 l1 o5.2 o5.1).bind fun o7 => mX9_judge_442 N l0 l1 l2 l3 l4 o7) else none) else none)) else none
theorem kX9_judge_419 {d : Nat} {x0 : zv_X} {o : zv_X} (hd : 2 ≤ d) {N : Nat} (l0 : Nat) (l1 : Int32) (l2 : Int32) (l3 : Int32) (l4 : Int32) (x : zv_X) (h : mX9_judge_419 N l0 l1 l2 l3 l4 x = some o) : zv_V (fX9_judge d x0 o) 419 [(0, .ref l0), (1, .int l1), (2, .int l2), (3, .int l3), (4, .int l4)] [] x := by
  unfold mX9_judge_419 at h
  refine zv_aload_n (n := 0) dX9_judge_419 rfl rfl ?_
  refine zv_iload_n (n := 3) dX9_judge_420 rfl rfl ?_
  refine zr_cVv (ci := 9) (st := []) dX9_judge_421 mw_X9_judgeBranch wd_1639 wd_1641 wd_61 rfl rfl [.int l3] rfl rfl (Nat.le_of_ble_eq_true rfl) (show d - 1 + 1 ≤ d by omega) h (fun o1 e2 => tX9_judgeBranch (d := d - 1) (by omega) e2) (fun o1 e2 h => ?_)
  refine zv_aload_n (n := 0) dX9_judge_424 rfl rfl ?_
  refine zr_gI dX9_judge_425 fg_1430 h (fun v3 e4 h => ?_)
  refine zr_if_eq (tgt := 442) dX9_judge_428 (by decide) h (fun c9 h => ?_) (fun c9 h => ?_)
  · exact kX9_judge_442 hd _ _ _ _ _ _ h
  · refine zv_aload_n (n := 0) dX9_judge_431 rfl rfl ?_
    refine zv_iload_n (n := 1) dX9_judge_432 rfl rfl ?_
    refine zv_aload_n (n := 0) dX9_judge_433 rfl rfl ?_
    refine zv_iload_n (n := 1) dX9_judge_434 rfl rfl ?_
    refine zv_iload_n (n := 2) dX9_judge_435 rfl rfl ?_
    refine zr_cVi (ci := 9) (st := [.int l1, .ref l0]) dX9_judge_436 mw_X9_to wd_1643 wd_1645 wd_62 rfl rfl [.int l1, .int l2] rfl rfl (Nat.le_of_ble_eq_true rfl) (show d - 1 + 1 ≤ d by omega) h (fun o5 e6 => tX9_to (d := d - 1) (by omega) e6) (fun o5 e6 h => ?_)
    refine zr_cVv (ci := 9) (st := []) dX9_judge_439 mw_X9_lead wd_1593 wd_1595 wd_51 rfl rfl [.int l1, .int o5.2] rfl rfl (Nat.le_of_ble_eq_true rfl) (show d - 1 + 1 ≤ d by omega) h (fun o7 e8 => tX9_lead (d := d - 1) (by omega) e8) (fun o7 e8 h => ?_)
    exact kX9_judge_442 hd _ _ _ _ _ _ h
def mX9_judge_568 (N : Nat) (l0 : Nat) (l1 : Int32) (l2 : Int32) (l4 : Int32) (s0 : Int32) (x : zv_X) : Option zv_X := mX9_judge_570 N l0 l1 l2 l4 s0 x
theorem kX9_judge_568 {d : Nat} {x0 : zv_X} {o : zv_X} (hd : 2 ≤ d) {N : Nat} (l0 : Nat) (l1 : Int32) (l2 : Int32) (l4 : Int32) (s0 : Int32) (x : zv_X) (h : mX9_judge_568 N l0 l1 l2 l4 s0 x = some o) : zv_V (fX9_judge d x0 o) 568 [(0, .ref l0), (1, .int l1), (2, .int l2), (4, .int l4)] [.int s0] x := by
  unfold mX9_judge_568 at h
  refine zv_istore (L' := [(7, .int s0), (0, .ref l0), (1, .int l1), (2, .int l2), (4, .int l4)]) dX9_judge_568 (Nat.le_of_ble_eq_true rfl) rfl ?_
  exact zv_fewer [1, 2, 3, 4, 0] rfl (kX9_judge_570 hd _ _ _ _ _ _ h)
def mX9_judge_537 (N : Nat) (l0 : Nat) (l1 : Int32) (l2 : Int32) (l4 : Int32) (s0 : Int32) (s1 : Nat) (x : zv_X) : Option zv_X := if s0 = 0 ∨ s0 = 1 then ((zm_p x s1 9 27 (.int s0)).bind fun x1 => mX9_judge_570 N l0 l1 l2 l4 (0 : Int32) x1) else none
theorem kX9_judge_537 {d : Nat} {x0 : zv_X} {o : zv_X} (hd : 2 ≤ d) {N : Nat} (l0 : Nat) (l1 : Int32) (l2 : Int32) (l4 : Int32) (s0 : Int32) (s1 : Nat) (x : zv_X) (h : mX9_judge_537 N l0 l1 l2 l4 s0 s1 x = some o) : zv_V (fX9_judge d x0 o) 537 [(0, .ref l0), (1, .int l1), (2, .int l2), (4, .int l4)] [.int s0, .ref s1] x := by
  unfold mX9_judge_537 at h
  refine zr_pZ dX9_judge_537 fl_1430 (fun q => nomatch q) h (fun x1 e2 h => ?_)
  refine zv_iconst (v := 0) dX9_judge_540 (by decide) ?_
  refine zv_istore (L' := [(7, .int (0 : Int32)), (0, .ref l0), (1, .int l1), (2, .int l2), (4, .int l4)]) dX9_judge_541 (Nat.le_of_ble_eq_true rfl) rfl ?_
  refine zv_goto (tgt := 570) dX9_judge_543 (by decide) ?_
  exact zv_fewer [1, 2, 3, 4, 0] rfl (kX9_judge_570 hd _ _ _ _ _ _ h)
def mX9_judge_536 (N : Nat) (l0 : Nat) (l1 : Int32) (l2 : Int32) (l4 : Int32) (s0 : Nat) (x : zv_X) : Option zv_X := mX9_judge_537 N l0 l1 l2 l4 (0 : Int32) s0 x
theorem kX9_judge_536 {d : Nat} {x0 : zv_X} {o : zv_X} (hd : 2 ≤ d) {N : Nat} (l0 : Nat) (l1 : Int32) (l2 : Int32) (l4 : Int32) (s0 : Nat) (x : zv_X) (h : mX9_judge_536 N l0 l1 l2 l4 s0 x = some o) : zv_V (fX9_judge d x0 o) 536 [(0, .ref l0), (1, .int l1), (2, .int l2), (4, .int l4)] [.ref s0] x := by
  unfold mX9_judge_536 at h
  refine zv_iconst (v := 0) dX9_judge_536 (by decide) ?_
  exact kX9_judge_537 hd _ _ _ _ _ _ _ h
def mX9_judge_513 (N : Nat) (l0 : Nat) (l1 : Int32) (l2 : Int32) (l4 : Int32) (l8 : Int32) (x : zv_X) : Option zv_X := (zm_I x l0 9 27).bind fun v1 => if v1 = 0 then (mX9_judge_536 N l0 l1 l2 l4 l0 x) else ((zm_R x l0 9 16).bind fun v3 => (zm_aI x v3 l1).bind fun v5 => if v5 = l8 then (mX9_judge_537 N l0 l1 l2 l4 (1 : Int32) l0 x) else (mX9_judge_536 N l0 l1 l2 l4 l0 x))
theorem kX9_judge_513 {d : Nat} {x0 : zv_X} {o : zv_X} (hd : 2 ≤ d) {N : Nat} (l0 : Nat) (l1 : Int32) (l2 : Int32) (l4 : Int32) (l8 : Int32) (x : zv_X) (h : mX9_judge_513 N l0 l1 l2 l4 l8 x = some o) : zv_V (fX9_judge d x0 o) 513 [(0, .ref l0), (1, .int l1), (2, .int l2), (4, .int l4), (8, .int l8)] [] x := by
  unfold mX9_judge_513 at h
  refine zv_aload_n (n := 0) dX9_judge_513 rfl rfl ?_
  refine zv_aload_n (n := 0) dX9_judge_514 rfl rfl ?_
  refine zr_gI dX9_judge_515 fg_1430 h (fun v1 e2 h => ?_)
  refine zr_if_eq (tgt := 536) dX9_judge_518 (by decide) h (fun c8 h => ?_) (fun c8 h => ?_)
  · exact zv_fewer [0, 1, 2, 3] rfl (kX9_judge_536 hd _ _ _ _ _ _ h)
  · refine zv_aload_n (n := 0) dX9_judge_521 rfl rfl ?_
    refine zr_gR dX9_judge_522 fg_1419 h (fun v3 e4 h => ?_)
    refine zv_iload_n (n := 1) dX9_judge_525 rfl rfl ?_
    refine zr_aI dX9_judge_526 h (fun v5 e6 h => ?_)
    refine zv_iload (n := 4) dX9_judge_527 rfl ?_
    refine zr_icmp_ne (tgt := 536) dX9_judge_529 (by decide) h (fun c7 h => ?_) (fun c7 h => ?_)
    · exact zv_fewer [0, 1, 2, 3] rfl (kX9_judge_536 hd _ _ _ _ _ _ h)
    · refine zv_iconst (v := 1) dX9_judge_532 (by decide) ?_
      refine zv_goto (tgt := 537) dX9_judge_533 (by decide) ?_
      exact zv_fewer [0, 1, 2, 3] rfl (kX9_judge_537 hd _ _ _ _ _ _ _ h)
def mX9_judge_500 (N : Nat) (l0 : Nat) (l1 : Int32) (l2 : Int32) (l4 : Int32) (s0 : Int32) (x : zv_X) : Option zv_X := if s0 ≤ 0 then (mX9_judge_513 N l0 l1 l2 l4 s0 x) else (if zm_k x l0 9 = true then ((mX9_pop N l0 s0 x).bind fun o1 => mX9_judge_513 N l0 l1 l2 l4 s0 o1) else none)
theorem kX9_judge_500 {d : Nat} {x0 : zv_X} {o : zv_X} (hd : 2 ≤ d) {N : Nat} (l0 : Nat) (l1 : Int32) (l2 : Int32) (l4 : Int32) (s0 : Int32) (x : zv_X) (h : mX9_judge_500 N l0 l1 l2 l4 s0 x = some o) : zv_V (fX9_judge d x0 o) 500 [(0, .ref l0), (1, .int l1), (2, .int l2), (4, .int l4)] [.int s0] x := by
  unfold mX9_judge_500 at h
  refine zv_istore (L' := [(8, .int s0), (0, .ref l0), (1, .int l1), (2, .int l2), (4, .int l4)]) dX9_judge_500 (Nat.le_of_ble_eq_true rfl) rfl ?_
  refine zv_iload (n := 0) dX9_judge_502 rfl ?_
  refine zr_if_le (tgt := 513) dX9_judge_504 (by decide) h (fun c3 h => ?_) (fun c3 h => ?_)
  · exact zv_fewer [1, 2, 3, 4, 0] rfl (kX9_judge_513 hd _ _ _ _ _ _ h)
  · refine zv_aload_n (n := 1) dX9_judge_507 rfl rfl ?_
    refine zv_iload (n := 0) dX9_judge_508 rfl ?_
    refine zr_cVv (ci := 9) (st := []) dX9_judge_510 mw_X9_pop wd_1620 wd_1622 wd_57 rfl rfl [.int s0] rfl rfl (Nat.le_of_ble_eq_true rfl) (show d - 1 + 1 ≤ d by omega) h (fun o1 e2 => tX9_pop (d := d - 1) (by omega) e2) (fun o1 e2 h => ?_)
    exact zv_fewer [1, 2, 3, 4, 0] rfl (kX9_judge_513 hd _ _ _ _ _ _ h)
def mX9_judge_317 (N : Nat) (l0 : Nat) (l1 : Int32) (l2 : Int32) (l3 : Int32) (l4 : Int32) (l5 : Int32) (l6 : Int32) (l7 : Int32) (x : zv_X) : Option zv_X := if (54 : Int32) ≤ l3 then (if (87 : Int32) ≤ l3 then (if (96 : Int32) ≤ l3 then (if (149 : Int32) ≤ l3 then (if l3 < (168 : Int32) then (mX9_judge_419 N l0 l1 l2 l3 l4 x) else (if l3 ≤ (197 : Int32) then (if (178 : Int32) ≤ l3 then (if zm_k x l0 9 = true then ((mX9_judgeThing N l0 l1 l3 l5 l6 x).bind fun o1 => if l3 = (191 : Int32) then (mX9_judge_568 N l0 l1 l2 l4 (0 : Int32) o1) else (mX9_judge_568 N l0 l1 l2 l4 (1 : Int32) o1)) else none) else (if l3 = (172 : Int32) then (mX9_judge_500 N l0 l1 l2 l4 (1 : Int32) x) else (if l3 = (173 : Int32) then (mX9_judge_500 N l0 l1 l2 l4 (2 : Int32) x) else (if l3 = (176 : Int32) then (mX9_judge_500 N l0 l1 l2 l4 (3 : Int32) x) else (mX9_judge_500 N l0 l1 l2 l4 (0 : Int32) x))))) else (mX9_judge_419 N l0 l1 l2 l3 l4 x))) else (if zm_k x l0 9 = true then ((mX9_judgeReckoning N l0 l1 l3 l5 x).bind fun o10 => mX9_judge_570 N l0 l1 l2 l4 l7 o10) else none)) else (if zm_k x l0 9 = true then ((mX9_judgeStack N l0 l1 l3 x).bind fun o13 => mX9_judge_570 N l0 l1 l2 l4 l7 o13) else none)) else ((mX9_arrayKind N l3 x).bind fun o16 => if zm_k o16.1 l0 9 = true then ((mX9_pop N l0 o16.2 o16.1).bind fun o18 => if zm_k o18 l0 9 = true then ((mX9_pop N l0 (1 : Int32) o18).bind fun o20 => if zm_k o20 l0 9 = true then ((mX9_pop N l0 (3 : Int32) o20).bind fun o22 => mX9_judge_570 N l0 l1 l2 l4 l7 o22) else none) else none) else none)) else (if zm_k x l0 9 = true then ((mX9_pop N l0 (1 : Int32) x).bind fun o25 => if zm_k o25 l0 9 = true then ((mX9_pop N l0 (3 : Int32) o25).bind fun o27 => (mX9_arrayKind N l3 o27).bind fun o29 => if zm_k o29.1 l0 9 = true then ((mX9_push N l0 l1 o29.2 o29.1).bind fun o31 => mX9_judge_570 N l0 l1 l2 l4 l7 o31) else none) else none) else none)
theorem kX9_judge_317 {d : Nat} {x0 : zv_X} {o : zv_X} (hd : 2 ≤ d) {N : Nat} (l0 : Nat) (l1 : Int32) (l2 : Int32) (l3 : Int32) (l4 : Int32) (l5 : Int32) (l6 : Int32) (l7 : Int32) (x : zv_X) (h : mX9_judge_317 N l0 l1 l2 l3 l4 l5 l6 l7 x = some o) : zv_V (fX9_judge d x0 o) 317 [(0, .ref l0), (1, .int l1), (2, .int l2), (3, .int l3), (4, .int l4), (5, .int l5), (6, .int l6), (7, .int l7)] [] x := by
  unfold mX9_judge_317 at h
  refine zv_iload_n (n := 3) dX9_judge_317 rfl rfl ?_
  refine zv_bipush (v := 54) dX9_judge_318 (by decide) ?_
  refine zr_icmp_ge (tgt := 345) dX9_judge_320 (by decide) h (fun c33 h => ?_) (fun c33 h => ?_)
  · refine zv_iload_n (n := 3) dX9_judge_345 rfl rfl ?_
    refine zv_bipush (v := 87) dX9_judge_346 (by decide) ?_
    refine zr_icmp_ge (tgt := 372) dX9_judge_348 (by decide) h (fun c24 h => ?_) (fun c24 h => ?_)
    · refine zv_iload_n (n := 3) dX9_judge_372 rfl rfl ?_
      refine zv_bipush (v := 96) dX9_judge_373 (by decide) ?_
      refine zr_icmp_ge (tgt := 387) dX9_judge_375 (by decide) h (fun c15 h => ?_) (fun c15 h => ?_)
      · refine zv_iload_n (n := 3) dX9_judge_387 rfl rfl ?_
        refine zv_sipush (v := 149) dX9_judge_388 (by decide) ?_
        refine zr_icmp_ge (tgt := 405) dX9_judge_391 (by decide) h (fun c12 h => ?_) (fun c12 h => ?_)
        · refine zv_iload_n (n := 3) dX9_judge_405 rfl rfl ?_
          refine zv_sipush (v := 168) dX9_judge_406 (by decide) ?_
          refine zr_icmp_lt (tgt := 419) dX9_judge_409 (by decide) h (fun c9 h => ?_) (fun c9 h => ?_)
          · exact zv_fewer [0, 1, 2, 3, 4] rfl (kX9_judge_419 hd _ _ _ _ _ _ h)
          · refine zv_iload_n (n := 3) dX9_judge_412 rfl rfl ?_
            refine zv_sipush (v := 197) dX9_judge_413 (by decide) ?_
            refine zr_icmp_le (tgt := 459) dX9_judge_416 (by decide) h (fun c8 h => ?_) (fun c8 h => ?_)
            · refine zv_iload_n (n := 3) dX9_judge_459 rfl rfl ?_
              refine zv_sipush (v := 178) dX9_judge_460 (by decide) ?_
              refine zr_icmp_ge (tgt := 546) dX9_judge_463 (by decide) h (fun c7 h => ?_) (fun c7 h => ?_)
              · refine zv_aload_n (n := 0) dX9_judge_546 rfl rfl ?_
                refine zv_iload_n (n := 1) dX9_judge_547 rfl rfl ?_
                refine zv_iload_n (n := 3) dX9_judge_548 rfl rfl ?_
                refine zv_iload (n := 5) dX9_judge_549 rfl ?_
                refine zv_iload (n := 6) dX9_judge_551 rfl ?_
                refine zr_cVv (ci := 9) (st := []) dX9_judge_553 mw_X9_judgeThing wd_1650 wd_1652 wd_63 rfl rfl [.int l1, .int l3, .int l5, .int l6] rfl rfl (Nat.le_of_ble_eq_true rfl) (show d - 1 + 1 ≤ d by omega) h (fun o1 e2 => tX9_judgeThing (d := d - 1) (by omega) e2) (fun o1 e2 h => ?_)
                refine zv_iload_n (n := 3) dX9_judge_556 rfl rfl ?_
                refine zv_sipush (v := 191) dX9_judge_557 (by decide) ?_
                refine zr_icmp_eq (tgt := 567) dX9_judge_560 (by decide) h (fun c3 h => ?_) (fun c3 h => ?_)
                · refine zv_iconst (v := 0) dX9_judge_567 (by decide) ?_
                  exact zv_fewer [0, 1, 2, 4] rfl (kX9_judge_568 hd _ _ _ _ _ _ h)
                · refine zv_iconst (v := 1) dX9_judge_563 (by decide) ?_
                  refine zv_goto (tgt := 568) dX9_judge_564 (by decide) ?_
                  exact zv_fewer [0, 1, 2, 4] rfl (kX9_judge_568 hd _ _ _ _ _ _ h)
              · refine zv_iload_n (n := 3) dX9_judge_466 rfl rfl ?_
                refine zv_sipush (v := 172) dX9_judge_467 (by decide) ?_
                refine zr_icmp_ne (tgt := 477) dX9_judge_470 (by decide) h (fun c6 h => ?_) (fun c6 h => ?_)
                · refine zv_iload_n (n := 3) dX9_judge_477 rfl rfl ?_
                  refine zv_sipush (v := 173) dX9_judge_478 (by decide) ?_
                  refine zr_icmp_ne (tgt := 488) dX9_judge_481 (by decide) h (fun c5 h => ?_) (fun c5 h => ?_)
                  · refine zv_iload_n (n := 3) dX9_judge_488 rfl rfl ?_
                    refine zv_sipush (v := 176) dX9_judge_489 (by decide) ?_
                    refine zr_icmp_ne (tgt := 499) dX9_judge_492 (by decide) h (fun c4 h => ?_) (fun c4 h => ?_)
                    · refine zv_iconst (v := 0) dX9_judge_499 (by decide) ?_
                      exact zv_fewer [0, 1, 2, 4] rfl (kX9_judge_500 hd _ _ _ _ _ _ h)
                    · refine zv_iconst (v := 3) dX9_judge_495 (by decide) ?_
                      refine zv_goto (tgt := 500) dX9_judge_496 (by decide) ?_
                      exact zv_fewer [0, 1, 2, 4] rfl (kX9_judge_500 hd _ _ _ _ _ _ h)
                  · refine zv_iconst (v := 2) dX9_judge_484 (by decide) ?_
                    refine zv_goto (tgt := 500) dX9_judge_485 (by decide) ?_
                    exact zv_fewer [0, 1, 2, 4] rfl (kX9_judge_500 hd _ _ _ _ _ _ h)
                · refine zv_iconst (v := 1) dX9_judge_473 (by decide) ?_
                  refine zv_goto (tgt := 500) dX9_judge_474 (by decide) ?_
                  exact zv_fewer [0, 1, 2, 4] rfl (kX9_judge_500 hd _ _ _ _ _ _ h)
            · exact zv_fewer [0, 1, 2, 3, 4] rfl (kX9_judge_419 hd _ _ _ _ _ _ h)
        · refine zv_aload_n (n := 0) dX9_judge_394 rfl rfl ?_
          refine zv_iload_n (n := 1) dX9_judge_395 rfl rfl ?_
          refine zv_iload_n (n := 3) dX9_judge_396 rfl rfl ?_
          refine zv_iload (n := 5) dX9_judge_397 rfl ?_
          refine zr_cVv (ci := 9) (st := []) dX9_judge_399 mw_X9_judgeReckoning wd_1635 wd_1637 wd_60 rfl rfl [.int l1, .int l3, .int l5] rfl rfl (Nat.le_of_ble_eq_true rfl) (show d - 1 + 1 ≤ d by omega) h (fun o10 e11 => tX9_judgeReckoning (d := d - 1) (by omega) e11) (fun o10 e11 h => ?_)
          refine zv_goto (tgt := 570) dX9_judge_402 (by decide) ?_
          exact zv_fewer [0, 1, 2, 4, 7] rfl (kX9_judge_570 hd _ _ _ _ _ _ h)
      · refine zv_aload_n (n := 0) dX9_judge_378 rfl rfl ?_
        refine zv_iload_n (n := 1) dX9_judge_379 rfl rfl ?_
        refine zv_iload_n (n := 3) dX9_judge_380 rfl rfl ?_
        refine zr_cVv (ci := 9) (st := []) dX9_judge_381 mw_X9_judgeStack wd_1627 wd_1629 wd_58 rfl rfl [.int l1, .int l3] rfl rfl (Nat.le_of_ble_eq_true rfl) (show d - 1 + 1 ≤ d by omega) h (fun o13 e14 => tX9_judgeStack (d := d - 1) (by omega) e14) (fun o13 e14 h => ?_)
        refine zv_goto (tgt := 570) dX9_judge_384 (by decide) ?_
        exact zv_fewer [0, 1, 2, 4, 7] rfl (kX9_judge_570 hd _ _ _ _ _ _ h)
    · refine zv_aload_n (n := 0) dX9_judge_351 rfl rfl ?_
      refine zv_iload_n (n := 3) dX9_judge_352 rfl rfl ?_
      refine zr_cSi (st := [.ref l0]) dX9_judge_353 mw_X9_arrayKind wd_1624 wd_1625 [.int l3] rfl rfl (Nat.le_of_ble_eq_true rfl) (show d - 1 + 1 ≤ d by omega) h (fun o16 e17 => tX9_arrayKind (d := d - 1) (by omega) e17) (fun o16 e17 h => ?_)
      refine zr_cVv (ci := 9) (st := []) dX9_judge_356 mw_X9_pop wd_1620 wd_1622 wd_57 rfl rfl [.int o16.2] rfl rfl (Nat.le_of_ble_eq_true rfl) (show d - 1 + 1 ≤ d by omega) h (fun o18 e19 => tX9_pop (d := d - 1) (by omega) e19) (fun o18 e19 h => ?_)
      refine zv_aload_n (n := 0) dX9_judge_359 rfl rfl ?_
      refine zv_iconst (v := 1) dX9_judge_360 (by decide) ?_
      refine zr_cVv (ci := 9) (st := []) dX9_judge_361 mw_X9_pop wd_1620 wd_1622 wd_57 rfl rfl [.int (1 : Int32)] rfl rfl (Nat.le_of_ble_eq_true rfl) (show d - 1 + 1 ≤ d by omega) h (fun o20 e21 => tX9_pop (d := d - 1) (by omega) e21) (fun o20 e21 h => ?_)
      refine zv_aload_n (n := 0) dX9_judge_364 rfl rfl ?_
      refine zv_iconst (v := 3) dX9_judge_365 (by decide) ?_
      refine zr_cVv (ci := 9) (st := []) dX9_judge_366 mw_X9_pop wd_1620 wd_1622 wd_57 rfl rfl [.int (3 : Int32)] rfl rfl (Nat.le_of_ble_eq_true rfl) (show d - 1 + 1 ≤ d by omega) h (fun o22 e23 => tX9_pop (d := d - 1) (by omega) e23) (fun o22 e23 h => ?_)
      refine zv_goto (tgt := 570) dX9_judge_369 (by decide) ?_
      exact zv_fewer [0, 1, 2, 4, 7] rfl (kX9_judge_570 hd _ _ _ _ _ _ h)
  · refine zv_aload_n (n := 0) dX9_judge_323 rfl rfl ?_
    refine zv_iconst (v := 1) dX9_judge_324 (by decide) ?_
    refine zr_cVv (ci := 9) (st := []) dX9_judge_325 mw_X9_pop wd_1620 wd_1622 wd_57 rfl rfl [.int (1 : Int32)] rfl rfl (Nat.le_of_ble_eq_true rfl) (show d - 1 + 1 ≤ d by omega) h (fun o25 e26 => tX9_pop (d := d - 1) (by omega) e26) (fun o25 e26 h => ?_)
    refine zv_aload_n (n := 0) dX9_judge_328 rfl rfl ?_
    refine zv_iconst (v := 3) dX9_judge_329 (by decide) ?_
    refine zr_cVv (ci := 9) (st := []) dX9_judge_330 mw_X9_pop wd_1620 wd_1622 wd_57 rfl rfl [.int (3 : Int32)] rfl rfl (Nat.le_of_ble_eq_true rfl) (show d - 1 + 1 ≤ d by omega) h (fun o27 e28 => tX9_pop (d := d - 1) (by omega) e28) (fun o27 e28 h => ?_)
    refine zv_aload_n (n := 0) dX9_judge_333 rfl rfl ?_
    refine zv_iload_n (n := 1) dX9_judge_334 rfl rfl ?_
    refine zv_iload_n (n := 3) dX9_judge_335 rfl rfl ?_
    refine zr_cSi (st := [.int l1, .ref l0]) dX9_judge_336 mw_X9_arrayKind wd_1624 wd_1625 [.int l3] rfl rfl (Nat.le_of_ble_eq_true rfl) (show d - 1 + 1 ≤ d by omega) h (fun o29 e30 => tX9_arrayKind (d := d - 1) (by omega) e30) (fun o29 e30 h => ?_)
    refine zr_cVv (ci := 9) (st := []) dX9_judge_339 mw_X9_push wd_1605 wd_1607 wd_54 rfl rfl [.int l1, .int o29.2] rfl rfl (Nat.le_of_ble_eq_true rfl) (show d - 1 + 1 ≤ d by omega) h (fun o31 e32 => tX9_push (d := d - 1) (by omega) e32) (fun o31 e32 h => ?_)
    refine zv_goto (tgt := 570) dX9_judge_342 (by decide) ?_
    exact zv_fewer [0, 1, 2, 4, 7] rfl (kX9_judge_570 hd _ _ _ _ _ _ h)
def mX9_judge_311 (N : Nat) (l0 : Nat) (l1 : Int32) (l2 : Int32) (l4 : Int32) (l7 : Int32) (l8 : Int32) (s0 : Int32) (s1 : Nat) (x : zv_X) : Option zv_X := (zm_sI x s1 s0 l8).bind fun x1 => mX9_judge_570 N l0 l1 l2 l4 l7 x1
theorem kX9_judge_311 {d : Nat} {x0 : zv_X} {o : zv_X} (hd : 2 ≤ d) {N : Nat} (l0 : Nat) (l1 : Int32) (l2 : Int32) (l4 : Int32) (l7 : Int32) (l8 : Int32) (s0 : Int32) (s1 : Nat) (x : zv_X) (h : mX9_judge_311 N l0 l1 l2 l4 l7 l8 s0 s1 x = some o) : zv_V (fX9_judge d x0 o) 311 [(0, .ref l0), (1, .int l1), (2, .int l2), (4, .int l4), (7, .int l7), (8, .int l8)] [.int s0, .ref s1] x := by
  unfold mX9_judge_311 at h
  refine zv_iload (n := 5) dX9_judge_311 rfl ?_
  refine zr_sI dX9_judge_313 h (fun x1 e2 h => ?_)
  refine zv_goto (tgt := 570) dX9_judge_314 (by decide) ?_
  exact zv_fewer [0, 1, 2, 3, 4] rfl (kX9_judge_570 hd _ _ _ _ _ _ h)
def mX9_judge_291 (N : Nat) (l0 : Nat) (l1 : Int32) (l2 : Int32) (l4 : Int32) (l5 : Int32) (l7 : Int32) (l8 : Int32) (s0 : Int32) (s1 : Nat) (x : zv_X) : Option zv_X := if s0 = 0 ∨ s0 = 1 then ((zm_p x s1 9 27 (.int s0)).bind fun x1 => (zm_R x1 l0 9 26).bind fun v3 => (zm_I x1 l0 9 27).bind fun v5 => if v5 = 0 then (mX9_judge_311 N l0 l1 l2 l4 l7 l8 (0 : Int32) v3 x1) else (mX9_judge_311 N l0 l1 l2 l4 l7 l8 l5 v3 x1)) else none
theorem kX9_judge_291 {d : Nat} {x0 : zv_X} {o : zv_X} (hd : 2 ≤ d) {N : Nat} (l0 : Nat) (l1 : Int32) (l2 : Int32) (l4 : Int32) (l5 : Int32) (l7 : Int32) (l8 : Int32) (s0 : Int32) (s1 : Nat) (x : zv_X) (h : mX9_judge_291 N l0 l1 l2 l4 l5 l7 l8 s0 s1 x = some o) : zv_V (fX9_judge d x0 o) 291 [(0, .ref l0), (1, .int l1), (2, .int l2), (4, .int l4), (5, .int l5), (7, .int l7), (8, .int l8)] [.int s0, .ref s1] x := by
  unfold mX9_judge_291 at h
  refine zr_pZ dX9_judge_291 fl_1430 (fun q => nomatch q) h (fun x1 e2 h => ?_)
  refine zv_aload_n (n := 0) dX9_judge_294 rfl rfl ?_
  refine zr_gR dX9_judge_295 fg_1429 h (fun v3 e4 h => ?_)
  refine zv_aload_n (n := 0) dX9_judge_298 rfl rfl ?_
  refine zr_gI dX9_judge_299 fg_1430 h (fun v5 e6 h => ?_)
  refine zr_if_eq (tgt := 310) dX9_judge_302 (by decide) h (fun c7 h => ?_) (fun c7 h => ?_)
  · refine zv_iconst (v := 0) dX9_judge_310 (by decide) ?_
    exact zv_fewer [0, 1, 2, 3, 5, 6] rfl (kX9_judge_311 hd _ _ _ _ _ _ _ _ _ h)
  · refine zv_iload (n := 4) dX9_judge_305 rfl ?_
    refine zv_goto (tgt := 311) dX9_judge_307 (by decide) ?_
    exact zv_fewer [0, 1, 2, 3, 5, 6] rfl (kX9_judge_311 hd _ _ _ _ _ _ _ _ _ h)
def mX9_judge_290 (N : Nat) (l0 : Nat) (l1 : Int32) (l2 : Int32) (l4 : Int32) (l5 : Int32) (l7 : Int32) (l8 : Int32) (s0 : Nat) (x : zv_X) : Option zv_X := mX9_judge_291 N l0 l1 l2 l4 l5 l7 l8 (0 : Int32) s0 x
theorem kX9_judge_290 {d : Nat} {x0 : zv_X} {o : zv_X} (hd : 2 ≤ d) {N : Nat} (l0 : Nat) (l1 : Int32) (l2 : Int32) (l4 : Int32) (l5 : Int32) (l7 : Int32) (l8 : Int32) (s0 : Nat) (x : zv_X) (h : mX9_judge_290 N l0 l1 l2 l4 l5 l7 l8 s0 x = some o) : zv_V (fX9_judge d x0 o) 290 [(0, .ref l0), (1, .int l1), (2, .int l2), (4, .int l4), (5, .int l5), (7, .int l7), (8, .int l8)] [.ref s0] x := by
  unfold mX9_judge_290 at h
  refine zv_iconst (v := 0) dX9_judge_290 (by decide) ?_
  exact kX9_judge_291 hd _ _ _ _ _ _ _ _ _ _ h
def mX9_judge_259 (N : Nat) (l0 : Nat) (l1 : Int32) (l2 : Int32) (l4 : Int32) (l5 : Int32) (l7 : Int32) (s0 : Int32) (x : zv_X) : Option zv_X := if zm_k x l0 9 = true then ((mX9_pop N l0 s0 x).bind fun o1 => (zm_I o1 l0 9 27).bind fun v3 => if v3 = 0 then (mX9_judge_290 N l0 l1 l2 l4 l5 l7 s0 l0 o1) else ((zm_R o1 l0 9 14).bind fun v5 => (zm_aI o1 v5 l1).bind fun v7 => if v7 ≤ l5 then (mX9_judge_290 N l0 l1 l2 l4 l5 l7 s0 l0 o1) else (mX9_judge_291 N l0 l1 l2 l4 l5 l7 s0 (1 : Int32) l0 o1))) else none
theorem kX9_judge_259 {d : Nat} {x0 : zv_X} {o : zv_X} (hd : 2 ≤ d) {N : Nat} (l0 : Nat) (l1 : Int32) (l2 : Int32) (l4 : Int32) (l5 : Int32) (l7 : Int32) (s0 : Int32) (x : zv_X) (h : mX9_judge_259 N l0 l1 l2 l4 l5 l7 s0 x = some o) : zv_V (fX9_judge d x0 o) 259 [(0, .ref l0), (1, .int l1), (2, .int l2), (4, .int l4), (5, .int l5), (7, .int l7)] [.int s0] x := by
  unfold mX9_judge_259 at h
  refine zv_istore (L' := [(8, .int s0), (0, .ref l0), (1, .int l1), (2, .int l2), (4, .int l4), (5, .int l5), (7, .int l7)]) dX9_judge_259 (Nat.le_of_ble_eq_true rfl) rfl ?_
  refine zv_aload_n (n := 1) dX9_judge_261 rfl rfl ?_
  refine zv_iload (n := 0) dX9_judge_262 rfl ?_
  refine zr_cVv (ci := 9) (st := []) dX9_judge_264 mw_X9_pop wd_1620 wd_1622 wd_57 rfl rfl [.int s0] rfl rfl (Nat.le_of_ble_eq_true rfl) (show d - 1 + 1 ≤ d by omega) h (fun o1 e2 => tX9_pop (d := d - 1) (by omega) e2) (fun o1 e2 h => ?_)
  refine zv_aload_n (n := 1) dX9_judge_267 rfl rfl ?_
  refine zv_aload_n (n := 1) dX9_judge_268 rfl rfl ?_
  refine zr_gI dX9_judge_269 fg_1430 h (fun v3 e4 h => ?_)
  refine zr_if_eq (tgt := 290) dX9_judge_272 (by decide) h (fun c10 h => ?_) (fun c10 h => ?_)
  · exact zv_fewer [1, 2, 3, 4, 5, 6, 0] rfl (kX9_judge_290 hd _ _ _ _ _ _ _ _ _ h)
  · refine zv_iload (n := 5) dX9_judge_275 rfl ?_
    refine zv_aload_n (n := 1) dX9_judge_277 rfl rfl ?_
    refine zr_gR dX9_judge_278 fg_1417 h (fun v5 e6 h => ?_)
    refine zv_iload_n (n := 2) dX9_judge_281 rfl rfl ?_
    refine zr_aI dX9_judge_282 h (fun v7 e8 h => ?_)
    refine zr_icmp_ge (tgt := 290) dX9_judge_283 (by decide) h (fun c9 h => ?_) (fun c9 h => ?_)
    · exact zv_fewer [1, 2, 3, 4, 5, 6, 0] rfl (kX9_judge_290 hd _ _ _ _ _ _ _ _ _ h)
    · refine zv_iconst (v := 1) dX9_judge_286 (by decide) ?_
      refine zv_goto (tgt := 291) dX9_judge_287 (by decide) ?_
      exact zv_fewer [1, 2, 3, 4, 5, 6, 0] rfl (kX9_judge_291 hd _ _ _ _ _ _ _ _ _ _ h)
def mX9_judge_194 (N : Nat) (l0 : Nat) (l1 : Int32) (l2 : Int32) (l3 : Int32) (l4 : Int32) (l5 : Int32) (s0 : Int32) (x : zv_X) : Option zv_X := if l3 = 0 then (mX9_judge_570 N l0 l1 l2 l4 (1 : Int32) x) else (if (46 : Int32) ≤ l3 then (if (60 : Int32) ≤ l3 then (mX9_judge_317 N l0 l1 l2 l3 l4 l5 s0 (1 : Int32) x) else (if l3 ≤ (53 : Int32) then (mX9_judge_317 N l0 l1 l2 l3 l4 l5 s0 (1 : Int32) x) else (if l3 = (54 : Int32) then (mX9_judge_259 N l0 l1 l2 l4 l5 (1 : Int32) (1 : Int32) x) else (if l3 = (55 : Int32) then (mX9_judge_259 N l0 l1 l2 l4 l5 (1 : Int32) (2 : Int32) x) else (mX9_judge_259 N l0 l1 l2 l4 l5 (1 : Int32) (3 : Int32) x))))) else (if zm_k x l0 9 = true then ((mX9_judgeLoad N l0 l1 l3 l5 x).bind fun o5 => mX9_judge_570 N l0 l1 l2 l4 (1 : Int32) o5) else none))
theorem kX9_judge_194 {d : Nat} {x0 : zv_X} {o : zv_X} (hd : 2 ≤ d) {N : Nat} (l0 : Nat) (l1 : Int32) (l2 : Int32) (l3 : Int32) (l4 : Int32) (l5 : Int32) (s0 : Int32) (x : zv_X) (h : mX9_judge_194 N l0 l1 l2 l3 l4 l5 s0 x = some o) : zv_V (fX9_judge d x0 o) 194 [(0, .ref l0), (1, .int l1), (2, .int l2), (3, .int l3), (4, .int l4), (5, .int l5)] [.int s0] x := by
  unfold mX9_judge_194 at h
  refine zv_istore (L' := [(6, .int s0), (0, .ref l0), (1, .int l1), (2, .int l2), (3, .int l3), (4, .int l4), (5, .int l5)]) dX9_judge_194 (Nat.le_of_ble_eq_true rfl) rfl ?_
  refine zv_iconst (v := 1) dX9_judge_196 (by decide) ?_
  refine zv_istore (L' := [(7, .int (1 : Int32)), (6, .int s0), (0, .ref l0), (1, .int l1), (2, .int l2), (3, .int l3), (4, .int l4), (5, .int l5)]) dX9_judge_197 (Nat.le_of_ble_eq_true rfl) rfl ?_
  refine zv_iload_n (n := 5) dX9_judge_199 rfl rfl ?_
  refine zr_if_ne (tgt := 209) dX9_judge_200 (by decide) h (fun c8 h => ?_) (fun c8 h => ?_)
  · refine zv_iload_n (n := 5) dX9_judge_209 rfl rfl ?_
    refine zv_bipush (v := 46) dX9_judge_210 (by decide) ?_
    refine zr_icmp_ge (tgt := 226) dX9_judge_212 (by decide) h (fun c7 h => ?_) (fun c7 h => ?_)
    · refine zv_iload_n (n := 5) dX9_judge_226 rfl rfl ?_
      refine zv_bipush (v := 60) dX9_judge_227 (by decide) ?_
      refine zr_icmp_ge (tgt := 317) dX9_judge_229 (by decide) h (fun c4 h => ?_) (fun c4 h => ?_)
      · exact zv_fewer [2, 3, 4, 5, 6, 7, 1, 0] rfl (kX9_judge_317 hd _ _ _ _ _ _ _ _ _ h)
      · refine zv_iload_n (n := 5) dX9_judge_232 rfl rfl ?_
        refine zv_bipush (v := 53) dX9_judge_233 (by decide) ?_
        refine zr_icmp_le (tgt := 317) dX9_judge_235 (by decide) h (fun c3 h => ?_) (fun c3 h => ?_)
        · exact zv_fewer [2, 3, 4, 5, 6, 7, 1, 0] rfl (kX9_judge_317 hd _ _ _ _ _ _ _ _ _ h)
        · refine zv_iload_n (n := 5) dX9_judge_238 rfl rfl ?_
          refine zv_bipush (v := 54) dX9_judge_239 (by decide) ?_
          refine zr_icmp_ne (tgt := 248) dX9_judge_241 (by decide) h (fun c2 h => ?_) (fun c2 h => ?_)
          · refine zv_iload_n (n := 5) dX9_judge_248 rfl rfl ?_
            refine zv_bipush (v := 55) dX9_judge_249 (by decide) ?_
            refine zr_icmp_ne (tgt := 258) dX9_judge_251 (by decide) h (fun c1 h => ?_) (fun c1 h => ?_)
            · refine zv_iconst (v := 3) dX9_judge_258 (by decide) ?_
              exact zv_fewer [2, 3, 4, 6, 7, 0] rfl (kX9_judge_259 hd _ _ _ _ _ _ _ _ h)
            · refine zv_iconst (v := 2) dX9_judge_254 (by decide) ?_
              refine zv_goto (tgt := 259) dX9_judge_255 (by decide) ?_
              exact zv_fewer [2, 3, 4, 6, 7, 0] rfl (kX9_judge_259 hd _ _ _ _ _ _ _ _ h)
          · refine zv_iconst (v := 1) dX9_judge_244 (by decide) ?_
            refine zv_goto (tgt := 259) dX9_judge_245 (by decide) ?_
            exact zv_fewer [2, 3, 4, 6, 7, 0] rfl (kX9_judge_259 hd _ _ _ _ _ _ _ _ h)
    · refine zv_aload_n (n := 2) dX9_judge_215 rfl rfl ?_
      refine zv_iload_n (n := 3) dX9_judge_216 rfl rfl ?_
      refine zv_iload_n (n := 5) dX9_judge_217 rfl rfl ?_
      refine zv_iload (n := 7) dX9_judge_218 rfl ?_
      refine zr_cVv (ci := 9) (st := []) dX9_judge_220 mw_X9_judgeLoad wd_1616 wd_1618 wd_56 rfl rfl [.int l1, .int l3, .int l5] rfl rfl (Nat.le_of_ble_eq_true rfl) (show d - 1 + 1 ≤ d by omega) h (fun o5 e6 => tX9_judgeLoad (d := d - 1) (by omega) e6) (fun o5 e6 h => ?_)
      refine zv_goto (tgt := 570) dX9_judge_223 (by decide) ?_
      exact zv_fewer [2, 3, 4, 6, 0] rfl (kX9_judge_570 hd _ _ _ _ _ _ h)
  · refine zv_iconst (v := 1) dX9_judge_203 (by decide) ?_
    refine zv_istore (L' := [(7, .int (1 : Int32)), (6, .int s0), (0, .ref l0), (1, .int l1), (2, .int l2), (3, .int l3), (4, .int l4), (5, .int l5)]) dX9_judge_204 (Nat.le_of_ble_eq_true rfl) rfl ?_
    refine zv_goto (tgt := 570) dX9_judge_206 (by decide) ?_
    exact zv_fewer [2, 3, 4, 6, 0] rfl (kX9_judge_570 hd _ _ _ _ _ _ h)
def mX9_judge_174 (N : Nat) (l0 : Nat) (l1 : Int32) (l2 : Int32) (l3 : Int32) (l4 : Int32) (s0 : Int32) (x : zv_X) : Option zv_X := if l4 ≤ (2 : Int32) then (mX9_judge_194 N l0 l1 l2 l3 l4 s0 (0 : Int32) x) else (if zm_k x l0 9 = true then ((mX9_code N l0 l1 (l2 + (2 : Int32)) x).bind fun o1 => mX9_judge_194 N l0 l1 l2 l3 l4 s0 o1.2 o1.1) else none)
theorem kX9_judge_174 {d : Nat} {x0 : zv_X} {o : zv_X} (hd : 2 ≤ d) {N : Nat} (l0 : Nat) (l1 : Int32) (l2 : Int32) (l3 : Int32) (l4 : Int32) (s0 : Int32) (x : zv_X) (h : mX9_judge_174 N l0 l1 l2 l3 l4 s0 x = some o) : zv_V (fX9_judge d x0 o) 174 [(0, .ref l0), (1, .int l1), (2, .int l2), (3, .int l3), (4, .int l4)] [.int s0] x := by
  unfold mX9_judge_174 at h
  refine zv_istore (L' := [(5, .int s0), (0, .ref l0), (1, .int l1), (2, .int l2), (3, .int l3), (4, .int l4)]) dX9_judge_174 (Nat.le_of_ble_eq_true rfl) rfl ?_
  refine zv_iload (n := 5) dX9_judge_176 rfl ?_
  refine zv_iconst (v := 2) dX9_judge_178 (by decide) ?_
  refine zr_icmp_le (tgt := 193) dX9_judge_179 (by decide) h (fun c3 h => ?_) (fun c3 h => ?_)
  · refine zv_iconst (v := 0) dX9_judge_193 (by decide) ?_
    exact zv_fewer [1, 2, 3, 4, 5, 0] rfl (kX9_judge_194 hd _ _ _ _ _ _ _ _ h)
  · refine zv_aload_n (n := 1) dX9_judge_182 rfl rfl ?_
    refine zv_iload_n (n := 2) dX9_judge_183 rfl rfl ?_
    refine zv_iload_n (n := 3) dX9_judge_184 rfl rfl ?_
    refine zv_iconst (v := 2) dX9_judge_185 (by decide) ?_
    refine zv_iadd dX9_judge_186 ?_
    refine zr_cVi (ci := 9) (st := []) dX9_judge_187 mw_X9_code wd_1609 wd_1611 wd_55 rfl rfl [.int l1, .int (l2 + (2 : Int32))] rfl rfl (Nat.le_of_ble_eq_true rfl) (show d - 1 + 1 ≤ d by omega) h (fun o1 e2 => tX9_code (d := d - 1) (by omega) e2) (fun o1 e2 h => ?_)
    refine zv_goto (tgt := 194) dX9_judge_190 (by decide) ?_
    exact zv_fewer [1, 2, 3, 4, 5, 0] rfl (kX9_judge_194 hd _ _ _ _ _ _ _ _ h)
def mX9_judge_145 (N : Nat) (l0 : Nat) (l1 : Int32) (l2 : Int32) (l3 : Int32) (l4 : Int32) (s0 : Int32) (s1 : Nat) (x : zv_X) : Option zv_X := if s0 = 0 ∨ s0 = 1 then ((zm_p x s1 9 27 (.int s0)).bind fun x1 => (zm_I x1 l0 9 27).bind fun v3 => if v3 = 0 then (some x1) else (if l4 ≤ (1 : Int32) then (mX9_judge_174 N l0 l1 l2 l3 l4 (0 : Int32) x1) else (if zm_k x1 l0 9 = true then ((mX9_code N l0 l1 (l2 + (1 : Int32)) x1).bind fun o5 => mX9_judge_174 N l0 l1 l2 l3 l4 o5.2 o5.1) else none))) else none
theorem kX9_judge_145 {d : Nat} {x0 : zv_X} {o : zv_X} (hd : 2 ≤ d) {N : Nat} (l0 : Nat) (l1 : Int32) (l2 : Int32) (l3 : Int32) (l4 : Int32) (s0 : Int32) (s1 : Nat) (x : zv_X) (h : mX9_judge_145 N l0 l1 l2 l3 l4 s0 s1 x = some o) : zv_V (fX9_judge d x0 o) 145 [(0, .ref l0), (1, .int l1), (2, .int l2), (3, .int l3), (4, .int l4)] [.int s0, .ref s1] x := by
  unfold mX9_judge_145 at h
  refine zr_pZ dX9_judge_145 fl_1430 (fun q => nomatch q) h (fun x1 e2 h => ?_)
  refine zv_aload_n (n := 0) dX9_judge_148 rfl rfl ?_
  refine zr_gI dX9_judge_149 fg_1430 h (fun v3 e4 h => ?_)
  refine zr_if_ne (tgt := 156) dX9_judge_152 (by decide) h (fun c8 h => ?_) (fun c8 h => ?_)
  · refine zv_iload (n := 4) dX9_judge_156 rfl ?_
    refine zv_iconst (v := 1) dX9_judge_158 (by decide) ?_
    refine zr_icmp_le (tgt := 173) dX9_judge_159 (by decide) h (fun c7 h => ?_) (fun c7 h => ?_)
    · refine zv_iconst (v := 0) dX9_judge_173 (by decide) ?_
      exact kX9_judge_174 hd _ _ _ _ _ _ _ h
    · refine zv_aload_n (n := 0) dX9_judge_162 rfl rfl ?_
      refine zv_iload_n (n := 1) dX9_judge_163 rfl rfl ?_
      refine zv_iload_n (n := 2) dX9_judge_164 rfl rfl ?_
      refine zv_iconst (v := 1) dX9_judge_165 (by decide) ?_
      refine zv_iadd dX9_judge_166 ?_
      refine zr_cVi (ci := 9) (st := []) dX9_judge_167 mw_X9_code wd_1609 wd_1611 wd_55 rfl rfl [.int l1, .int (l2 + (1 : Int32))] rfl rfl (Nat.le_of_ble_eq_true rfl) (show d - 1 + 1 ≤ d by omega) h (fun o5 e6 => tX9_code (d := d - 1) (by omega) e6) (fun o5 e6 h => ?_)
      refine zv_goto (tgt := 174) dX9_judge_170 (by decide) ?_
      exact kX9_judge_174 hd _ _ _ _ _ _ _ h
  · cases h
    exact zv_vret dX9_judge_155 rfl
def mX9_judge_144 (N : Nat) (l0 : Nat) (l1 : Int32) (l2 : Int32) (l3 : Int32) (l4 : Int32) (s0 : Nat) (x : zv_X) : Option zv_X := mX9_judge_145 N l0 l1 l2 l3 l4 (0 : Int32) s0 x
theorem kX9_judge_144 {d : Nat} {x0 : zv_X} {o : zv_X} (hd : 2 ≤ d) {N : Nat} (l0 : Nat) (l1 : Int32) (l2 : Int32) (l3 : Int32) (l4 : Int32) (s0 : Nat) (x : zv_X) (h : mX9_judge_144 N l0 l1 l2 l3 l4 s0 x = some o) : zv_V (fX9_judge d x0 o) 144 [(0, .ref l0), (1, .int l1), (2, .int l2), (3, .int l3), (4, .int l4)] [.ref s0] x := by
  unfold mX9_judge_144 at h
  refine zv_iconst (v := 0) dX9_judge_144 (by decide) ?_
  exact kX9_judge_145 hd _ _ _ _ _ _ _ _ h
def mX9_judge_101 (N : Nat) (l0 : Nat) (l1 : Int32) (l2 : Int32) (x : zv_X) : Option zv_X := if zm_k x l0 9 = true then ((mX9_code N l0 l1 l2 x).bind fun o1 => (mX9_length N o1.2 o1.1).bind fun o3 => (zm_I o3.1 l0 9 27).bind fun v5 => if v5 = 0 then (mX9_judge_144 N l0 l1 l2 o1.2 o3.2 l0 o3.1) else (if o3.2 ≤ 0 then (mX9_judge_144 N l0 l1 l2 o1.2 o3.2 l0 o3.1) else ((zm_R o3.1 l0 9 18).bind fun v7 => (zm_aI o3.1 v7 l1).bind fun v9 => if v9 < (l2 + o3.2) then (mX9_judge_144 N l0 l1 l2 o1.2 o3.2 l0 o3.1) else (mX9_judge_145 N l0 l1 l2 o1.2 o3.2 (1 : Int32) l0 o3.1)))) else none
theorem kX9_judge_101 {d : Nat} {x0 : zv_X} {o : zv_X} (hd : 2 ≤ d) {N : Nat} (l0 : Nat) (l1 : Int32) (l2 : Int32) (x : zv_X) (h : mX9_judge_101 N l0 l1 l2 x = some o) : zv_V (fX9_judge d x0 o) 101 [(0, .ref l0), (1, .int l1), (2, .int l2)] [] x := by
  unfold mX9_judge_101 at h
  refine zv_aload_n (n := 0) dX9_judge_101 rfl rfl ?_
  refine zv_iload_n (n := 1) dX9_judge_102 rfl rfl ?_
  refine zv_iload_n (n := 2) dX9_judge_103 rfl rfl ?_
  refine zr_cVi (ci := 9) (st := []) dX9_judge_104 mw_X9_code wd_1609 wd_1611 wd_55 rfl rfl [.int l1, .int l2] rfl rfl (Nat.le_of_ble_eq_true rfl) (show d - 1 + 1 ≤ d by omega) h (fun o1 e2 => tX9_code (d := d - 1) (by omega) e2) (fun o1 e2 h => ?_)
  refine zv_istore_n (L' := [(3, .int o1.2), (0, .ref l0), (1, .int l1), (2, .int l2)]) dX9_judge_107 rfl (Nat.le_of_ble_eq_true rfl) rfl ?_
  refine zv_iload_n (n := 0) dX9_judge_108 rfl rfl ?_
  refine zr_cSi (st := []) dX9_judge_109 mw_X9_length wd_1613 wd_1614 [.int o1.2] rfl rfl (Nat.le_of_ble_eq_true rfl) (show d - 1 + 1 ≤ d by omega) h (fun o3 e4 => tX9_length (d := d - 1) (by omega) e4) (fun o3 e4 h => ?_)
  refine zv_istore (L' := [(4, .int o3.2), (3, .int o1.2), (0, .ref l0), (1, .int l1), (2, .int l2)]) dX9_judge_112 (Nat.le_of_ble_eq_true rfl) rfl ?_
  refine zv_aload_n (n := 2) dX9_judge_114 rfl rfl ?_
  refine zv_aload_n (n := 2) dX9_judge_115 rfl rfl ?_
  refine zr_gI dX9_judge_116 fg_1430 h (fun v5 e6 h => ?_)
  refine zr_if_eq (tgt := 144) dX9_judge_119 (by decide) h (fun c13 h => ?_) (fun c13 h => ?_)
  · exact zv_fewer [2, 3, 4, 1, 0] rfl (kX9_judge_144 hd _ _ _ _ _ _ _ h)
  · refine zv_iload (n := 0) dX9_judge_122 rfl ?_
    refine zr_if_le (tgt := 144) dX9_judge_124 (by decide) h (fun c12 h => ?_) (fun c12 h => ?_)
    · exact zv_fewer [2, 3, 4, 1, 0] rfl (kX9_judge_144 hd _ _ _ _ _ _ _ h)
    · refine zv_iload_n (n := 4) dX9_judge_127 rfl rfl ?_
      refine zv_iload (n := 0) dX9_judge_128 rfl ?_
      refine zv_iadd dX9_judge_130 ?_
      refine zv_aload_n (n := 2) dX9_judge_131 rfl rfl ?_
      refine zr_gR dX9_judge_132 fg_1421 h (fun v7 e8 h => ?_)
      refine zv_iload_n (n := 3) dX9_judge_135 rfl rfl ?_
      refine zr_aI dX9_judge_136 h (fun v9 e10 h => ?_)
      refine zr_icmp_gt (tgt := 144) dX9_judge_137 (by decide) h (fun c11 h => ?_) (fun c11 h => ?_)
      · exact zv_fewer [2, 3, 4, 1, 0] rfl (kX9_judge_144 hd _ _ _ _ _ _ _ h)
      · refine zv_iconst (v := 1) dX9_judge_140 (by decide) ?_
        refine zv_goto (tgt := 145) dX9_judge_141 (by decide) ?_
        exact zv_fewer [2, 3, 4, 1, 0] rfl (kX9_judge_145 hd _ _ _ _ _ _ _ _ h)
def mX9_judge_95 (K7 : Nat → Int32 → Int32 → Int32 → zv_X → Option zv_X) (N : Nat) (l0 : Nat) (l1 : Int32) (l2 : Int32) (l3 : Int32) (x : zv_X) : Option zv_X := K7 l0 l1 l2 (l3 + (1)) x
theorem kX9_judge_95 {d : Nat} {x0 : zv_X} {o : zv_X} (hd : 2 ≤ d) {K7 : Nat → Int32 → Int32 → Int32 → zv_X → Option zv_X} (hK7 : ∀ (l0 : Nat) (l1 : Int32) (l2 : Int32) (l3 : Int32) (x : zv_X), K7 l0 l1 l2 l3 x = some o → zv_V (fX9_judge d x0 o) 7 [(0, .ref l0), (1, .int l1), (2, .int l2), (3, .int l3)] [] x) {N : Nat} (l0 : Nat) (l1 : Int32) (l2 : Int32) (l3 : Int32) (x : zv_X) (h : mX9_judge_95 K7 N l0 l1 l2 l3 x = some o) : zv_V (fX9_judge d x0 o) 95 [(0, .ref l0), (1, .int l1), (2, .int l2), (3, .int l3)] [] x := by
  unfold mX9_judge_95 at h
  refine zv_iinc (n := 3) (v := l3 + (1)) (L' := [(3, .int (l3 + (1))), (0, .ref l0), (1, .int l1), (2, .int l2)]) dX9_judge_95 rfl rfl (Nat.le_of_ble_eq_true rfl) rfl ?_
  refine zv_goto (tgt := 7) dX9_judge_98 (by decide) ?_
  exact zv_fewer [1, 2, 3, 0] rfl (hK7 _ _ _ _ _ h)
def mX9_judge_90 (K7 : Nat → Int32 → Int32 → Int32 → zv_X → Option zv_X) (N : Nat) (l0 : Nat) (l1 : Int32) (l2 : Int32) (l3 : Int32) (x : zv_X) : Option zv_X := if zm_k x l0 9 = true then ((mX9_take N l0 l2 x).bind fun o1 => mX9_judge_95 K7 N l0 l1 l2 l3 o1) else none
theorem kX9_judge_90 {d : Nat} {x0 : zv_X} {o : zv_X} (hd : 2 ≤ d) {K7 : Nat → Int32 → Int32 → Int32 → zv_X → Option zv_X} (hK7 : ∀ (l0 : Nat) (l1 : Int32) (l2 : Int32) (l3 : Int32) (x : zv_X), K7 l0 l1 l2 l3 x = some o → zv_V (fX9_judge d x0 o) 7 [(0, .ref l0), (1, .int l1), (2, .int l2), (3, .int l3)] [] x) {N : Nat} (l0 : Nat) (l1 : Int32) (l2 : Int32) (l3 : Int32) (x : zv_X) (h : mX9_judge_90 K7 N l0 l1 l2 l3 x = some o) : zv_V (fX9_judge d x0 o) 90 [(0, .ref l0), (1, .int l1), (2, .int l2), (3, .int l3)] [] x := by
  unfold mX9_judge_90 at h
  refine zv_aload_n (n := 0) dX9_judge_90 rfl rfl ?_
  refine zv_iload_n (n := 2) dX9_judge_91 rfl rfl ?_
  refine zr_cVv (ci := 9) (st := []) dX9_judge_92 mw_X9_take wd_1601 wd_1603 wd_53 rfl rfl [.int l2] rfl rfl (Nat.le_of_ble_eq_true rfl) (show d - 1 + 1 ≤ d by omega) h (fun o1 e2 => tX9_take (d := d - 1) (by omega) e2) (fun o1 e2 h => ?_)
  exact kX9_judge_95 hd hK7 _ _ _ _ _ h
def mX9_judge_7 (N : Nat) : Nat → Nat → Int32 → Int32 → Int32 → zv_X → Option zv_X
  | 0, _, _, _, _, _ => none
  | n + 1, l0, l1, l2, l3, x => (zm_R x l0 9 11).bind fun v1 => (zm_aI x v1 l1).bind fun v3 => if v3 ≤ l3 then (mX9_judge_101 N l0 l1 l2 x) else ((zm_I x l0 9 27).bind fun v5 => if v5 = 0 then (mX9_judge_101 N l0 l1 l2 x) else ((zm_R x l0 9 10).bind fun v7 => (zm_aI x v7 (((32 : Int32) * l1) + ((4 : Int32) * l3))).bind fun v9 => if l2 < v9 then (mX9_judge_95 (mX9_judge_7 N n) N l0 l1 l2 l3 x) else ((zm_R x l0 9 10).bind fun v11 => (zm_aI x v11 ((((32 : Int32) * l1) + ((4 : Int32) * l3)) + (1 : Int32))).bind fun v13 => if v13 ≤ l2 then (mX9_judge_95 (mX9_judge_7 N n) N l0 l1 l2 l3 x) else ((zm_p x l0 9 25 (.int (0 : Int32))).bind fun x15 => if zm_k x15 l0 9 = true then ((mX9_push N l0 l1 (3 : Int32) x15).bind fun o17 => (zm_I o17 l0 9 27).bind fun v19 => if v19 = 0 then (mX9_judge_90 (mX9_judge_7 N n) N l0 l1 l2 l3 o17) else ((zm_R o17 l0 9 10).bind fun v21 => (zm_aI o17 v21 ((((32 : Int32) * l1) + ((4 : Int32) * l3)) + (2 : Int32))).bind fun v23 => if zm_k o17 l0 9 = true then ((mX9_lead N l0 l1 v23 o17).bind fun o25 => mX9_judge_90 (mX9_judge_7 N n) N l0 l1 l2 l3 o25) else none)) else none))))
theorem kX9_judge_7 {d : Nat} {x0 : zv_X} {o : zv_X} (hd : 2 ≤ d) {N : Nat} : ∀ (n : Nat) (l0 : Nat) (l1 : Int32) (l2 : Int32) (l3 : Int32) (x : zv_X), mX9_judge_7 N n l0 l1 l2 l3 x = some o → zv_V (fX9_judge d x0 o) 7 [(0, .ref l0), (1, .int l1), (2, .int l2), (3, .int l3)] [] x := by
  intro n
  induction n with
  | zero => intro l0 l1 l2 l3 x h; cases h
  | succ n ih =>
    intro l0 l1 l2 l3 x h
    unfold mX9_judge_7 at h
    refine zv_iload_n (n := 3) dX9_judge_7 rfl rfl ?_
    refine zv_aload_n (n := 0) dX9_judge_8 rfl rfl ?_
    refine zr_gR dX9_judge_9 fg_1414 h (fun v1 e2 h => ?_)
    refine zv_iload_n (n := 1) dX9_judge_12 rfl rfl ?_
    refine zr_aI dX9_judge_13 h (fun v3 e4 h => ?_)
    refine zr_icmp_ge (tgt := 101) dX9_judge_14 (by decide) h (fun c31 h => ?_) (fun c31 h => ?_)
    · exact zv_fewer [0, 1, 2] rfl (kX9_judge_101 hd _ _ _ _ h)
    · refine zv_aload_n (n := 0) dX9_judge_17 rfl rfl ?_
      refine zr_gI dX9_judge_18 fg_1430 h (fun v5 e6 h => ?_)
      refine zr_if_eq (tgt := 101) dX9_judge_21 (by decide) h (fun c30 h => ?_) (fun c30 h => ?_)
      · exact zv_fewer [0, 1, 2] rfl (kX9_judge_101 hd _ _ _ _ h)
      · refine zv_bipush (v := 32) dX9_judge_24 (by decide) ?_
        refine zv_iload_n (n := 1) dX9_judge_26 rfl rfl ?_
        refine zv_imul dX9_judge_27 ?_
        refine zv_iconst (v := 4) dX9_judge_28 (by decide) ?_
        refine zv_iload_n (n := 3) dX9_judge_29 rfl rfl ?_
        refine zv_imul dX9_judge_30 ?_
        refine zv_iadd dX9_judge_31 ?_
        refine zv_istore (L' := [(4, .int (((32 : Int32) * l1) + ((4 : Int32) * l3))), (0, .ref l0), (1, .int l1), (2, .int l2), (3, .int l3)]) dX9_judge_32 (Nat.le_of_ble_eq_true rfl) rfl ?_
        refine zv_aload_n (n := 1) dX9_judge_34 rfl rfl ?_
        refine zr_gR dX9_judge_35 fg_1413 h (fun v7 e8 h => ?_)
        refine zv_iload (n := 0) dX9_judge_38 rfl ?_
        refine zr_aI dX9_judge_40 h (fun v9 e10 h => ?_)
        refine zv_iload_n (n := 3) dX9_judge_41 rfl rfl ?_
        refine zr_icmp_gt (tgt := 95) dX9_judge_42 (by decide) h (fun c29 h => ?_) (fun c29 h => ?_)
        · exact zv_fewer [1, 2, 3, 4] rfl (kX9_judge_95 hd ih _ _ _ _ _ h)
        · refine zv_iload_n (n := 3) dX9_judge_45 rfl rfl ?_
          refine zv_aload_n (n := 1) dX9_judge_46 rfl rfl ?_
          refine zr_gR dX9_judge_47 fg_1413 h (fun v11 e12 h => ?_)
          refine zv_iload (n := 0) dX9_judge_50 rfl ?_
          refine zv_iconst (v := 1) dX9_judge_52 (by decide) ?_
          refine zv_iadd dX9_judge_53 ?_
          refine zr_aI dX9_judge_54 h (fun v13 e14 h => ?_)
          refine zr_icmp_ge (tgt := 95) dX9_judge_55 (by decide) h (fun c28 h => ?_) (fun c28 h => ?_)
          · exact zv_fewer [1, 2, 3, 4] rfl (kX9_judge_95 hd ih _ _ _ _ _ h)
          · refine zv_aload_n (n := 1) dX9_judge_58 rfl rfl ?_
            refine zv_iconst (v := 0) dX9_judge_59 (by decide) ?_
            refine zr_p dX9_judge_60 fl_1428 (fun q => nomatch q) rfl rfl h (fun x15 e16 h => ?_)
            refine zv_aload_n (n := 1) dX9_judge_63 rfl rfl ?_
            refine zv_iload_n (n := 2) dX9_judge_64 rfl rfl ?_
            refine zv_iconst (v := 3) dX9_judge_65 (by decide) ?_
            refine zr_cVv (ci := 9) (st := []) dX9_judge_66 mw_X9_push wd_1605 wd_1607 wd_54 rfl rfl [.int l1, .int (3 : Int32)] rfl rfl (Nat.le_of_ble_eq_true rfl) (show d - 1 + 1 ≤ d by omega) h (fun o17 e18 => tX9_push (d := d - 1) (by omega) e18) (fun o17 e18 h => ?_)
            refine zv_aload_n (n := 1) dX9_judge_69 rfl rfl ?_
            refine zr_gI dX9_judge_70 fg_1430 h (fun v19 e20 h => ?_)
            refine zr_if_eq (tgt := 90) dX9_judge_73 (by decide) h (fun c27 h => ?_) (fun c27 h => ?_)
            · exact zv_fewer [1, 2, 3, 4] rfl (kX9_judge_90 hd ih _ _ _ _ _ h)
            · refine zv_aload_n (n := 1) dX9_judge_76 rfl rfl ?_
              refine zv_iload_n (n := 2) dX9_judge_77 rfl rfl ?_
              refine zv_aload_n (n := 1) dX9_judge_78 rfl rfl ?_
              refine zr_gR dX9_judge_79 fg_1413 h (fun v21 e22 h => ?_)
              refine zv_iload (n := 0) dX9_judge_82 rfl ?_
              refine zv_iconst (v := 2) dX9_judge_84 (by decide) ?_
              refine zv_iadd dX9_judge_85 ?_
              refine zr_aI dX9_judge_86 h (fun v23 e24 h => ?_)
              refine zr_cVv (ci := 9) (st := []) dX9_judge_87 mw_X9_lead wd_1593 wd_1595 wd_51 rfl rfl [.int l1, .int v23] rfl rfl (Nat.le_of_ble_eq_true rfl) (show d - 1 + 1 ≤ d by omega) h (fun o25 e26 => tX9_lead (d := d - 1) (by omega) e26) (fun o25 e26 h => ?_)
              exact zv_fewer [1, 2, 3, 4] rfl (kX9_judge_90 hd ih _ _ _ _ _ h)
def mX9_judge_0 (N : Nat) (l0 : Nat) (l1 : Int32) (l2 : Int32) (x : zv_X) : Option zv_X := if zm_k x l0 9 = true then ((mX9_take N l0 l2 x).bind fun o1 => mX9_judge_7 N N l0 l1 l2 (0 : Int32) o1) else none
theorem kX9_judge_0 {d : Nat} {x0 : zv_X} {o : zv_X} (hd : 2 ≤ d) {N : Nat} (l0 : Nat) (l1 : Int32) (l2 : Int32) (x : zv_X) (h : mX9_judge_0 N l0 l1 l2 x = some o) : zv_V (fX9_judge d x0 o) 0 [(0, .ref l0), (1, .int l1), (2, .int l2)] [] x := by
  unfold mX9_judge_0 at h
  refine zv_aload_n (n := 0) dX9_judge_0 rfl rfl ?_
  refine zv_iload_n (n := 2) dX9_judge_1 rfl rfl ?_
  refine zr_cVv (ci := 9) (st := []) dX9_judge_2 mw_X9_take wd_1601 wd_1603 wd_53 rfl rfl [.int l2] rfl rfl (Nat.le_of_ble_eq_true rfl) (show d - 1 + 1 ≤ d by omega) h (fun o1 e2 => tX9_take (d := d - 1) (by omega) e2) (fun o1 e2 h => ?_)
  refine zv_iconst (v := 0) dX9_judge_5 (by decide) ?_
  refine zv_istore_n (L' := [(3, .int (0 : Int32)), (0, .ref l0), (1, .int l1), (2, .int l2)]) dX9_judge_6 rfl (Nat.le_of_ble_eq_true rfl) rfl ?_
  exact zv_fewer [1, 2, 3, 0] rfl (kX9_judge_7 hd N _ _ _ _ _ h)
def mX9_judge (N : Nat) (a0 : Nat) (a1 : Int32) (a2 : Int32) (x : zv_X) : Option zv_X := mX9_judge_0 N a0 a1 a2 x
theorem tX9_judge {d : Nat} (hd : 2 ≤ d) {N : Nat} {x : zv_X} {a0 : Nat} {a1 : Int32} {a2 : Int32} {o : zv_X} (h : mX9_judge N a0 a1 a2 x = some o) : zv_T d yX9_judge cX9_judge 9 (none) [.ref a0, .int a1, .int a2] x o none := by
  unfold mX9_judge at h
  exact zv_enter (by decide) (Nat.le_of_ble_eq_true rfl) (kX9_judge_0 hd _ _ _ _ h)

abbrev fX9_isGood (d : Nat) (x0 : zv_X) (o : (zv_X × Int32)) : zv_G := (d, RX9, cX9_isGood, 3, (some .boolean), ("isGood", []), x0, o.1, zv_fin x0 o.1 (some (.int o.2)))
def mX9_isGood_149 (N : Nat) (l0 : Nat) (x : zv_X) : Option (zv_X × Int32) := (zm_I x l0 9 27).bind fun v1 => if v1 = 0 ∨ v1 = 1 then some (x, v1) else none
theorem kX9_isGood_149 {d : Nat} {x0 : zv_X} {o : (zv_X × Int32)} (hd : 3 ≤ d) {N : Nat} (l0 : Nat) (x : zv_X) (h : mX9_isGood_149 N l0 x = some o) : zv_V (fX9_isGood d x0 o) 149 [(0, .ref l0)] [] x := by
  unfold mX9_isGood_149 at h
  refine zv_aload_n (n := 0) dX9_isGood_149 rfl rfl ?_
  refine zr_gI dX9_isGood_150 fg_1430 h (fun v1 e2 h => ?_)
  obtain ⟨hv, h⟩ := zg h
  cases h
  exact zv_zret dX9_isGood_153 rfl hv
def mX9_isGood_146 (K87 : Nat → Int32 → zv_X → Option (zv_X × Int32)) (N : Nat) (l0 : Nat) (l1 : Int32) (x : zv_X) : Option (zv_X × Int32) := K87 l0 l1 x
theorem kX9_isGood_146 {d : Nat} {x0 : zv_X} {o : (zv_X × Int32)} (hd : 3 ≤ d) {K87 : Nat → Int32 → zv_X → Option (zv_X × Int32)} (hK87 : ∀ (l0 : Nat) (l1 : Int32) (x : zv_X), K87 l0 l1 x = some o → zv_V (fX9_isGood d x0 o) 87 [(0, .ref l0), (1, .int l1)] [] x) {N : Nat} (l0 : Nat) (l1 : Int32) (x : zv_X) (h : mX9_isGood_146 K87 N l0 l1 x = some o) : zv_V (fX9_isGood d x0 o) 146 [(0, .ref l0), (1, .int l1)] [] x := by
  unfold mX9_isGood_146 at h
  refine zv_goto (tgt := 87) dX9_isGood_146 (by decide) ?_
  exact hK87 _ _ _ h
def mX9_isGood_140 (K87 : Nat → Int32 → zv_X → Option (zv_X × Int32)) (K108 : Nat → Int32 → Int32 → zv_X → Option (zv_X × Int32)) (N : Nat) (l0 : Nat) (l1 : Int32) (l2 : Int32) (x : zv_X) : Option (zv_X × Int32) := K108 l0 l1 (l2 + (1)) x
theorem kX9_isGood_140 {d : Nat} {x0 : zv_X} {o : (zv_X × Int32)} (hd : 3 ≤ d) {K87 : Nat → Int32 → zv_X → Option (zv_X × Int32)} (hK87 : ∀ (l0 : Nat) (l1 : Int32) (x : zv_X), K87 l0 l1 x = some o → zv_V (fX9_isGood d x0 o) 87 [(0, .ref l0), (1, .int l1)] [] x) {K108 : Nat → Int32 → Int32 → zv_X → Option (zv_X × Int32)} (hK108 : ∀ (l0 : Nat) (l1 : Int32) (l2 : Int32) (x : zv_X), K108 l0 l1 l2 x = some o → zv_V (fX9_isGood d x0 o) 108 [(0, .ref l0), (1, .int l1), (2, .int l2)] [] x) {N : Nat} (l0 : Nat) (l1 : Int32) (l2 : Int32) (x : zv_X) (h : mX9_isGood_140 K87 K108 N l0 l1 l2 x = some o) : zv_V (fX9_isGood d x0 o) 140 [(0, .ref l0), (1, .int l1), (2, .int l2)] [] x := by
  unfold mX9_isGood_140 at h
  refine zv_iinc (n := 2) (v := l2 + (1)) (L' := [(2, .int (l2 + (1))), (0, .ref l0), (1, .int l1)]) dX9_isGood_140 rfl rfl (Nat.le_of_ble_eq_true rfl) rfl ?_
  refine zv_goto (tgt := 108) dX9_isGood_143 (by decide) ?_
  exact zv_fewer [1, 2, 0] rfl (hK108 _ _ _ _ h)
def mX9_isGood_108 (K87 : Nat → Int32 → zv_X → Option (zv_X × Int32)) (N : Nat) : Nat → Nat → Int32 → Int32 → zv_X → Option (zv_X × Int32)
  | 0, _, _, _, _ => none
  | n + 1, l0, l1, l2, x => (zm_R x l0 9 18).bind fun v1 => (zm_aI x v1 l1).bind fun v3 => if v3 ≤ l2 then (mX9_isGood_146 K87 N l0 l1 x) else ((zm_I x l0 9 27).bind fun v5 => if v5 = 0 then (mX9_isGood_146 K87 N l0 l1 x) else ((zm_R x l0 9 20).bind fun v7 => (zm_aB x v7 l2).bind fun v9 => if v9 = 0 then (mX9_isGood_140 K87 (mX9_isGood_108 K87 N n) N l0 l1 l2 x) else (if zm_k x l0 9 = true then ((mX9_judge N l0 l1 l2 x).bind fun o11 => mX9_isGood_140 K87 (mX9_isGood_108 K87 N n) N l0 l1 l2 o11) else none)))
theorem kX9_isGood_108 {d : Nat} {x0 : zv_X} {o : (zv_X × Int32)} (hd : 3 ≤ d) {K87 : Nat → Int32 → zv_X → Option (zv_X × Int32)} (hK87 : ∀ (l0 : Nat) (l1 : Int32) (x : zv_X), K87 l0 l1 x = some o → zv_V (fX9_isGood d x0 o) 87 [(0, .ref l0), (1, .int l1)] [] x) {N : Nat} : ∀ (n : Nat) (l0 : Nat) (l1 : Int32) (l2 : Int32) (x : zv_X), mX9_isGood_108 K87 N n l0 l1 l2 x = some o → zv_V (fX9_isGood d x0 o) 108 [(0, .ref l0), (1, .int l1), (2, .int l2)] [] x := by
  intro n
  induction n with
  | zero => intro l0 l1 l2 x h; cases h
  | succ n ih =>
    intro l0 l1 l2 x h
    unfold mX9_isGood_108 at h
    refine zv_iload_n (n := 2) dX9_isGood_108 rfl rfl ?_
    refine zv_aload_n (n := 0) dX9_isGood_109 rfl rfl ?_
    refine zr_gR dX9_isGood_110 fg_1421 h (fun v1 e2 h => ?_)
    refine zv_iload_n (n := 1) dX9_isGood_113 rfl rfl ?_
    refine zr_aI dX9_isGood_114 h (fun v3 e4 h => ?_)
    refine zr_icmp_ge (tgt := 146) dX9_isGood_115 (by decide) h (fun c15 h => ?_) (fun c15 h => ?_)
    · exact zv_fewer [0, 1] rfl (kX9_isGood_146 hd hK87 _ _ _ h)
    · refine zv_aload_n (n := 0) dX9_isGood_118 rfl rfl ?_
      refine zr_gI dX9_isGood_119 fg_1430 h (fun v5 e6 h => ?_)
      refine zr_if_eq (tgt := 146) dX9_isGood_122 (by decide) h (fun c14 h => ?_) (fun c14 h => ?_)
      · exact zv_fewer [0, 1] rfl (kX9_isGood_146 hd hK87 _ _ _ h)
      · refine zv_aload_n (n := 0) dX9_isGood_125 rfl rfl ?_
        refine zr_gR dX9_isGood_126 fg_1423 h (fun v7 e8 h => ?_)
        refine zv_iload_n (n := 2) dX9_isGood_129 rfl rfl ?_
        refine zr_aB dX9_isGood_130 h (fun v9 e10 h => ?_)
        refine zr_if_eq (tgt := 140) dX9_isGood_131 (by decide) h (fun c13 h => ?_) (fun c13 h => ?_)
        · exact kX9_isGood_140 hd hK87 ih _ _ _ _ h
        · refine zv_aload_n (n := 0) dX9_isGood_134 rfl rfl ?_
          refine zv_iload_n (n := 1) dX9_isGood_135 rfl rfl ?_
          refine zv_iload_n (n := 2) dX9_isGood_136 rfl rfl ?_
          refine zr_cVv (ci := 9) (st := []) dX9_isGood_137 mw_X9_judge wd_1597 wd_1599 wd_52 rfl rfl [.int l1, .int l2] rfl rfl (Nat.le_of_ble_eq_true rfl) (show d - 1 + 1 ≤ d by omega) h (fun o11 e12 => tX9_judge (d := d - 1) (by omega) e12) (fun o11 e12 h => ?_)
          exact kX9_isGood_140 hd hK87 ih _ _ _ _ h
def mX9_isGood_87 (N : Nat) : Nat → Nat → Int32 → zv_X → Option (zv_X × Int32)
  | 0, _, _, _ => none
  | n + 1, l0, l1, x => (zm_I x l0 9 28).bind fun v1 => if v1 = 0 then (mX9_isGood_149 N l0 x) else ((zm_I x l0 9 27).bind fun v3 => if v3 = 0 then (mX9_isGood_149 N l0 x) else ((zm_p x l0 9 28 (.int (0 : Int32))).bind fun x5 => mX9_isGood_108 (mX9_isGood_87 N n) N N l0 l1 (0 : Int32) x5))
theorem kX9_isGood_87 {d : Nat} {x0 : zv_X} {o : (zv_X × Int32)} (hd : 3 ≤ d) {N : Nat} : ∀ (n : Nat) (l0 : Nat) (l1 : Int32) (x : zv_X), mX9_isGood_87 N n l0 l1 x = some o → zv_V (fX9_isGood d x0 o) 87 [(0, .ref l0), (1, .int l1)] [] x := by
  intro n
  induction n with
  | zero => intro l0 l1 x h; cases h
  | succ n ih =>
    intro l0 l1 x h
    unfold mX9_isGood_87 at h
    refine zv_aload_n (n := 0) dX9_isGood_87 rfl rfl ?_
    refine zr_gI dX9_isGood_88 fg_1431 h (fun v1 e2 h => ?_)
    refine zr_if_eq (tgt := 149) dX9_isGood_91 (by decide) h (fun c8 h => ?_) (fun c8 h => ?_)
    · exact zv_fewer [0] rfl (kX9_isGood_149 hd _ _ h)
    · refine zv_aload_n (n := 0) dX9_isGood_94 rfl rfl ?_
      refine zr_gI dX9_isGood_95 fg_1430 h (fun v3 e4 h => ?_)
      refine zr_if_eq (tgt := 149) dX9_isGood_98 (by decide) h (fun c7 h => ?_) (fun c7 h => ?_)
      · exact zv_fewer [0] rfl (kX9_isGood_149 hd _ _ h)
      · refine zv_aload_n (n := 0) dX9_isGood_101 rfl rfl ?_
        refine zv_iconst (v := 0) dX9_isGood_102 (by decide) ?_
        refine zr_p dX9_isGood_103 fl_1431 (fun q => nomatch q) rfl rfl h (fun x5 e6 h => ?_)
        refine zv_iconst (v := 0) dX9_isGood_106 (by decide) ?_
        refine zv_istore_n (L' := [(2, .int (0 : Int32)), (0, .ref l0), (1, .int l1)]) dX9_isGood_107 rfl (Nat.le_of_ble_eq_true rfl) rfl ?_
        exact zv_fewer [1, 2, 0] rfl (kX9_isGood_108 hd ih N _ _ _ _ h)
def mX9_isGood_69 (K34 : Nat → Int32 → Int32 → zv_X → Option (zv_X × Int32)) (N : Nat) (l0 : Nat) (l1 : Int32) (l2 : Int32) (s0 : Int32) (s1 : Int32) (s2 : Nat) (x : zv_X) : Option (zv_X × Int32) := (zm_sI x s2 s1 s0).bind fun x1 => K34 l0 l1 (l2 + (1)) x1
theorem kX9_isGood_69 {d : Nat} {x0 : zv_X} {o : (zv_X × Int32)} (hd : 3 ≤ d) {K34 : Nat → Int32 → Int32 → zv_X → Option (zv_X × Int32)} (hK34 : ∀ (l0 : Nat) (l1 : Int32) (l2 : Int32) (x : zv_X), K34 l0 l1 l2 x = some o → zv_V (fX9_isGood d x0 o) 34 [(0, .ref l0), (1, .int l1), (2, .int l2)] [] x) {N : Nat} (l0 : Nat) (l1 : Int32) (l2 : Int32) (s0 : Int32) (s1 : Int32) (s2 : Nat) (x : zv_X) (h : mX9_isGood_69 K34 N l0 l1 l2 s0 s1 s2 x = some o) : zv_V (fX9_isGood d x0 o) 69 [(0, .ref l0), (1, .int l1), (2, .int l2)] [.int s0, .int s1, .ref s2] x := by
  unfold mX9_isGood_69 at h
  refine zr_sI dX9_isGood_69 h (fun x1 e2 h => ?_)
  refine zv_iinc (n := 2) (v := l2 + (1)) (L' := [(2, .int (l2 + (1))), (0, .ref l0), (1, .int l1)]) dX9_isGood_70 rfl rfl (Nat.le_of_ble_eq_true rfl) rfl ?_
  refine zv_goto (tgt := 34) dX9_isGood_73 (by decide) ?_
  exact zv_fewer [1, 2, 0] rfl (hK34 _ _ _ _ h)
def mX9_isGood_34 (N : Nat) : Nat → Nat → Int32 → Int32 → zv_X → Option (zv_X × Int32)
  | 0, _, _, _, _ => none
  | n + 1, l0, l1, l2, x => if (16 : Int32) ≤ l2 then (if zm_k x l0 9 = true then ((mX9_lead N l0 l1 (0 : Int32) x).bind fun o1 => (zm_p o1 l0 9 28 (.int (1 : Int32))).bind fun x3 => mX9_isGood_87 N N l0 l1 x3) else none) else ((zm_R x l0 9 26).bind fun v5 => (zm_R x l0 9 12).bind fun v7 => (zm_aI x v7 l1).bind fun v9 => if v9 ≤ l2 then (mX9_isGood_69 (mX9_isGood_34 N n) N l0 l1 l2 (0 : Int32) l2 v5 x) else ((zm_R x l0 9 13).bind fun v11 => (zm_aI x v11 (((4 : Int32) * l1) + l2)).bind fun v13 => mX9_isGood_69 (mX9_isGood_34 N n) N l0 l1 l2 v13 l2 v5 x))
theorem kX9_isGood_34 {d : Nat} {x0 : zv_X} {o : (zv_X × Int32)} (hd : 3 ≤ d) {N : Nat} : ∀ (n : Nat) (l0 : Nat) (l1 : Int32) (l2 : Int32) (x : zv_X), mX9_isGood_34 N n l0 l1 l2 x = some o → zv_V (fX9_isGood d x0 o) 34 [(0, .ref l0), (1, .int l1), (2, .int l2)] [] x := by
  intro n
  induction n with
  | zero => intro l0 l1 l2 x h; cases h
  | succ n ih =>
    intro l0 l1 l2 x h
    unfold mX9_isGood_34 at h
    refine zv_iload_n (n := 2) dX9_isGood_34 rfl rfl ?_
    refine zv_bipush (v := 16) dX9_isGood_35 (by decide) ?_
    refine zr_icmp_ge (tgt := 76) dX9_isGood_37 (by decide) h (fun c16 h => ?_) (fun c16 h => ?_)
    · refine zv_aload_n (n := 0) dX9_isGood_76 rfl rfl ?_
      refine zv_iload_n (n := 1) dX9_isGood_77 rfl rfl ?_
      refine zv_iconst (v := 0) dX9_isGood_78 (by decide) ?_
      refine zr_cVv (ci := 9) (st := []) dX9_isGood_79 mw_X9_lead wd_1593 wd_1595 wd_51 rfl rfl [.int l1, .int (0 : Int32)] rfl rfl (Nat.le_of_ble_eq_true rfl) (show d - 1 + 1 ≤ d by omega) h (fun o1 e2 => tX9_lead (d := d - 1) (by omega) e2) (fun o1 e2 h => ?_)
      refine zv_aload_n (n := 0) dX9_isGood_82 rfl rfl ?_
      refine zv_iconst (v := 1) dX9_isGood_83 (by decide) ?_
      refine zr_p dX9_isGood_84 fl_1431 (fun q => nomatch q) rfl rfl h (fun x3 e4 h => ?_)
      exact zv_fewer [0, 1] rfl (kX9_isGood_87 hd N _ _ _ h)
    · refine zv_aload_n (n := 0) dX9_isGood_40 rfl rfl ?_
      refine zr_gR dX9_isGood_41 fg_1429 h (fun v5 e6 h => ?_)
      refine zv_iload_n (n := 2) dX9_isGood_44 rfl rfl ?_
      refine zv_iload_n (n := 2) dX9_isGood_45 rfl rfl ?_
      refine zv_aload_n (n := 0) dX9_isGood_46 rfl rfl ?_
      refine zr_gR dX9_isGood_47 fg_1415 h (fun v7 e8 h => ?_)
      refine zv_iload_n (n := 1) dX9_isGood_50 rfl rfl ?_
      refine zr_aI dX9_isGood_51 h (fun v9 e10 h => ?_)
      refine zr_icmp_ge (tgt := 68) dX9_isGood_52 (by decide) h (fun c15 h => ?_) (fun c15 h => ?_)
      · refine zv_iconst (v := 0) dX9_isGood_68 (by decide) ?_
        exact kX9_isGood_69 hd ih _ _ _ _ _ _ _ h
      · refine zv_aload_n (n := 0) dX9_isGood_55 rfl rfl ?_
        refine zr_gR dX9_isGood_56 fg_1416 h (fun v11 e12 h => ?_)
        refine zv_iconst (v := 4) dX9_isGood_59 (by decide) ?_
        refine zv_iload_n (n := 1) dX9_isGood_60 rfl rfl ?_
        refine zv_imul dX9_isGood_61 ?_
        refine zv_iload_n (n := 2) dX9_isGood_62 rfl rfl ?_
        refine zv_iadd dX9_isGood_63 ?_
        refine zr_aI dX9_isGood_64 h (fun v13 e14 h => ?_)
        refine zv_goto (tgt := 69) dX9_isGood_65 (by decide) ?_
        exact kX9_isGood_69 hd ih _ _ _ _ _ _ _ h
def mX9_isGood_2 (N : Nat) : Nat → Nat → Int32 → Int32 → zv_X → Option (zv_X × Int32)
  | 0, _, _, _, _ => none
  | n + 1, l0, l1, l2, x => if (200 : Int32) ≤ l2 then ((zm_p x l0 9 27 (.int (1 : Int32))).bind fun x1 => (zm_p x1 l0 9 25 (.int (0 : Int32))).bind fun x3 => mX9_isGood_34 N N l0 l1 (0 : Int32) x3) else ((zm_R x l0 9 20).bind fun v5 => (zm_sB x v5 l2 (0 : Int32)).bind fun x7 => mX9_isGood_2 N n l0 l1 (l2 + (1)) x7)
theorem kX9_isGood_2 {d : Nat} {x0 : zv_X} {o : (zv_X × Int32)} (hd : 3 ≤ d) {N : Nat} : ∀ (n : Nat) (l0 : Nat) (l1 : Int32) (l2 : Int32) (x : zv_X), mX9_isGood_2 N n l0 l1 l2 x = some o → zv_V (fX9_isGood d x0 o) 2 [(0, .ref l0), (1, .int l1), (2, .int l2)] [] x := by
  intro n
  induction n with
  | zero => intro l0 l1 l2 x h; cases h
  | succ n ih =>
    intro l0 l1 l2 x h
    unfold mX9_isGood_2 at h
    refine zv_iload_n (n := 2) dX9_isGood_2 rfl rfl ?_
    refine zv_sipush (v := 200) dX9_isGood_3 (by decide) ?_
    refine zr_icmp_ge (tgt := 22) dX9_isGood_6 (by decide) h (fun c9 h => ?_) (fun c9 h => ?_)
    · refine zv_aload_n (n := 0) dX9_isGood_22 rfl rfl ?_
      refine zv_iconst (v := 1) dX9_isGood_23 (by decide) ?_
      refine zr_p dX9_isGood_24 fl_1430 (fun q => nomatch q) rfl rfl h (fun x1 e2 h => ?_)
      refine zv_aload_n (n := 0) dX9_isGood_27 rfl rfl ?_
      refine zv_iconst (v := 0) dX9_isGood_28 (by decide) ?_
      refine zr_p dX9_isGood_29 fl_1428 (fun q => nomatch q) rfl rfl h (fun x3 e4 h => ?_)
      refine zv_iconst (v := 0) dX9_isGood_32 (by decide) ?_
      refine zv_istore_n (L' := [(2, .int (0 : Int32)), (0, .ref l0), (1, .int l1)]) dX9_isGood_33 rfl (Nat.le_of_ble_eq_true rfl) rfl ?_
      exact zv_fewer [1, 2, 0] rfl (kX9_isGood_34 hd N _ _ _ _ h)
    · refine zv_aload_n (n := 0) dX9_isGood_9 rfl rfl ?_
      refine zr_gR dX9_isGood_10 fg_1423 h (fun v5 e6 h => ?_)
      refine zv_iload_n (n := 2) dX9_isGood_13 rfl rfl ?_
      refine zv_iconst (v := 0) dX9_isGood_14 (by decide) ?_
      refine zr_sB dX9_isGood_15 h (fun x7 e8 h => ?_)
      refine zv_iinc (n := 2) (v := l2 + (1)) (L' := [(2, .int (l2 + (1))), (0, .ref l0), (1, .int l1)]) dX9_isGood_16 rfl rfl (Nat.le_of_ble_eq_true rfl) rfl ?_
      refine zv_goto (tgt := 2) dX9_isGood_19 (by decide) ?_
      exact zv_fewer [1, 2, 0] rfl (ih _ _ _ _ h)
def mX9_isGood_0 (N : Nat) (l0 : Nat) (l1 : Int32) (x : zv_X) : Option (zv_X × Int32) := mX9_isGood_2 N N l0 l1 (0 : Int32) x
theorem kX9_isGood_0 {d : Nat} {x0 : zv_X} {o : (zv_X × Int32)} (hd : 3 ≤ d) {N : Nat} (l0 : Nat) (l1 : Int32) (x : zv_X) (h : mX9_isGood_0 N l0 l1 x = some o) : zv_V (fX9_isGood d x0 o) 0 [(0, .ref l0), (1, .int l1)] [] x := by
  unfold mX9_isGood_0 at h
  refine zv_iconst (v := 0) dX9_isGood_0 (by decide) ?_
  refine zv_istore_n (L' := [(2, .int (0 : Int32)), (0, .ref l0), (1, .int l1)]) dX9_isGood_1 rfl (Nat.le_of_ble_eq_true rfl) rfl ?_
  exact zv_fewer [1, 2, 0] rfl (kX9_isGood_2 hd N _ _ _ _ h)
def mX9_isGood (N : Nat) (a0 : Nat) (a1 : Int32) (x : zv_X) : Option (zv_X × Int32) := mX9_isGood_0 N a0 a1 x
theorem tX9_isGood {d : Nat} (hd : 3 ≤ d) {N : Nat} {x : zv_X} {a0 : Nat} {a1 : Int32} {o : (zv_X × Int32)} (h : mX9_isGood N a0 a1 x = some o) : zv_T d yX9_isGood cX9_isGood 3 ((some .boolean)) [.ref a0, .int a1] x o.1 (some (.int o.2)) := by
  unfold mX9_isGood at h
  exact zv_enter (by decide) (Nat.le_of_ble_eq_true rfl) (kX9_isGood_0 hd _ _ _ h)
