abbrev fX9_judgeBranch (d : Nat) (x0 : zv_X) (o : zv_X) : zv_G := (d, RX9, cX9_judgeBranch, 2, none, ("judgeBranch", []), x0, o, zv_fin x0 o none)
def mX9_judgeBranch_83 (N : Nat)  (x : zv_X) : Option zv_X := some x
theorem kX9_judgeBranch_83 {d : Nat} {x0 : zv_X} {o : zv_X} (hd : 1 ≤ d) {N : Nat}  (x : zv_X) (h : mX9_judgeBranch_83 N  x = some o) : zv_V (fX9_judgeBranch d x0 o) 83 [] [] x := by
  unfold mX9_judgeBranch_83 at h
  cases h
  exact zv_vret dX9_judgeBranch_83 rfl
def mX9_judgeBranch_78 (N : Nat) (l0 : Nat) (x : zv_X) : Option zv_X := if zm_k x l0 9 = true then ((mX9_pop N l0 (3 : Int32) x).bind fun o1 => mX9_judgeBranch_83 N o1) else none
theorem kX9_judgeBranch_78 {d : Nat} {x0 : zv_X} {o : zv_X} (hd : 1 ≤ d) {N : Nat} (l0 : Nat) (x : zv_X) (h : mX9_judgeBranch_78 N l0 x = some o) : zv_V (fX9_judgeBranch d x0 o) 78 [(0, .ref l0)] [] x := by
  unfold mX9_judgeBranch_78 at h
  refine zv_aload_n (n := 0) dX9_judgeBranch_78 rfl rfl ?_
  refine zv_iconst (v := 3) dX9_judgeBranch_79 (by decide) ?_
  refine zr_cVv (ci := 9) (st := []) dX9_judgeBranch_80 mw_X9_pop wd_1620 wd_1622 wd_57 rfl rfl [.int (3 : Int32)] rfl rfl (Nat.le_of_ble_eq_true rfl) (show d - 1 + 1 ≤ d by omega) h (fun o1 e2 => tX9_pop (d := d - 1) (by omega) e2) (fun o1 e2 h => ?_)
  exact zv_fewer [] rfl (kX9_judgeBranch_83 hd _ h)
def mX9_judgeBranch_64 (N : Nat) (l0 : Nat) (l1 : Int32) (x : zv_X) : Option zv_X := if l1 = (165 : Int32) then (mX9_judgeBranch_78 N l0 x) else (if l1 = (166 : Int32) then (mX9_judgeBranch_78 N l0 x) else (mX9_judgeBranch_83 N x))
theorem kX9_judgeBranch_64 {d : Nat} {x0 : zv_X} {o : zv_X} (hd : 1 ≤ d) {N : Nat} (l0 : Nat) (l1 : Int32) (x : zv_X) (h : mX9_judgeBranch_64 N l0 l1 x = some o) : zv_V (fX9_judgeBranch d x0 o) 64 [(0, .ref l0), (1, .int l1)] [] x := by
  unfold mX9_judgeBranch_64 at h
  refine zv_iload_n (n := 1) dX9_judgeBranch_64 rfl rfl ?_
  refine zv_sipush (v := 165) dX9_judgeBranch_65 (by decide) ?_
  refine zr_icmp_eq (tgt := 78) dX9_judgeBranch_68 (by decide) h (fun c2 h => ?_) (fun c2 h => ?_)
  · exact zv_fewer [0] rfl (kX9_judgeBranch_78 hd _ _ h)
  · refine zv_iload_n (n := 1) dX9_judgeBranch_71 rfl rfl ?_
    refine zv_sipush (v := 166) dX9_judgeBranch_72 (by decide) ?_
    refine zr_icmp_ne (tgt := 83) dX9_judgeBranch_75 (by decide) h (fun c1 h => ?_) (fun c1 h => ?_)
    · exact zv_fewer [] rfl (kX9_judgeBranch_83 hd _ h)
    · exact zv_fewer [0] rfl (kX9_judgeBranch_78 hd _ _ h)
def mX9_judgeBranch_59 (N : Nat) (l0 : Nat) (l1 : Int32) (x : zv_X) : Option zv_X := if zm_k x l0 9 = true then ((mX9_pop N l0 (3 : Int32) x).bind fun o1 => mX9_judgeBranch_64 N l0 l1 o1) else none
theorem kX9_judgeBranch_59 {d : Nat} {x0 : zv_X} {o : zv_X} (hd : 1 ≤ d) {N : Nat} (l0 : Nat) (l1 : Int32) (x : zv_X) (h : mX9_judgeBranch_59 N l0 l1 x = some o) : zv_V (fX9_judgeBranch d x0 o) 59 [(0, .ref l0), (1, .int l1)] [] x := by
  unfold mX9_judgeBranch_59 at h
  refine zv_aload_n (n := 0) dX9_judgeBranch_59 rfl rfl ?_
  refine zv_iconst (v := 3) dX9_judgeBranch_60 (by decide) ?_
  refine zr_cVv (ci := 9) (st := []) dX9_judgeBranch_61 mw_X9_pop wd_1620 wd_1622 wd_57 rfl rfl [.int (3 : Int32)] rfl rfl (Nat.le_of_ble_eq_true rfl) (show d - 1 + 1 ≤ d by omega) h (fun o1 e2 => tX9_pop (d := d - 1) (by omega) e2) (fun o1 e2 h => ?_)
  exact kX9_judgeBranch_64 hd _ _ _ h
def mX9_judgeBranch_38 (N : Nat) (l0 : Nat) (l1 : Int32) (x : zv_X) : Option zv_X := if l1 = (165 : Int32) then (mX9_judgeBranch_59 N l0 l1 x) else (if l1 = (166 : Int32) then (mX9_judgeBranch_59 N l0 l1 x) else (if l1 ≤ (197 : Int32) then (mX9_judgeBranch_64 N l0 l1 x) else (mX9_judgeBranch_59 N l0 l1 x)))
theorem kX9_judgeBranch_38 {d : Nat} {x0 : zv_X} {o : zv_X} (hd : 1 ≤ d) {N : Nat} (l0 : Nat) (l1 : Int32) (x : zv_X) (h : mX9_judgeBranch_38 N l0 l1 x = some o) : zv_V (fX9_judgeBranch d x0 o) 38 [(0, .ref l0), (1, .int l1)] [] x := by
  unfold mX9_judgeBranch_38 at h
  refine zv_iload_n (n := 1) dX9_judgeBranch_38 rfl rfl ?_
  refine zv_sipush (v := 165) dX9_judgeBranch_39 (by decide) ?_
  refine zr_icmp_eq (tgt := 59) dX9_judgeBranch_42 (by decide) h (fun c3 h => ?_) (fun c3 h => ?_)
  · exact kX9_judgeBranch_59 hd _ _ _ h
  · refine zv_iload_n (n := 1) dX9_judgeBranch_45 rfl rfl ?_
    refine zv_sipush (v := 166) dX9_judgeBranch_46 (by decide) ?_
    refine zr_icmp_eq (tgt := 59) dX9_judgeBranch_49 (by decide) h (fun c2 h => ?_) (fun c2 h => ?_)
    · exact kX9_judgeBranch_59 hd _ _ _ h
    · refine zv_iload_n (n := 1) dX9_judgeBranch_52 rfl rfl ?_
      refine zv_sipush (v := 197) dX9_judgeBranch_53 (by decide) ?_
      refine zr_icmp_le (tgt := 64) dX9_judgeBranch_56 (by decide) h (fun c1 h => ?_) (fun c1 h => ?_)
      · exact kX9_judgeBranch_64 hd _ _ _ h
      · exact kX9_judgeBranch_59 hd _ _ _ h
def mX9_judgeBranch_19 (N : Nat) (l0 : Nat) (l1 : Int32) (x : zv_X) : Option zv_X := if l1 < (159 : Int32) then (mX9_judgeBranch_38 N l0 l1 x) else (if (164 : Int32) < l1 then (mX9_judgeBranch_38 N l0 l1 x) else (if zm_k x l0 9 = true then ((mX9_pop N l0 (1 : Int32) x).bind fun o1 => mX9_judgeBranch_38 N l0 l1 o1) else none))
theorem kX9_judgeBranch_19 {d : Nat} {x0 : zv_X} {o : zv_X} (hd : 1 ≤ d) {N : Nat} (l0 : Nat) (l1 : Int32) (x : zv_X) (h : mX9_judgeBranch_19 N l0 l1 x = some o) : zv_V (fX9_judgeBranch d x0 o) 19 [(0, .ref l0), (1, .int l1)] [] x := by
  unfold mX9_judgeBranch_19 at h
  refine zv_iload_n (n := 1) dX9_judgeBranch_19 rfl rfl ?_
  refine zv_sipush (v := 159) dX9_judgeBranch_20 (by decide) ?_
  refine zr_icmp_lt (tgt := 38) dX9_judgeBranch_23 (by decide) h (fun c4 h => ?_) (fun c4 h => ?_)
  · exact kX9_judgeBranch_38 hd _ _ _ h
  · refine zv_iload_n (n := 1) dX9_judgeBranch_26 rfl rfl ?_
    refine zv_sipush (v := 164) dX9_judgeBranch_27 (by decide) ?_
    refine zr_icmp_gt (tgt := 38) dX9_judgeBranch_30 (by decide) h (fun c3 h => ?_) (fun c3 h => ?_)
    · exact kX9_judgeBranch_38 hd _ _ _ h
    · refine zv_aload_n (n := 0) dX9_judgeBranch_33 rfl rfl ?_
      refine zv_iconst (v := 1) dX9_judgeBranch_34 (by decide) ?_
      refine zr_cVv (ci := 9) (st := []) dX9_judgeBranch_35 mw_X9_pop wd_1620 wd_1622 wd_57 rfl rfl [.int (1 : Int32)] rfl rfl (Nat.le_of_ble_eq_true rfl) (show d - 1 + 1 ≤ d by omega) h (fun o1 e2 => tX9_pop (d := d - 1) (by omega) e2) (fun o1 e2 h => ?_)
      exact kX9_judgeBranch_38 hd _ _ _ h
def mX9_judgeBranch_0 (N : Nat) (l0 : Nat) (l1 : Int32) (x : zv_X) : Option zv_X := if l1 < (153 : Int32) then (mX9_judgeBranch_19 N l0 l1 x) else (if (164 : Int32) < l1 then (mX9_judgeBranch_19 N l0 l1 x) else (if zm_k x l0 9 = true then ((mX9_pop N l0 (1 : Int32) x).bind fun o1 => mX9_judgeBranch_19 N l0 l1 o1) else none))
theorem kX9_judgeBranch_0 {d : Nat} {x0 : zv_X} {o : zv_X} (hd : 1 ≤ d) {N : Nat} (l0 : Nat) (l1 : Int32) (x : zv_X) (h : mX9_judgeBranch_0 N l0 l1 x = some o) : zv_V (fX9_judgeBranch d x0 o) 0 [(0, .ref l0), (1, .int l1)] [] x := by
  unfold mX9_judgeBranch_0 at h
  refine zv_iload_n (n := 1) dX9_judgeBranch_0 rfl rfl ?_
  refine zv_sipush (v := 153) dX9_judgeBranch_1 (by decide) ?_
  refine zr_icmp_lt (tgt := 19) dX9_judgeBranch_4 (by decide) h (fun c4 h => ?_) (fun c4 h => ?_)
  · exact kX9_judgeBranch_19 hd _ _ _ h
  · refine zv_iload_n (n := 1) dX9_judgeBranch_7 rfl rfl ?_
    refine zv_sipush (v := 164) dX9_judgeBranch_8 (by decide) ?_
    refine zr_icmp_gt (tgt := 19) dX9_judgeBranch_11 (by decide) h (fun c3 h => ?_) (fun c3 h => ?_)
    · exact kX9_judgeBranch_19 hd _ _ _ h
    · refine zv_aload_n (n := 0) dX9_judgeBranch_14 rfl rfl ?_
      refine zv_iconst (v := 1) dX9_judgeBranch_15 (by decide) ?_
      refine zr_cVv (ci := 9) (st := []) dX9_judgeBranch_16 mw_X9_pop wd_1620 wd_1622 wd_57 rfl rfl [.int (1 : Int32)] rfl rfl (Nat.le_of_ble_eq_true rfl) (show d - 1 + 1 ≤ d by omega) h (fun o1 e2 => tX9_pop (d := d - 1) (by omega) e2) (fun o1 e2 h => ?_)
      exact kX9_judgeBranch_19 hd _ _ _ h
def mX9_judgeBranch (N : Nat) (a0 : Nat) (a1 : Int32) (x : zv_X) : Option zv_X := mX9_judgeBranch_0 N a0 a1 x
theorem tX9_judgeBranch {d : Nat} (hd : 1 ≤ d) {N : Nat} {x : zv_X} {a0 : Nat} {a1 : Int32} {o : zv_X} (h : mX9_judgeBranch N a0 a1 x = some o) : zv_T d yX9_judgeBranch cX9_judgeBranch 2 (none) [.ref a0, .int a1] x o none := by
  unfold mX9_judgeBranch at h
  exact zv_enter (by decide) (Nat.le_of_ble_eq_true rfl) (kX9_judgeBranch_0 hd _ _ _ h)

abbrev fX9_push (d : Nat) (x0 : zv_X) (o : zv_X) : zv_G := (d, RX9, cX9_push, 3, none, ("push", []), x0, o, zv_fin x0 o none)
def mX9_push_56 (N : Nat)  (x : zv_X) : Option zv_X := some x
theorem kX9_push_56 {d : Nat} {x0 : zv_X} {o : zv_X} (hd : 0 ≤ d) {N : Nat}  (x : zv_X) (h : mX9_push_56 N  x = some o) : zv_V (fX9_push d x0 o) 56 [] [] x := by
  unfold mX9_push_56 at h
  cases h
  exact zv_vret dX9_push_56 rfl
def mX9_push_26 (N : Nat) (l0 : Nat) (l2 : Int32) (s0 : Int32) (s1 : Nat) (x : zv_X) : Option zv_X := if s0 = 0 ∨ s0 = 1 then ((zm_p x s1 9 27 (.int s0)).bind fun x1 => (zm_I x1 l0 9 27).bind fun v3 => if v3 = 0 then (mX9_push_56 N x1) else ((zm_R x1 l0 9 24).bind fun v5 => (zm_I x1 l0 9 25).bind fun v7 => (zm_sI x1 v5 v7 l2).bind fun x9 => (zm_I x9 l0 9 25).bind fun v11 => (zm_p x9 l0 9 25 (.int (v11 + (1 : Int32)))).bind fun x13 => mX9_push_56 N x13)) else none
theorem kX9_push_26 {d : Nat} {x0 : zv_X} {o : zv_X} (hd : 0 ≤ d) {N : Nat} (l0 : Nat) (l2 : Int32) (s0 : Int32) (s1 : Nat) (x : zv_X) (h : mX9_push_26 N l0 l2 s0 s1 x = some o) : zv_V (fX9_push d x0 o) 26 [(0, .ref l0), (2, .int l2)] [.int s0, .ref s1] x := by
  unfold mX9_push_26 at h
  refine zr_pZ dX9_push_26 fl_1430 (fun q => nomatch q) h (fun x1 e2 h => ?_)
  refine zv_aload_n (n := 0) dX9_push_29 rfl rfl ?_
  refine zr_gI dX9_push_30 fg_1430 h (fun v3 e4 h => ?_)
  refine zr_if_eq (tgt := 56) dX9_push_33 (by decide) h (fun c15 h => ?_) (fun c15 h => ?_)
  · exact zv_fewer [] rfl (kX9_push_56 hd _ h)
  · refine zv_aload_n (n := 0) dX9_push_36 rfl rfl ?_
    refine zr_gR dX9_push_37 fg_1427 h (fun v5 e6 h => ?_)
    refine zv_aload_n (n := 0) dX9_push_40 rfl rfl ?_
    refine zr_gI dX9_push_41 fg_1428 h (fun v7 e8 h => ?_)
    refine zv_iload_n (n := 1) dX9_push_44 rfl rfl ?_
    refine zr_sI dX9_push_45 h (fun x9 e10 h => ?_)
    refine zv_aload_n (n := 0) dX9_push_46 rfl rfl ?_
    refine zv_dup dX9_push_47 rfl ?_
    refine zr_gI dX9_push_48 fg_1428 h (fun v11 e12 h => ?_)
    refine zv_iconst (v := 1) dX9_push_51 (by decide) ?_
    refine zv_iadd dX9_push_52 ?_
    refine zr_p dX9_push_53 fl_1428 (fun q => nomatch q) rfl rfl h (fun x13 e14 h => ?_)
    exact zv_fewer [] rfl (kX9_push_56 hd _ h)
def mX9_push_25 (N : Nat) (l0 : Nat) (l2 : Int32) (s0 : Nat) (x : zv_X) : Option zv_X := mX9_push_26 N l0 l2 (0 : Int32) s0 x
theorem kX9_push_25 {d : Nat} {x0 : zv_X} {o : zv_X} (hd : 0 ≤ d) {N : Nat} (l0 : Nat) (l2 : Int32) (s0 : Nat) (x : zv_X) (h : mX9_push_25 N l0 l2 s0 x = some o) : zv_V (fX9_push d x0 o) 25 [(0, .ref l0), (2, .int l2)] [.ref s0] x := by
  unfold mX9_push_25 at h
  refine zv_iconst (v := 0) dX9_push_25 (by decide) ?_
  exact kX9_push_26 hd _ _ _ _ _ h
def mX9_push_0 (N : Nat) (l0 : Nat) (l1 : Int32) (l2 : Int32) (x : zv_X) : Option zv_X := (zm_I x l0 9 27).bind fun v1 => if v1 = 0 then (mX9_push_25 N l0 l2 l0 x) else ((zm_I x l0 9 25).bind fun v3 => (zm_R x l0 9 15).bind fun v5 => (zm_aI x v5 l1).bind fun v7 => if v7 ≤ v3 then (mX9_push_25 N l0 l2 l0 x) else (mX9_push_26 N l0 l2 (1 : Int32) l0 x))
theorem kX9_push_0 {d : Nat} {x0 : zv_X} {o : zv_X} (hd : 0 ≤ d) {N : Nat} (l0 : Nat) (l1 : Int32) (l2 : Int32) (x : zv_X) (h : mX9_push_0 N l0 l1 l2 x = some o) : zv_V (fX9_push d x0 o) 0 [(0, .ref l0), (1, .int l1), (2, .int l2)] [] x := by
  unfold mX9_push_0 at h
  refine zv_aload_n (n := 0) dX9_push_0 rfl rfl ?_
  refine zv_aload_n (n := 0) dX9_push_1 rfl rfl ?_
  refine zr_gI dX9_push_2 fg_1430 h (fun v1 e2 h => ?_)
  refine zr_if_eq (tgt := 25) dX9_push_5 (by decide) h (fun c10 h => ?_) (fun c10 h => ?_)
  · exact zv_fewer [0, 2] rfl (kX9_push_25 hd _ _ _ _ h)
  · refine zv_aload_n (n := 0) dX9_push_8 rfl rfl ?_
    refine zr_gI dX9_push_9 fg_1428 h (fun v3 e4 h => ?_)
    refine zv_aload_n (n := 0) dX9_push_12 rfl rfl ?_
    refine zr_gR dX9_push_13 fg_1418 h (fun v5 e6 h => ?_)
    refine zv_iload_n (n := 1) dX9_push_16 rfl rfl ?_
    refine zr_aI dX9_push_17 h (fun v7 e8 h => ?_)
    refine zr_icmp_ge (tgt := 25) dX9_push_18 (by decide) h (fun c9 h => ?_) (fun c9 h => ?_)
    · exact zv_fewer [0, 2] rfl (kX9_push_25 hd _ _ _ _ h)
    · refine zv_iconst (v := 1) dX9_push_21 (by decide) ?_
      refine zv_goto (tgt := 26) dX9_push_22 (by decide) ?_
      exact zv_fewer [0, 2] rfl (kX9_push_26 hd _ _ _ _ _ h)
def mX9_push (N : Nat) (a0 : Nat) (a1 : Int32) (a2 : Int32) (x : zv_X) : Option zv_X := mX9_push_0 N a0 a1 a2 x
theorem tX9_push {d : Nat} (hd : 0 ≤ d) {N : Nat} {x : zv_X} {a0 : Nat} {a1 : Int32} {a2 : Int32} {o : zv_X} (h : mX9_push N a0 a1 a2 x = some o) : zv_T d yX9_push cX9_push 3 (none) [.ref a0, .int a1, .int a2] x o none := by
  unfold mX9_push at h
  exact zv_enter (by decide) (Nat.le_of_ble_eq_true rfl) (kX9_push_0 hd _ _ _ _ h)

abbrev fX9_judgeLoad (d : Nat) (x0 : zv_X) (o : zv_X) : zv_G := (d, RX9, cX9_judgeLoad, 5, none, ("judgeLoad", []), x0, o, zv_fin x0 o none)
def mX9_judgeLoad_95 (N : Nat) (l0 : Nat) (l1 : Int32) (l4 : Int32) (s0 : Int32) (s1 : Nat) (x : zv_X) : Option zv_X := if s0 = 0 ∨ s0 = 1 then ((zm_p x s1 9 27 (.int s0)).bind fun x1 => if zm_k x1 l0 9 = true then ((mX9_push N l0 l1 l4 x1).bind fun o3 => some o3) else none) else none
theorem kX9_judgeLoad_95 {d : Nat} {x0 : zv_X} {o : zv_X} (hd : 1 ≤ d) {N : Nat} (l0 : Nat) (l1 : Int32) (l4 : Int32) (s0 : Int32) (s1 : Nat) (x : zv_X) (h : mX9_judgeLoad_95 N l0 l1 l4 s0 s1 x = some o) : zv_V (fX9_judgeLoad d x0 o) 95 [(0, .ref l0), (1, .int l1), (4, .int l4)] [.int s0, .ref s1] x := by
  unfold mX9_judgeLoad_95 at h
  refine zr_pZ dX9_judgeLoad_95 fl_1430 (fun q => nomatch q) h (fun x1 e2 h => ?_)
  refine zv_aload_n (n := 0) dX9_judgeLoad_98 rfl rfl ?_
  refine zv_iload_n (n := 1) dX9_judgeLoad_99 rfl rfl ?_
  refine zv_iload (n := 2) dX9_judgeLoad_100 rfl ?_
  refine zr_cVv (ci := 9) (st := []) dX9_judgeLoad_102 mw_X9_push wd_1605 wd_1607 wd_54 rfl rfl [.int l1, .int l4] rfl rfl (Nat.le_of_ble_eq_true rfl) (show d - 1 + 1 ≤ d by omega) h (fun o3 e4 => tX9_push (d := d - 1) (by omega) e4) (fun o3 e4 h => ?_)
  cases h
  exact zv_vret dX9_judgeLoad_105 rfl
def mX9_judgeLoad_94 (N : Nat) (l0 : Nat) (l1 : Int32) (l4 : Int32) (s0 : Nat) (x : zv_X) : Option zv_X := mX9_judgeLoad_95 N l0 l1 l4 (0 : Int32) s0 x
theorem kX9_judgeLoad_94 {d : Nat} {x0 : zv_X} {o : zv_X} (hd : 1 ≤ d) {N : Nat} (l0 : Nat) (l1 : Int32) (l4 : Int32) (s0 : Nat) (x : zv_X) (h : mX9_judgeLoad_94 N l0 l1 l4 s0 x = some o) : zv_V (fX9_judgeLoad d x0 o) 94 [(0, .ref l0), (1, .int l1), (4, .int l4)] [.ref s0] x := by
  unfold mX9_judgeLoad_94 at h
  refine zv_iconst (v := 0) dX9_judgeLoad_94 (by decide) ?_
  exact kX9_judgeLoad_95 hd _ _ _ _ _ _ h
def mX9_judgeLoad_59 (N : Nat) (l0 : Nat) (l1 : Int32) (l3 : Int32) (s0 : Int32) (x : zv_X) : Option zv_X := (zm_I x l0 9 27).bind fun v1 => if v1 = 0 then (mX9_judgeLoad_94 N l0 l1 s0 l0 x) else ((zm_R x l0 9 14).bind fun v3 => (zm_aI x v3 l1).bind fun v5 => if v5 ≤ l3 then (mX9_judgeLoad_94 N l0 l1 s0 l0 x) else ((zm_R x l0 9 26).bind fun v7 => (zm_aI x v7 l3).bind fun v9 => if v9 = s0 then (mX9_judgeLoad_95 N l0 l1 s0 (1 : Int32) l0 x) else (mX9_judgeLoad_94 N l0 l1 s0 l0 x)))
theorem kX9_judgeLoad_59 {d : Nat} {x0 : zv_X} {o : zv_X} (hd : 1 ≤ d) {N : Nat} (l0 : Nat) (l1 : Int32) (l3 : Int32) (s0 : Int32) (x : zv_X) (h : mX9_judgeLoad_59 N l0 l1 l3 s0 x = some o) : zv_V (fX9_judgeLoad d x0 o) 59 [(0, .ref l0), (1, .int l1), (3, .int l3)] [.int s0] x := by
  unfold mX9_judgeLoad_59 at h
  refine zv_istore (L' := [(4, .int s0), (0, .ref l0), (1, .int l1), (3, .int l3)]) dX9_judgeLoad_59 (Nat.le_of_ble_eq_true rfl) rfl ?_
  refine zv_aload_n (n := 1) dX9_judgeLoad_61 rfl rfl ?_
  refine zv_aload_n (n := 1) dX9_judgeLoad_62 rfl rfl ?_
  refine zr_gI dX9_judgeLoad_63 fg_1430 h (fun v1 e2 h => ?_)
  refine zr_if_eq (tgt := 94) dX9_judgeLoad_66 (by decide) h (fun c13 h => ?_) (fun c13 h => ?_)
  · exact zv_fewer [1, 2, 0] rfl (kX9_judgeLoad_94 hd _ _ _ _ _ h)
  · refine zv_iload_n (n := 3) dX9_judgeLoad_69 rfl rfl ?_
    refine zv_aload_n (n := 1) dX9_judgeLoad_70 rfl rfl ?_
    refine zr_gR dX9_judgeLoad_71 fg_1417 h (fun v3 e4 h => ?_)
    refine zv_iload_n (n := 2) dX9_judgeLoad_74 rfl rfl ?_
    refine zr_aI dX9_judgeLoad_75 h (fun v5 e6 h => ?_)
    refine zr_icmp_ge (tgt := 94) dX9_judgeLoad_76 (by decide) h (fun c12 h => ?_) (fun c12 h => ?_)
    · exact zv_fewer [1, 2, 0] rfl (kX9_judgeLoad_94 hd _ _ _ _ _ h)
    · refine zv_aload_n (n := 1) dX9_judgeLoad_79 rfl rfl ?_
      refine zr_gR dX9_judgeLoad_80 fg_1429 h (fun v7 e8 h => ?_)
      refine zv_iload_n (n := 3) dX9_judgeLoad_83 rfl rfl ?_
      refine zr_aI dX9_judgeLoad_84 h (fun v9 e10 h => ?_)
      refine zv_iload (n := 0) dX9_judgeLoad_85 rfl ?_
      refine zr_icmp_ne (tgt := 94) dX9_judgeLoad_87 (by decide) h (fun c11 h => ?_) (fun c11 h => ?_)
      · exact zv_fewer [1, 2, 0] rfl (kX9_judgeLoad_94 hd _ _ _ _ _ h)
      · refine zv_iconst (v := 1) dX9_judgeLoad_90 (by decide) ?_
        refine zv_goto (tgt := 95) dX9_judgeLoad_91 (by decide) ?_
        exact zv_fewer [1, 2, 0] rfl (kX9_judgeLoad_95 hd _ _ _ _ _ _ h)
def mX9_judgeLoad_34 (N : Nat) (s0 : Int32) (s1 : Int32) (s2 : Nat) (x : zv_X) : Option zv_X := if zm_k x s2 9 = true then ((mX9_push N s2 s1 s0 x).bind fun o1 => some o1) else none
theorem kX9_judgeLoad_34 {d : Nat} {x0 : zv_X} {o : zv_X} (hd : 1 ≤ d) {N : Nat} (s0 : Int32) (s1 : Int32) (s2 : Nat) (x : zv_X) (h : mX9_judgeLoad_34 N s0 s1 s2 x = some o) : zv_V (fX9_judgeLoad d x0 o) 34 [] [.int s0, .int s1, .ref s2] x := by
  unfold mX9_judgeLoad_34 at h
  refine zr_cVv (ci := 9) (st := []) dX9_judgeLoad_34 mw_X9_push wd_1605 wd_1607 wd_54 rfl rfl [.int s1, .int s0] rfl rfl (Nat.le_of_ble_eq_true rfl) (show d - 1 + 1 ≤ d by omega) h (fun o1 e2 => tX9_push (d := d - 1) (by omega) e2) (fun o1 e2 h => ?_)
  cases h
  exact zv_vret dX9_judgeLoad_37 rfl
def mX9_judgeLoad_29 (N : Nat) (s0 : Int32) (s1 : Nat) (x : zv_X) : Option zv_X := mX9_judgeLoad_34 N (2 : Int32) s0 s1 x
theorem kX9_judgeLoad_29 {d : Nat} {x0 : zv_X} {o : zv_X} (hd : 1 ≤ d) {N : Nat} (s0 : Int32) (s1 : Nat) (x : zv_X) (h : mX9_judgeLoad_29 N s0 s1 x = some o) : zv_V (fX9_judgeLoad d x0 o) 29 [] [.int s0, .ref s1] x := by
  unfold mX9_judgeLoad_29 at h
  refine zv_iconst (v := 2) dX9_judgeLoad_29 (by decide) ?_
  refine zv_goto (tgt := 34) dX9_judgeLoad_30 (by decide) ?_
  exact kX9_judgeLoad_34 hd _ _ _ _ h
def mX9_judgeLoad_0 (N : Nat) (l0 : Nat) (l1 : Int32) (l2 : Int32) (l3 : Int32) (x : zv_X) : Option zv_X := if (21 : Int32) ≤ l2 then (if l2 = (21 : Int32) then (mX9_judgeLoad_59 N l0 l1 l3 (1 : Int32) x) else (if l2 = (22 : Int32) then (mX9_judgeLoad_59 N l0 l1 l3 (2 : Int32) x) else (mX9_judgeLoad_59 N l0 l1 l3 (3 : Int32) x))) else (if l2 = (1 : Int32) then (mX9_judgeLoad_34 N (3 : Int32) l1 l0 x) else (if l2 = (9 : Int32) then (mX9_judgeLoad_29 N l1 l0 x) else (if l2 = (10 : Int32) then (mX9_judgeLoad_29 N l1 l0 x) else (mX9_judgeLoad_34 N (1 : Int32) l1 l0 x))))
theorem kX9_judgeLoad_0 {d : Nat} {x0 : zv_X} {o : zv_X} (hd : 1 ≤ d) {N : Nat} (l0 : Nat) (l1 : Int32) (l2 : Int32) (l3 : Int32) (x : zv_X) (h : mX9_judgeLoad_0 N l0 l1 l2 l3 x = some o) : zv_V (fX9_judgeLoad d x0 o) 0 [(0, .ref l0), (1, .int l1), (2, .int l2), (3, .int l3)] [] x := by
  unfold mX9_judgeLoad_0 at h
  refine zv_iload_n (n := 2) dX9_judgeLoad_0 rfl rfl ?_
  refine zv_bipush (v := 21) dX9_judgeLoad_1 (by decide) ?_
  refine zr_icmp_ge (tgt := 38) dX9_judgeLoad_3 (by decide) h (fun c6 h => ?_) (fun c6 h => ?_)
  · refine zv_iload_n (n := 2) dX9_judgeLoad_38 rfl rfl ?_
    refine zv_bipush (v := 21) dX9_judgeLoad_39 (by decide) ?_
    refine zr_icmp_ne (tgt := 48) dX9_judgeLoad_41 (by decide) h (fun c2 h => ?_) (fun c2 h => ?_)
    · refine zv_iload_n (n := 2) dX9_judgeLoad_48 rfl rfl ?_
      refine zv_bipush (v := 22) dX9_judgeLoad_49 (by decide) ?_
      refine zr_icmp_ne (tgt := 58) dX9_judgeLoad_51 (by decide) h (fun c1 h => ?_) (fun c1 h => ?_)
      · refine zv_iconst (v := 3) dX9_judgeLoad_58 (by decide) ?_
        exact zv_fewer [0, 1, 3] rfl (kX9_judgeLoad_59 hd _ _ _ _ _ h)
      · refine zv_iconst (v := 2) dX9_judgeLoad_54 (by decide) ?_
        refine zv_goto (tgt := 59) dX9_judgeLoad_55 (by decide) ?_
        exact zv_fewer [0, 1, 3] rfl (kX9_judgeLoad_59 hd _ _ _ _ _ h)
    · refine zv_iconst (v := 1) dX9_judgeLoad_44 (by decide) ?_
      refine zv_goto (tgt := 59) dX9_judgeLoad_45 (by decide) ?_
      exact zv_fewer [0, 1, 3] rfl (kX9_judgeLoad_59 hd _ _ _ _ _ h)
  · refine zv_aload_n (n := 0) dX9_judgeLoad_6 rfl rfl ?_
    refine zv_iload_n (n := 1) dX9_judgeLoad_7 rfl rfl ?_
    refine zv_iload_n (n := 2) dX9_judgeLoad_8 rfl rfl ?_
    refine zv_iconst (v := 1) dX9_judgeLoad_9 (by decide) ?_
    refine zr_icmp_ne (tgt := 17) dX9_judgeLoad_10 (by decide) h (fun c5 h => ?_) (fun c5 h => ?_)
    · refine zv_iload_n (n := 2) dX9_judgeLoad_17 rfl rfl ?_
      refine zv_bipush (v := 9) dX9_judgeLoad_18 (by decide) ?_
      refine zr_icmp_eq (tgt := 29) dX9_judgeLoad_20 (by decide) h (fun c4 h => ?_) (fun c4 h => ?_)
      · exact zv_fewer [] rfl (kX9_judgeLoad_29 hd _ _ _ h)
      · refine zv_iload_n (n := 2) dX9_judgeLoad_23 rfl rfl ?_
        refine zv_bipush (v := 10) dX9_judgeLoad_24 (by decide) ?_
        refine zr_icmp_ne (tgt := 33) dX9_judgeLoad_26 (by decide) h (fun c3 h => ?_) (fun c3 h => ?_)
        · refine zv_iconst (v := 1) dX9_judgeLoad_33 (by decide) ?_
          exact zv_fewer [] rfl (kX9_judgeLoad_34 hd _ _ _ _ h)
        · exact zv_fewer [] rfl (kX9_judgeLoad_29 hd _ _ _ h)
    · refine zv_iconst (v := 3) dX9_judgeLoad_13 (by decide) ?_
      refine zv_goto (tgt := 34) dX9_judgeLoad_14 (by decide) ?_
      exact zv_fewer [] rfl (kX9_judgeLoad_34 hd _ _ _ _ h)
def mX9_judgeLoad (N : Nat) (a0 : Nat) (a1 : Int32) (a2 : Int32) (a3 : Int32) (x : zv_X) : Option zv_X := mX9_judgeLoad_0 N a0 a1 a2 a3 x
theorem tX9_judgeLoad {d : Nat} (hd : 1 ≤ d) {N : Nat} {x : zv_X} {a0 : Nat} {a1 : Int32} {a2 : Int32} {a3 : Int32} {o : zv_X} (h : mX9_judgeLoad N a0 a1 a2 a3 x = some o) : zv_T d yX9_judgeLoad cX9_judgeLoad 5 (none) [.ref a0, .int a1, .int a2, .int a3] x o none := by
  unfold mX9_judgeLoad at h
  exact zv_enter (by decide) (Nat.le_of_ble_eq_true rfl) (kX9_judgeLoad_0 hd _ _ _ _ _ h)

abbrev fX9_judgeReckoning (d : Nat) (x0 : zv_X) (o : zv_X) : zv_G := (d, RX9, cX9_judgeReckoning, 6, none, ("judgeReckoning", []), x0, o, zv_fin x0 o none)
def mX9_judgeReckoning_207 (N : Nat)  (x : zv_X) : Option zv_X := some x
theorem kX9_judgeReckoning_207 {d : Nat} {x0 : zv_X} {o : zv_X} (hd : 1 ≤ d) {N : Nat}  (x : zv_X) (h : mX9_judgeReckoning_207 N  x = some o) : zv_V (fX9_judgeReckoning d x0 o) 207 [] [] x := by
  unfold mX9_judgeReckoning_207 at h
  cases h
  exact zv_vret dX9_judgeReckoning_207 rfl
def mX9_judgeReckoning_194 (N : Nat) (l0 : Nat) (l1 : Int32) (l4 : Int32) (x : zv_X) : Option zv_X := if zm_k x l0 9 = true then ((mX9_pop N l0 l4 x).bind fun o1 => if zm_k o1 l0 9 = true then ((mX9_push N l0 l1 l4 o1).bind fun o3 => mX9_judgeReckoning_207 N o3) else none) else none
theorem kX9_judgeReckoning_194 {d : Nat} {x0 : zv_X} {o : zv_X} (hd : 1 ≤ d) {N : Nat} (l0 : Nat) (l1 : Int32) (l4 : Int32) (x : zv_X) (h : mX9_judgeReckoning_194 N l0 l1 l4 x = some o) : zv_V (fX9_judgeReckoning d x0 o) 194 [(0, .ref l0), (1, .int l1), (4, .int l4)] [] x := by
  unfold mX9_judgeReckoning_194 at h
  refine zv_aload_n (n := 0) dX9_judgeReckoning_194 rfl rfl ?_
  refine zv_iload (n := 2) dX9_judgeReckoning_195 rfl ?_
  refine zr_cVv (ci := 9) (st := []) dX9_judgeReckoning_197 mw_X9_pop wd_1620 wd_1622 wd_57 rfl rfl [.int l4] rfl rfl (Nat.le_of_ble_eq_true rfl) (show d - 1 + 1 ≤ d by omega) h (fun o1 e2 => tX9_pop (d := d - 1) (by omega) e2) (fun o1 e2 h => ?_)
  refine zv_aload_n (n := 0) dX9_judgeReckoning_200 rfl rfl ?_
  refine zv_iload_n (n := 1) dX9_judgeReckoning_201 rfl rfl ?_
  refine zv_iload (n := 2) dX9_judgeReckoning_202 rfl ?_
  refine zr_cVv (ci := 9) (st := []) dX9_judgeReckoning_204 mw_X9_push wd_1605 wd_1607 wd_54 rfl rfl [.int l1, .int l4] rfl rfl (Nat.le_of_ble_eq_true rfl) (show d - 1 + 1 ≤ d by omega) h (fun o3 e4 => tX9_push (d := d - 1) (by omega) e4) (fun o3 e4 h => ?_)
  exact zv_fewer [] rfl (kX9_judgeReckoning_207 hd _ h)
def mX9_judgeReckoning_191 (N : Nat) (l0 : Nat) (l1 : Int32) (l4 : Int32) (s0 : Int32) (s1 : Nat) (x : zv_X) : Option zv_X := if zm_k x s1 9 = true then ((mX9_pop N s1 s0 x).bind fun o1 => mX9_judgeReckoning_194 N l0 l1 l4 o1) else none
theorem kX9_judgeReckoning_191 {d : Nat} {x0 : zv_X} {o : zv_X} (hd : 1 ≤ d) {N : Nat} (l0 : Nat) (l1 : Int32) (l4 : Int32) (s0 : Int32) (s1 : Nat) (x : zv_X) (h : mX9_judgeReckoning_191 N l0 l1 l4 s0 s1 x = some o) : zv_V (fX9_judgeReckoning d x0 o) 191 [(0, .ref l0), (1, .int l1), (4, .int l4)] [.int s0, .ref s1] x := by
  unfold mX9_judgeReckoning_191 at h
  refine zr_cVv (ci := 9) (st := []) dX9_judgeReckoning_191 mw_X9_pop wd_1620 wd_1622 wd_57 rfl rfl [.int s0] rfl rfl (Nat.le_of_ble_eq_true rfl) (show d - 1 + 1 ≤ d by omega) h (fun o1 e2 => tX9_pop (d := d - 1) (by omega) e2) (fun o1 e2 h => ?_)
  exact kX9_judgeReckoning_194 hd _ _ _ _ h
def mX9_judgeReckoning_179 (N : Nat) (l0 : Nat) (l1 : Int32) (l4 : Int32) (l5 : Int32) (x : zv_X) : Option zv_X := if l5 = 0 then (mX9_judgeReckoning_191 N l0 l1 l4 l4 l0 x) else (mX9_judgeReckoning_191 N l0 l1 l4 (1 : Int32) l0 x)
theorem kX9_judgeReckoning_179 {d : Nat} {x0 : zv_X} {o : zv_X} (hd : 1 ≤ d) {N : Nat} (l0 : Nat) (l1 : Int32) (l4 : Int32) (l5 : Int32) (x : zv_X) (h : mX9_judgeReckoning_179 N l0 l1 l4 l5 x = some o) : zv_V (fX9_judgeReckoning d x0 o) 179 [(0, .ref l0), (1, .int l1), (4, .int l4), (5, .int l5)] [] x := by
  unfold mX9_judgeReckoning_179 at h
  refine zv_aload_n (n := 0) dX9_judgeReckoning_179 rfl rfl ?_
  refine zv_iload (n := 3) dX9_judgeReckoning_180 rfl ?_
  refine zr_if_eq (tgt := 189) dX9_judgeReckoning_182 (by decide) h (fun c1 h => ?_) (fun c1 h => ?_)
  · refine zv_iload (n := 2) dX9_judgeReckoning_189 rfl ?_
    exact zv_fewer [0, 1, 2] rfl (kX9_judgeReckoning_191 hd _ _ _ _ _ _ h)
  · refine zv_iconst (v := 1) dX9_judgeReckoning_185 (by decide) ?_
    refine zv_goto (tgt := 191) dX9_judgeReckoning_186 (by decide) ?_
    exact zv_fewer [0, 1, 2] rfl (kX9_judgeReckoning_191 hd _ _ _ _ _ _ h)
def mX9_judgeReckoning_165 (N : Nat) (l0 : Nat) (l1 : Int32) (l2 : Int32) (l4 : Int32) (s0 : Int32) (x : zv_X) : Option zv_X := if l2 < (116 : Int32) then (mX9_judgeReckoning_179 N l0 l1 l4 s0 x) else (if l2 ≤ (117 : Int32) then (mX9_judgeReckoning_194 N l0 l1 l4 x) else (mX9_judgeReckoning_179 N l0 l1 l4 s0 x))
theorem kX9_judgeReckoning_165 {d : Nat} {x0 : zv_X} {o : zv_X} (hd : 1 ≤ d) {N : Nat} (l0 : Nat) (l1 : Int32) (l2 : Int32) (l4 : Int32) (s0 : Int32) (x : zv_X) (h : mX9_judgeReckoning_165 N l0 l1 l2 l4 s0 x = some o) : zv_V (fX9_judgeReckoning d x0 o) 165 [(0, .ref l0), (1, .int l1), (2, .int l2), (4, .int l4)] [.int s0] x := by
  unfold mX9_judgeReckoning_165 at h
  refine zv_istore (L' := [(5, .int s0), (0, .ref l0), (1, .int l1), (2, .int l2), (4, .int l4)]) dX9_judgeReckoning_165 (Nat.le_of_ble_eq_true rfl) rfl ?_
  refine zv_iload_n (n := 3) dX9_judgeReckoning_167 rfl rfl ?_
  refine zv_bipush (v := 116) dX9_judgeReckoning_168 (by decide) ?_
  refine zr_icmp_lt (tgt := 179) dX9_judgeReckoning_170 (by decide) h (fun c2 h => ?_) (fun c2 h => ?_)
  · exact zv_fewer [1, 2, 4, 0] rfl (kX9_judgeReckoning_179 hd _ _ _ _ _ h)
  · refine zv_iload_n (n := 3) dX9_judgeReckoning_173 rfl rfl ?_
    refine zv_bipush (v := 117) dX9_judgeReckoning_174 (by decide) ?_
    refine zr_icmp_le (tgt := 194) dX9_judgeReckoning_176 (by decide) h (fun c1 h => ?_) (fun c1 h => ?_)
    · exact zv_fewer [1, 2, 4] rfl (kX9_judgeReckoning_194 hd _ _ _ _ h)
    · exact zv_fewer [1, 2, 4, 0] rfl (kX9_judgeReckoning_179 hd _ _ _ _ _ h)
def mX9_judgeReckoning_164 (N : Nat) (l0 : Nat) (l1 : Int32) (l2 : Int32) (l4 : Int32) (x : zv_X) : Option zv_X := mX9_judgeReckoning_165 N l0 l1 l2 l4 (0 : Int32) x
theorem kX9_judgeReckoning_164 {d : Nat} {x0 : zv_X} {o : zv_X} (hd : 1 ≤ d) {N : Nat} (l0 : Nat) (l1 : Int32) (l2 : Int32) (l4 : Int32) (x : zv_X) (h : mX9_judgeReckoning_164 N l0 l1 l2 l4 x = some o) : zv_V (fX9_judgeReckoning d x0 o) 164 [(0, .ref l0), (1, .int l1), (2, .int l2), (4, .int l4)] [] x := by
  unfold mX9_judgeReckoning_164 at h
  refine zv_iconst (v := 0) dX9_judgeReckoning_164 (by decide) ?_
  exact kX9_judgeReckoning_165 hd _ _ _ _ _ _ h
def mX9_judgeReckoning_146 (N : Nat) (l0 : Nat) (l1 : Int32) (l2 : Int32) (s0 : Int32) (x : zv_X) : Option zv_X := if l2 < (120 : Int32) then (mX9_judgeReckoning_164 N l0 l1 l2 s0 x) else (if (125 : Int32) < l2 then (mX9_judgeReckoning_164 N l0 l1 l2 s0 x) else (mX9_judgeReckoning_165 N l0 l1 l2 s0 (1 : Int32) x))
theorem kX9_judgeReckoning_146 {d : Nat} {x0 : zv_X} {o : zv_X} (hd : 1 ≤ d) {N : Nat} (l0 : Nat) (l1 : Int32) (l2 : Int32) (s0 : Int32) (x : zv_X) (h : mX9_judgeReckoning_146 N l0 l1 l2 s0 x = some o) : zv_V (fX9_judgeReckoning d x0 o) 146 [(0, .ref l0), (1, .int l1), (2, .int l2)] [.int s0] x := by
  unfold mX9_judgeReckoning_146 at h
  refine zv_istore (L' := [(4, .int s0), (0, .ref l0), (1, .int l1), (2, .int l2)]) dX9_judgeReckoning_146 (Nat.le_of_ble_eq_true rfl) rfl ?_
  refine zv_iload_n (n := 3) dX9_judgeReckoning_148 rfl rfl ?_
  refine zv_bipush (v := 120) dX9_judgeReckoning_149 (by decide) ?_
  refine zr_icmp_lt (tgt := 164) dX9_judgeReckoning_151 (by decide) h (fun c2 h => ?_) (fun c2 h => ?_)
  · exact zv_fewer [1, 2, 3, 0] rfl (kX9_judgeReckoning_164 hd _ _ _ _ _ h)
  · refine zv_iload_n (n := 3) dX9_judgeReckoning_154 rfl rfl ?_
    refine zv_bipush (v := 125) dX9_judgeReckoning_155 (by decide) ?_
    refine zr_icmp_gt (tgt := 164) dX9_judgeReckoning_157 (by decide) h (fun c1 h => ?_) (fun c1 h => ?_)
    · exact zv_fewer [1, 2, 3, 0] rfl (kX9_judgeReckoning_164 hd _ _ _ _ _ h)
    · refine zv_iconst (v := 1) dX9_judgeReckoning_160 (by decide) ?_
      refine zv_goto (tgt := 165) dX9_judgeReckoning_161 (by decide) ?_
      exact zv_fewer [1, 2, 3, 0] rfl (kX9_judgeReckoning_165 hd _ _ _ _ _ _ h)
def mX9_judgeReckoning_40 (N : Nat) (s0 : Int32) (s1 : Nat) (x : zv_X) : Option zv_X := if s0 = 0 ∨ s0 = 1 then ((zm_p x s1 9 27 (.int s0)).bind fun x1 => mX9_judgeReckoning_207 N x1) else none
theorem kX9_judgeReckoning_40 {d : Nat} {x0 : zv_X} {o : zv_X} (hd : 1 ≤ d) {N : Nat} (s0 : Int32) (s1 : Nat) (x : zv_X) (h : mX9_judgeReckoning_40 N s0 s1 x = some o) : zv_V (fX9_judgeReckoning d x0 o) 40 [] [.int s0, .ref s1] x := by
  unfold mX9_judgeReckoning_40 at h
  refine zr_pZ dX9_judgeReckoning_40 fl_1430 (fun q => nomatch q) h (fun x1 e2 h => ?_)
  refine zv_goto (tgt := 207) dX9_judgeReckoning_43 (by decide) ?_
  exact kX9_judgeReckoning_207 hd _ h
def mX9_judgeReckoning_39 (N : Nat) (s0 : Nat) (x : zv_X) : Option zv_X := mX9_judgeReckoning_40 N (0 : Int32) s0 x
theorem kX9_judgeReckoning_39 {d : Nat} {x0 : zv_X} {o : zv_X} (hd : 1 ≤ d) {N : Nat} (s0 : Nat) (x : zv_X) (h : mX9_judgeReckoning_39 N s0 x = some o) : zv_V (fX9_judgeReckoning d x0 o) 39 [] [.ref s0] x := by
  unfold mX9_judgeReckoning_39 at h
  refine zv_iconst (v := 0) dX9_judgeReckoning_39 (by decide) ?_
  exact kX9_judgeReckoning_40 hd _ _ _ h
def mX9_judgeReckoning_0 (N : Nat) (l0 : Nat) (l1 : Int32) (l2 : Int32) (l3 : Int32) (x : zv_X) : Option zv_X := if l2 = (132 : Int32) then ((zm_I x l0 9 27).bind fun v24 => if v24 = 0 then (mX9_judgeReckoning_39 N l0 x) else ((zm_R x l0 9 14).bind fun v26 => (zm_aI x v26 l1).bind fun v28 => if v28 ≤ l3 then (mX9_judgeReckoning_39 N l0 x) else ((zm_R x l0 9 26).bind fun v30 => (zm_aI x v30 l3).bind fun v32 => if v32 = (1 : Int32) then (mX9_judgeReckoning_40 N (1 : Int32) l0 x) else (mX9_judgeReckoning_39 N l0 x)))) else (if l2 = (133 : Int32) then (if zm_k x l0 9 = true then ((mX9_pop N l0 (1 : Int32) x).bind fun o19 => if zm_k o19 l0 9 = true then ((mX9_push N l0 l1 (2 : Int32) o19).bind fun o21 => mX9_judgeReckoning_207 N o21) else none) else none) else (if l2 = (136 : Int32) then (if zm_k x l0 9 = true then ((mX9_pop N l0 (2 : Int32) x).bind fun o14 => if zm_k o14 l0 9 = true then ((mX9_push N l0 l1 (1 : Int32) o14).bind fun o16 => mX9_judgeReckoning_207 N o16) else none) else none) else (if l2 = (148 : Int32) then (if zm_k x l0 9 = true then ((mX9_pop N l0 (2 : Int32) x).bind fun o7 => if zm_k o7 l0 9 = true then ((mX9_pop N l0 (2 : Int32) o7).bind fun o9 => if zm_k o9 l0 9 = true then ((mX9_push N l0 l1 (1 : Int32) o9).bind fun o11 => mX9_judgeReckoning_207 N o11) else none) else none) else none) else (if l2 ≤ (144 : Int32) then (if (l2 - l2 / (2 : Int32) * (2 : Int32)) = 0 then (mX9_judgeReckoning_146 N l0 l1 l2 (1 : Int32) x) else (mX9_judgeReckoning_146 N l0 l1 l2 (2 : Int32) x)) else (if zm_k x l0 9 = true then ((mX9_pop N l0 (1 : Int32) x).bind fun o2 => if zm_k o2 l0 9 = true then ((mX9_push N l0 l1 (1 : Int32) o2).bind fun o4 => mX9_judgeReckoning_207 N o4) else none) else none)))))
theorem kX9_judgeReckoning_0 {d : Nat} {x0 : zv_X} {o : zv_X} (hd : 1 ≤ d) {N : Nat} (l0 : Nat) (l1 : Int32) (l2 : Int32) (l3 : Int32) (x : zv_X) (h : mX9_judgeReckoning_0 N l0 l1 l2 l3 x = some o) : zv_V (fX9_judgeReckoning d x0 o) 0 [(0, .ref l0), (1, .int l1), (2, .int l2), (3, .int l3)] [] x := by
  unfold mX9_judgeReckoning_0 at h
  refine zv_iload_n (n := 2) dX9_judgeReckoning_0 rfl rfl ?_
  refine zv_sipush (v := 132) dX9_judgeReckoning_1 (by decide) ?_
  refine zr_icmp_ne (tgt := 46) dX9_judgeReckoning_4 (by decide) h (fun c37 h => ?_) (fun c37 h => ?_)
  · refine zv_iload_n (n := 2) dX9_judgeReckoning_46 rfl rfl ?_
    refine zv_sipush (v := 133) dX9_judgeReckoning_47 (by decide) ?_
    refine zr_icmp_ne (tgt := 67) dX9_judgeReckoning_50 (by decide) h (fun c23 h => ?_) (fun c23 h => ?_)
    · refine zv_iload_n (n := 2) dX9_judgeReckoning_67 rfl rfl ?_
      refine zv_sipush (v := 136) dX9_judgeReckoning_68 (by decide) ?_
      refine zr_icmp_ne (tgt := 88) dX9_judgeReckoning_71 (by decide) h (fun c18 h => ?_) (fun c18 h => ?_)
      · refine zv_iload_n (n := 2) dX9_judgeReckoning_88 rfl rfl ?_
        refine zv_sipush (v := 148) dX9_judgeReckoning_89 (by decide) ?_
        refine zr_icmp_ne (tgt := 114) dX9_judgeReckoning_92 (by decide) h (fun c13 h => ?_) (fun c13 h => ?_)
        · refine zv_iload_n (n := 2) dX9_judgeReckoning_114 rfl rfl ?_
          refine zv_sipush (v := 144) dX9_judgeReckoning_115 (by decide) ?_
          refine zr_icmp_le (tgt := 135) dX9_judgeReckoning_118 (by decide) h (fun c6 h => ?_) (fun c6 h => ?_)
          · refine zv_iload_n (n := 2) dX9_judgeReckoning_135 rfl rfl ?_
            refine zv_iconst (v := 2) dX9_judgeReckoning_136 (by decide) ?_
            refine zv_irem dX9_judgeReckoning_137 (by decide) ?_
            refine zr_if_ne (tgt := 145) dX9_judgeReckoning_138 (by decide) h (fun c1 h => ?_) (fun c1 h => ?_)
            · refine zv_iconst (v := 2) dX9_judgeReckoning_145 (by decide) ?_
              exact zv_fewer [0, 1, 2] rfl (kX9_judgeReckoning_146 hd _ _ _ _ _ h)
            · refine zv_iconst (v := 1) dX9_judgeReckoning_141 (by decide) ?_
              refine zv_goto (tgt := 146) dX9_judgeReckoning_142 (by decide) ?_
              exact zv_fewer [0, 1, 2] rfl (kX9_judgeReckoning_146 hd _ _ _ _ _ h)
          · refine zv_aload_n (n := 0) dX9_judgeReckoning_121 rfl rfl ?_
            refine zv_iconst (v := 1) dX9_judgeReckoning_122 (by decide) ?_
            refine zr_cVv (ci := 9) (st := []) dX9_judgeReckoning_123 mw_X9_pop wd_1620 wd_1622 wd_57 rfl rfl [.int (1 : Int32)] rfl rfl (Nat.le_of_ble_eq_true rfl) (show d - 1 + 1 ≤ d by omega) h (fun o2 e3 => tX9_pop (d := d - 1) (by omega) e3) (fun o2 e3 h => ?_)
            refine zv_aload_n (n := 0) dX9_judgeReckoning_126 rfl rfl ?_
            refine zv_iload_n (n := 1) dX9_judgeReckoning_127 rfl rfl ?_
            refine zv_iconst (v := 1) dX9_judgeReckoning_128 (by decide) ?_
            refine zr_cVv (ci := 9) (st := []) dX9_judgeReckoning_129 mw_X9_push wd_1605 wd_1607 wd_54 rfl rfl [.int l1, .int (1 : Int32)] rfl rfl (Nat.le_of_ble_eq_true rfl) (show d - 1 + 1 ≤ d by omega) h (fun o4 e5 => tX9_push (d := d - 1) (by omega) e5) (fun o4 e5 h => ?_)
            refine zv_goto (tgt := 207) dX9_judgeReckoning_132 (by decide) ?_
            exact zv_fewer [] rfl (kX9_judgeReckoning_207 hd _ h)
        · refine zv_aload_n (n := 0) dX9_judgeReckoning_95 rfl rfl ?_
          refine zv_iconst (v := 2) dX9_judgeReckoning_96 (by decide) ?_
          refine zr_cVv (ci := 9) (st := []) dX9_judgeReckoning_97 mw_X9_pop wd_1620 wd_1622 wd_57 rfl rfl [.int (2 : Int32)] rfl rfl (Nat.le_of_ble_eq_true rfl) (show d - 1 + 1 ≤ d by omega) h (fun o7 e8 => tX9_pop (d := d - 1) (by omega) e8) (fun o7 e8 h => ?_)
          refine zv_aload_n (n := 0) dX9_judgeReckoning_100 rfl rfl ?_
          refine zv_iconst (v := 2) dX9_judgeReckoning_101 (by decide) ?_
          refine zr_cVv (ci := 9) (st := []) dX9_judgeReckoning_102 mw_X9_pop wd_1620 wd_1622 wd_57 rfl rfl [.int (2 : Int32)] rfl rfl (Nat.le_of_ble_eq_true rfl) (show d - 1 + 1 ≤ d by omega) h (fun o9 e10 => tX9_pop (d := d - 1) (by omega) e10) (fun o9 e10 h => ?_)
          refine zv_aload_n (n := 0) dX9_judgeReckoning_105 rfl rfl ?_
          refine zv_iload_n (n := 1) dX9_judgeReckoning_106 rfl rfl ?_
          refine zv_iconst (v := 1) dX9_judgeReckoning_107 (by decide) ?_
          refine zr_cVv (ci := 9) (st := []) dX9_judgeReckoning_108 mw_X9_push wd_1605 wd_1607 wd_54 rfl rfl [.int l1, .int (1 : Int32)] rfl rfl (Nat.le_of_ble_eq_true rfl) (show d - 1 + 1 ≤ d by omega) h (fun o11 e12 => tX9_push (d := d - 1) (by omega) e12) (fun o11 e12 h => ?_)
          refine zv_goto (tgt := 207) dX9_judgeReckoning_111 (by decide) ?_
          exact zv_fewer [] rfl (kX9_judgeReckoning_207 hd _ h)
      · refine zv_aload_n (n := 0) dX9_judgeReckoning_74 rfl rfl ?_
        refine zv_iconst (v := 2) dX9_judgeReckoning_75 (by decide) ?_
        refine zr_cVv (ci := 9) (st := []) dX9_judgeReckoning_76 mw_X9_pop wd_1620 wd_1622 wd_57 rfl rfl [.int (2 : Int32)] rfl rfl (Nat.le_of_ble_eq_true rfl) (show d - 1 + 1 ≤ d by omega) h (fun o14 e15 => tX9_pop (d := d - 1) (by omega) e15) (fun o14 e15 h => ?_)
        refine zv_aload_n (n := 0) dX9_judgeReckoning_79 rfl rfl ?_
        refine zv_iload_n (n := 1) dX9_judgeReckoning_80 rfl rfl ?_
        refine zv_iconst (v := 1) dX9_judgeReckoning_81 (by decide) ?_
        refine zr_cVv (ci := 9) (st := []) dX9_judgeReckoning_82 mw_X9_push wd_1605 wd_1607 wd_54 rfl rfl [.int l1, .int (1 : Int32)] rfl rfl (Nat.le_of_ble_eq_true rfl) (show d - 1 + 1 ≤ d by omega) h (fun o16 e17 => tX9_push (d := d - 1) (by omega) e17) (fun o16 e17 h => ?_)
        refine zv_goto (tgt := 207) dX9_judgeReckoning_85 (by decide) ?_
        exact zv_fewer [] rfl (kX9_judgeReckoning_207 hd _ h)
    · refine zv_aload_n (n := 0) dX9_judgeReckoning_53 rfl rfl ?_
      refine zv_iconst (v := 1) dX9_judgeReckoning_54 (by decide) ?_
      refine zr_cVv (ci := 9) (st := []) dX9_judgeReckoning_55 mw_X9_pop wd_1620 wd_1622 wd_57 rfl rfl [.int (1 : Int32)] rfl rfl (Nat.le_of_ble_eq_true rfl) (show d - 1 + 1 ≤ d by omega) h (fun o19 e20 => tX9_pop (d := d - 1) (by omega) e20) (fun o19 e20 h => ?_)
      refine zv_aload_n (n := 0) dX9_judgeReckoning_58 rfl rfl ?_
      refine zv_iload_n (n := 1) dX9_judgeReckoning_59 rfl rfl ?_
      refine zv_iconst (v := 2) dX9_judgeReckoning_60 (by decide) ?_
      refine zr_cVv (ci := 9) (st := []) dX9_judgeReckoning_61 mw_X9_push wd_1605 wd_1607 wd_54 rfl rfl [.int l1, .int (2 : Int32)] rfl rfl (Nat.le_of_ble_eq_true rfl) (show d - 1 + 1 ≤ d by omega) h (fun o21 e22 => tX9_push (d := d - 1) (by omega) e22) (fun o21 e22 h => ?_)
      refine zv_goto (tgt := 207) dX9_judgeReckoning_64 (by decide) ?_
      exact zv_fewer [] rfl (kX9_judgeReckoning_207 hd _ h)
  · refine zv_aload_n (n := 0) dX9_judgeReckoning_7 rfl rfl ?_
    refine zv_aload_n (n := 0) dX9_judgeReckoning_8 rfl rfl ?_
    refine zr_gI dX9_judgeReckoning_9 fg_1430 h (fun v24 e25 h => ?_)
    refine zr_if_eq (tgt := 39) dX9_judgeReckoning_12 (by decide) h (fun c36 h => ?_) (fun c36 h => ?_)
    · exact zv_fewer [] rfl (kX9_judgeReckoning_39 hd _ _ h)
    · refine zv_iload_n (n := 3) dX9_judgeReckoning_15 rfl rfl ?_
      refine zv_aload_n (n := 0) dX9_judgeReckoning_16 rfl rfl ?_
      refine zr_gR dX9_judgeReckoning_17 fg_1417 h (fun v26 e27 h => ?_)
      refine zv_iload_n (n := 1) dX9_judgeReckoning_20 rfl rfl ?_
      refine zr_aI dX9_judgeReckoning_21 h (fun v28 e29 h => ?_)
      refine zr_icmp_ge (tgt := 39) dX9_judgeReckoning_22 (by decide) h (fun c35 h => ?_) (fun c35 h => ?_)
      · exact zv_fewer [] rfl (kX9_judgeReckoning_39 hd _ _ h)
      · refine zv_aload_n (n := 0) dX9_judgeReckoning_25 rfl rfl ?_
        refine zr_gR dX9_judgeReckoning_26 fg_1429 h (fun v30 e31 h => ?_)
        refine zv_iload_n (n := 3) dX9_judgeReckoning_29 rfl rfl ?_
        refine zr_aI dX9_judgeReckoning_30 h (fun v32 e33 h => ?_)
        refine zv_iconst (v := 1) dX9_judgeReckoning_31 (by decide) ?_
        refine zr_icmp_ne (tgt := 39) dX9_judgeReckoning_32 (by decide) h (fun c34 h => ?_) (fun c34 h => ?_)
        · exact zv_fewer [] rfl (kX9_judgeReckoning_39 hd _ _ h)
        · refine zv_iconst (v := 1) dX9_judgeReckoning_35 (by decide) ?_
          refine zv_goto (tgt := 40) dX9_judgeReckoning_36 (by decide) ?_
          exact zv_fewer [] rfl (kX9_judgeReckoning_40 hd _ _ _ h)
def mX9_judgeReckoning (N : Nat) (a0 : Nat) (a1 : Int32) (a2 : Int32) (a3 : Int32) (x : zv_X) : Option zv_X := mX9_judgeReckoning_0 N a0 a1 a2 a3 x
theorem tX9_judgeReckoning {d : Nat} (hd : 1 ≤ d) {N : Nat} {x : zv_X} {a0 : Nat} {a1 : Int32} {a2 : Int32} {a3 : Int32} {o : zv_X} (h : mX9_judgeReckoning N a0 a1 a2 a3 x = some o) : zv_T d yX9_judgeReckoning cX9_judgeReckoning 6 (none) [.ref a0, .int a1, .int a2, .int a3] x o none := by
  unfold mX9_judgeReckoning at h
  exact zv_enter (by decide) (Nat.le_of_ble_eq_true rfl) (kX9_judgeReckoning_0 hd _ _ _ _ _ h)

abbrev fX9_popEither (d : Nat) (x0 : zv_X) (o : (zv_X × Int32)) : zv_G := (d, RX9, cX9_popEither, 1, (some .int), ("popEither", []), x0, o.1, zv_fin x0 o.1 (some (.int o.2)))
def mX9_popEither_35 (N : Nat) (l0 : Nat) (s0 : Int32) (s1 : Nat) (x : zv_X) : Option (zv_X × Int32) := if s0 = 0 ∨ s0 = 1 then ((zm_p x s1 9 27 (.int s0)).bind fun x1 => (zm_I x1 l0 9 27).bind fun v3 => if v3 = 0 then (some (x1, (1 : Int32))) else ((zm_I x1 l0 9 25).bind fun v5 => (zm_p x1 l0 9 25 (.int (v5 - (1 : Int32)))).bind fun x7 => (zm_R x7 l0 9 24).bind fun v9 => (zm_I x7 l0 9 25).bind fun v11 => (zm_aI x7 v9 v11).bind fun v13 => some (x7, v13))) else none
theorem kX9_popEither_35 {d : Nat} {x0 : zv_X} {o : (zv_X × Int32)} (hd : 0 ≤ d) {N : Nat} (l0 : Nat) (s0 : Int32) (s1 : Nat) (x : zv_X) (h : mX9_popEither_35 N l0 s0 s1 x = some o) : zv_V (fX9_popEither d x0 o) 35 [(0, .ref l0)] [.int s0, .ref s1] x := by
  unfold mX9_popEither_35 at h
  refine zr_pZ dX9_popEither_35 fl_1430 (fun q => nomatch q) h (fun x1 e2 h => ?_)
  refine zv_aload_n (n := 0) dX9_popEither_38 rfl rfl ?_
  refine zr_gI dX9_popEither_39 fg_1430 h (fun v3 e4 h => ?_)
  refine zr_if_ne (tgt := 47) dX9_popEither_42 (by decide) h (fun c15 h => ?_) (fun c15 h => ?_)
  · refine zv_aload_n (n := 0) dX9_popEither_47 rfl rfl ?_
    refine zv_dup dX9_popEither_48 rfl ?_
    refine zr_gI dX9_popEither_49 fg_1428 h (fun v5 e6 h => ?_)
    refine zv_iconst (v := 1) dX9_popEither_52 (by decide) ?_
    refine zv_isub dX9_popEither_53 ?_
    refine zr_p dX9_popEither_54 fl_1428 (fun q => nomatch q) rfl rfl h (fun x7 e8 h => ?_)
    refine zv_aload_n (n := 0) dX9_popEither_57 rfl rfl ?_
    refine zr_gR dX9_popEither_58 fg_1427 h (fun v9 e10 h => ?_)
    refine zv_aload_n (n := 0) dX9_popEither_61 rfl rfl ?_
    refine zr_gI dX9_popEither_62 fg_1428 h (fun v11 e12 h => ?_)
    refine zr_aI dX9_popEither_65 h (fun v13 e14 h => ?_)
    cases h
    exact zv_iret dX9_popEither_66 rfl
  · refine zv_iconst (v := 1) dX9_popEither_45 (by decide) ?_
    cases h
    exact zv_iret dX9_popEither_46 rfl
def mX9_popEither_34 (N : Nat) (l0 : Nat) (s0 : Nat) (x : zv_X) : Option (zv_X × Int32) := mX9_popEither_35 N l0 (0 : Int32) s0 x
theorem kX9_popEither_34 {d : Nat} {x0 : zv_X} {o : (zv_X × Int32)} (hd : 0 ≤ d) {N : Nat} (l0 : Nat) (s0 : Nat) (x : zv_X) (h : mX9_popEither_34 N l0 s0 x = some o) : zv_V (fX9_popEither d x0 o) 34 [(0, .ref l0)] [.ref s0] x := by
  unfold mX9_popEither_34 at h
  refine zv_iconst (v := 0) dX9_popEither_34 (by decide) ?_
  exact kX9_popEither_35 hd _ _ _ _ h
def mX9_popEither_0 (N : Nat) (l0 : Nat) (x : zv_X) : Option (zv_X × Int32) := (zm_I x l0 9 27).bind fun v1 => if v1 = 0 then (mX9_popEither_34 N l0 l0 x) else ((zm_I x l0 9 25).bind fun v3 => if v3 ≤ 0 then (mX9_popEither_34 N l0 l0 x) else ((zm_R x l0 9 24).bind fun v5 => (zm_I x l0 9 25).bind fun v7 => (zm_aI x v5 (v7 - (1 : Int32))).bind fun v9 => if v9 = (2 : Int32) then (mX9_popEither_34 N l0 l0 x) else (mX9_popEither_35 N l0 (1 : Int32) l0 x)))
theorem kX9_popEither_0 {d : Nat} {x0 : zv_X} {o : (zv_X × Int32)} (hd : 0 ≤ d) {N : Nat} (l0 : Nat) (x : zv_X) (h : mX9_popEither_0 N l0 x = some o) : zv_V (fX9_popEither d x0 o) 0 [(0, .ref l0)] [] x := by
  unfold mX9_popEither_0 at h
  refine zv_aload_n (n := 0) dX9_popEither_0 rfl rfl ?_
  refine zv_aload_n (n := 0) dX9_popEither_1 rfl rfl ?_
  refine zr_gI dX9_popEither_2 fg_1430 h (fun v1 e2 h => ?_)
  refine zr_if_eq (tgt := 34) dX9_popEither_5 (by decide) h (fun c13 h => ?_) (fun c13 h => ?_)
  · exact kX9_popEither_34 hd _ _ _ h
  · refine zv_aload_n (n := 0) dX9_popEither_8 rfl rfl ?_
    refine zr_gI dX9_popEither_9 fg_1428 h (fun v3 e4 h => ?_)
    refine zr_if_le (tgt := 34) dX9_popEither_12 (by decide) h (fun c12 h => ?_) (fun c12 h => ?_)
    · exact kX9_popEither_34 hd _ _ _ h
    · refine zv_aload_n (n := 0) dX9_popEither_15 rfl rfl ?_
      refine zr_gR dX9_popEither_16 fg_1427 h (fun v5 e6 h => ?_)
      refine zv_aload_n (n := 0) dX9_popEither_19 rfl rfl ?_
      refine zr_gI dX9_popEither_20 fg_1428 h (fun v7 e8 h => ?_)
      refine zv_iconst (v := 1) dX9_popEither_23 (by decide) ?_
      refine zv_isub dX9_popEither_24 ?_
      refine zr_aI dX9_popEither_25 h (fun v9 e10 h => ?_)
      refine zv_iconst (v := 2) dX9_popEither_26 (by decide) ?_
      refine zr_icmp_eq (tgt := 34) dX9_popEither_27 (by decide) h (fun c11 h => ?_) (fun c11 h => ?_)
      · exact kX9_popEither_34 hd _ _ _ h
      · refine zv_iconst (v := 1) dX9_popEither_30 (by decide) ?_
        refine zv_goto (tgt := 35) dX9_popEither_31 (by decide) ?_
        exact kX9_popEither_35 hd _ _ _ _ h
def mX9_popEither (N : Nat) (a0 : Nat) (x : zv_X) : Option (zv_X × Int32) := mX9_popEither_0 N a0 x
theorem tX9_popEither {d : Nat} (hd : 0 ≤ d) {N : Nat} {x : zv_X} {a0 : Nat} {o : (zv_X × Int32)} (h : mX9_popEither N a0 x = some o) : zv_T d yX9_popEither cX9_popEither 1 ((some .int)) [.ref a0] x o.1 (some (.int o.2)) := by
  unfold mX9_popEither at h
  exact zv_enter (by decide) (Nat.le_of_ble_eq_true rfl) (kX9_popEither_0 hd _ _ h)

abbrev fX9_judgeStack (d : Nat) (x0 : zv_X) (o : zv_X) : zv_G := (d, RX9, cX9_judgeStack, 5, none, ("judgeStack", []), x0, o, zv_fin x0 o none)
def mX9_judgeStack_63 (N : Nat)  (x : zv_X) : Option zv_X := some x
theorem kX9_judgeStack_63 {d : Nat} {x0 : zv_X} {o : zv_X} (hd : 1 ≤ d) {N : Nat}  (x : zv_X) (h : mX9_judgeStack_63 N  x = some o) : zv_V (fX9_judgeStack d x0 o) 63 [] [] x := by
  unfold mX9_judgeStack_63 at h
  cases h
  exact zv_vret dX9_judgeStack_63 rfl
def mX9_judgeStack_0 (N : Nat) (l0 : Nat) (l1 : Int32) (l2 : Int32) (x : zv_X) : Option zv_X := if l2 = (88 : Int32) then (if zm_k x l0 9 = true then ((mX9_pop N l0 (2 : Int32) x).bind fun o15 => some o15) else none) else (if zm_k x l0 9 = true then ((mX9_popEither N l0 x).bind fun o1 => if l2 = (89 : Int32) then (if zm_k o1.1 l0 9 = true then ((mX9_push N l0 l1 o1.2 o1.1).bind fun o10 => if zm_k o10 l0 9 = true then ((mX9_push N l0 l1 o1.2 o10).bind fun o12 => mX9_judgeStack_63 N o12) else none) else none) else (if l2 = (95 : Int32) then (if zm_k o1.1 l0 9 = true then ((mX9_popEither N l0 o1.1).bind fun o3 => if zm_k o3.1 l0 9 = true then ((mX9_push N l0 l1 o1.2 o3.1).bind fun o5 => if zm_k o5 l0 9 = true then ((mX9_push N l0 l1 o3.2 o5).bind fun o7 => mX9_judgeStack_63 N o7) else none) else none) else none) else (mX9_judgeStack_63 N o1.1))) else none)
theorem kX9_judgeStack_0 {d : Nat} {x0 : zv_X} {o : zv_X} (hd : 1 ≤ d) {N : Nat} (l0 : Nat) (l1 : Int32) (l2 : Int32) (x : zv_X) (h : mX9_judgeStack_0 N l0 l1 l2 x = some o) : zv_V (fX9_judgeStack d x0 o) 0 [(0, .ref l0), (1, .int l1), (2, .int l2)] [] x := by
  unfold mX9_judgeStack_0 at h
  refine zv_iload_n (n := 2) dX9_judgeStack_0 rfl rfl ?_
  refine zv_bipush (v := 88) dX9_judgeStack_1 (by decide) ?_
  refine zr_icmp_ne (tgt := 12) dX9_judgeStack_3 (by decide) h (fun c17 h => ?_) (fun c17 h => ?_)
  · refine zv_aload_n (n := 0) dX9_judgeStack_12 rfl rfl ?_
    refine zr_cVi (ci := 9) (st := []) dX9_judgeStack_13 mw_X9_popEither wd_1631 wd_1633 wd_59 rfl rfl [] rfl rfl (Nat.le_of_ble_eq_true rfl) (show d - 1 + 1 ≤ d by omega) h (fun o1 e2 => tX9_popEither (d := d - 1) (by omega) e2) (fun o1 e2 h => ?_)
    refine zv_istore_n (L' := [(3, .int o1.2), (0, .ref l0), (1, .int l1), (2, .int l2)]) dX9_judgeStack_16 rfl (Nat.le_of_ble_eq_true rfl) rfl ?_
    refine zv_iload_n (n := 3) dX9_judgeStack_17 rfl rfl ?_
    refine zv_bipush (v := 89) dX9_judgeStack_18 (by decide) ?_
    refine zr_icmp_ne (tgt := 38) dX9_judgeStack_20 (by decide) h (fun c14 h => ?_) (fun c14 h => ?_)
    · refine zv_iload_n (n := 3) dX9_judgeStack_38 rfl rfl ?_
      refine zv_bipush (v := 95) dX9_judgeStack_39 (by decide) ?_
      refine zr_icmp_ne (tgt := 63) dX9_judgeStack_41 (by decide) h (fun c9 h => ?_) (fun c9 h => ?_)
      · exact zv_fewer [] rfl (kX9_judgeStack_63 hd _ h)
      · refine zv_aload_n (n := 1) dX9_judgeStack_44 rfl rfl ?_
        refine zr_cVi (ci := 9) (st := []) dX9_judgeStack_45 mw_X9_popEither wd_1631 wd_1633 wd_59 rfl rfl [] rfl rfl (Nat.le_of_ble_eq_true rfl) (show d - 1 + 1 ≤ d by omega) h (fun o3 e4 => tX9_popEither (d := d - 1) (by omega) e4) (fun o3 e4 h => ?_)
        refine zv_istore (L' := [(4, .int o3.2), (3, .int o1.2), (0, .ref l0), (1, .int l1), (2, .int l2)]) dX9_judgeStack_48 (Nat.le_of_ble_eq_true rfl) rfl ?_
        refine zv_aload_n (n := 2) dX9_judgeStack_50 rfl rfl ?_
        refine zv_iload_n (n := 3) dX9_judgeStack_51 rfl rfl ?_
        refine zv_iload_n (n := 1) dX9_judgeStack_52 rfl rfl ?_
        refine zr_cVv (ci := 9) (st := []) dX9_judgeStack_53 mw_X9_push wd_1605 wd_1607 wd_54 rfl rfl [.int l1, .int o1.2] rfl rfl (Nat.le_of_ble_eq_true rfl) (show d - 1 + 1 ≤ d by omega) h (fun o5 e6 => tX9_push (d := d - 1) (by omega) e6) (fun o5 e6 h => ?_)
        refine zv_aload_n (n := 2) dX9_judgeStack_56 rfl rfl ?_
        refine zv_iload_n (n := 3) dX9_judgeStack_57 rfl rfl ?_
        refine zv_iload (n := 0) dX9_judgeStack_58 rfl ?_
        refine zr_cVv (ci := 9) (st := []) dX9_judgeStack_60 mw_X9_push wd_1605 wd_1607 wd_54 rfl rfl [.int l1, .int o3.2] rfl rfl (Nat.le_of_ble_eq_true rfl) (show d - 1 + 1 ≤ d by omega) h (fun o7 e8 => tX9_push (d := d - 1) (by omega) e8) (fun o7 e8 h => ?_)
        exact zv_fewer [] rfl (kX9_judgeStack_63 hd _ h)
    · refine zv_aload_n (n := 1) dX9_judgeStack_23 rfl rfl ?_
      refine zv_iload_n (n := 2) dX9_judgeStack_24 rfl rfl ?_
      refine zv_iload_n (n := 0) dX9_judgeStack_25 rfl rfl ?_
      refine zr_cVv (ci := 9) (st := []) dX9_judgeStack_26 mw_X9_push wd_1605 wd_1607 wd_54 rfl rfl [.int l1, .int o1.2] rfl rfl (Nat.le_of_ble_eq_true rfl) (show d - 1 + 1 ≤ d by omega) h (fun o10 e11 => tX9_push (d := d - 1) (by omega) e11) (fun o10 e11 h => ?_)
      refine zv_aload_n (n := 1) dX9_judgeStack_29 rfl rfl ?_
      refine zv_iload_n (n := 2) dX9_judgeStack_30 rfl rfl ?_
      refine zv_iload_n (n := 0) dX9_judgeStack_31 rfl rfl ?_
      refine zr_cVv (ci := 9) (st := []) dX9_judgeStack_32 mw_X9_push wd_1605 wd_1607 wd_54 rfl rfl [.int l1, .int o1.2] rfl rfl (Nat.le_of_ble_eq_true rfl) (show d - 1 + 1 ≤ d by omega) h (fun o12 e13 => tX9_push (d := d - 1) (by omega) e13) (fun o12 e13 h => ?_)
      refine zv_goto (tgt := 63) dX9_judgeStack_35 (by decide) ?_
      exact zv_fewer [] rfl (kX9_judgeStack_63 hd _ h)
  · refine zv_aload_n (n := 0) dX9_judgeStack_6 rfl rfl ?_
    refine zv_iconst (v := 2) dX9_judgeStack_7 (by decide) ?_
    refine zr_cVv (ci := 9) (st := []) dX9_judgeStack_8 mw_X9_pop wd_1620 wd_1622 wd_57 rfl rfl [.int (2 : Int32)] rfl rfl (Nat.le_of_ble_eq_true rfl) (show d - 1 + 1 ≤ d by omega) h (fun o15 e16 => tX9_pop (d := d - 1) (by omega) e16) (fun o15 e16 h => ?_)
    cases h
    exact zv_vret dX9_judgeStack_11 rfl
def mX9_judgeStack (N : Nat) (a0 : Nat) (a1 : Int32) (a2 : Int32) (x : zv_X) : Option zv_X := mX9_judgeStack_0 N a0 a1 a2 x
theorem tX9_judgeStack {d : Nat} (hd : 1 ≤ d) {N : Nat} {x : zv_X} {a0 : Nat} {a1 : Int32} {a2 : Int32} {o : zv_X} (h : mX9_judgeStack N a0 a1 a2 x = some o) : zv_T d yX9_judgeStack cX9_judgeStack 5 (none) [.ref a0, .int a1, .int a2] x o none := by
  unfold mX9_judgeStack at h
  exact zv_enter (by decide) (Nat.le_of_ble_eq_true rfl) (kX9_judgeStack_0 hd _ _ _ _ h)

abbrev fX9_judgeThing (d : Nat) (x0 : zv_X) (o : zv_X) : zv_G := (d, RX9, cX9_judgeThing, 6, none, ("judgeThing", []), x0, o, zv_fin x0 o none)
def mX9_judgeThing_415 (N : Nat)  (x : zv_X) : Option zv_X := some x
theorem kX9_judgeThing_415 {d : Nat} {x0 : zv_X} {o : zv_X} (hd : 1 ≤ d) {N : Nat}  (x : zv_X) (h : mX9_judgeThing_415 N  x = some o) : zv_V (fX9_judgeThing d x0 o) 415 [] [] x := by
  unfold mX9_judgeThing_415 at h
  cases h
  exact zv_vret dX9_judgeThing_415 rfl
def mX9_judgeThing_102 (N : Nat)  (x : zv_X) : Option zv_X := mX9_judgeThing_415 N x
theorem kX9_judgeThing_102 {d : Nat} {x0 : zv_X} {o : zv_X} (hd : 1 ≤ d) {N : Nat}  (x : zv_X) (h : mX9_judgeThing_102 N  x = some o) : zv_V (fX9_judgeThing d x0 o) 102 [] [] x := by
  unfold mX9_judgeThing_102 at h
  refine zv_goto (tgt := 415) dX9_judgeThing_102 (by decide) ?_
  exact kX9_judgeThing_415 hd _ h
def mX9_judgeThing_83 (N : Nat) (l0 : Nat) (l1 : Int32) (l2 : Int32) (l5 : Int32) (x : zv_X) : Option zv_X := if zm_k x l0 9 = true then ((mX9_pop N l0 (3 : Int32) x).bind fun o1 => if l2 = (180 : Int32) then (if zm_k o1 l0 9 = true then ((mX9_push N l0 l1 l5 o1).bind fun o3 => mX9_judgeThing_102 N o3) else none) else (mX9_judgeThing_102 N o1)) else none
theorem kX9_judgeThing_83 {d : Nat} {x0 : zv_X} {o : zv_X} (hd : 1 ≤ d) {N : Nat} (l0 : Nat) (l1 : Int32) (l2 : Int32) (l5 : Int32) (x : zv_X) (h : mX9_judgeThing_83 N l0 l1 l2 l5 x = some o) : zv_V (fX9_judgeThing d x0 o) 83 [(0, .ref l0), (1, .int l1), (2, .int l2), (5, .int l5)] [] x := by
  unfold mX9_judgeThing_83 at h
  refine zv_aload_n (n := 0) dX9_judgeThing_83 rfl rfl ?_
  refine zv_iconst (v := 3) dX9_judgeThing_84 (by decide) ?_
  refine zr_cVv (ci := 9) (st := []) dX9_judgeThing_85 mw_X9_pop wd_1620 wd_1622 wd_57 rfl rfl [.int (3 : Int32)] rfl rfl (Nat.le_of_ble_eq_true rfl) (show d - 1 + 1 ≤ d by omega) h (fun o1 e2 => tX9_pop (d := d - 1) (by omega) e2) (fun o1 e2 h => ?_)
  refine zv_iload_n (n := 2) dX9_judgeThing_88 rfl rfl ?_
  refine zv_sipush (v := 180) dX9_judgeThing_89 (by decide) ?_
  refine zr_icmp_ne (tgt := 102) dX9_judgeThing_92 (by decide) h (fun c5 h => ?_) (fun c5 h => ?_)
  · exact zv_fewer [] rfl (kX9_judgeThing_102 hd _ h)
  · refine zv_aload_n (n := 0) dX9_judgeThing_95 rfl rfl ?_
    refine zv_iload_n (n := 1) dX9_judgeThing_96 rfl rfl ?_
    refine zv_iload (n := 3) dX9_judgeThing_97 rfl ?_
    refine zr_cVv (ci := 9) (st := []) dX9_judgeThing_99 mw_X9_push wd_1605 wd_1607 wd_54 rfl rfl [.int l1, .int l5] rfl rfl (Nat.le_of_ble_eq_true rfl) (show d - 1 + 1 ≤ d by omega) h (fun o3 e4 => tX9_push (d := d - 1) (by omega) e4) (fun o3 e4 h => ?_)
    exact zv_fewer [] rfl (kX9_judgeThing_102 hd _ h)
def mX9_judgeThing_46 (N : Nat) (l0 : Nat) (l1 : Int32) (l2 : Int32) (l3 : Int32) (l4 : Int32) (s0 : Int32) (s1 : Nat) (x : zv_X) : Option zv_X := if s0 = 0 ∨ s0 = 1 then ((zm_p x s1 9 27 (.int s0)).bind fun x1 => (zm_I x1 l0 9 27).bind fun v3 => if v3 = 0 then (mX9_judgeThing_415 N x1) else ((zm_R x1 l0 9 4).bind fun v5 => (zm_aI x1 v5 (((8 : Int32) * l3) + l4)).bind fun v7 => if l2 = (181 : Int32) then (if zm_k x1 l0 9 = true then ((mX9_pop N l0 v7 x1).bind fun o9 => mX9_judgeThing_83 N l0 l1 l2 v7 o9) else none) else (mX9_judgeThing_83 N l0 l1 l2 v7 x1))) else none
theorem kX9_judgeThing_46 {d : Nat} {x0 : zv_X} {o : zv_X} (hd : 1 ≤ d) {N : Nat} (l0 : Nat) (l1 : Int32) (l2 : Int32) (l3 : Int32) (l4 : Int32) (s0 : Int32) (s1 : Nat) (x : zv_X) (h : mX9_judgeThing_46 N l0 l1 l2 l3 l4 s0 s1 x = some o) : zv_V (fX9_judgeThing d x0 o) 46 [(0, .ref l0), (1, .int l1), (2, .int l2), (3, .int l3), (4, .int l4)] [.int s0, .ref s1] x := by
  unfold mX9_judgeThing_46 at h
  refine zr_pZ dX9_judgeThing_46 fl_1430 (fun q => nomatch q) h (fun x1 e2 h => ?_)
  refine zv_aload_n (n := 0) dX9_judgeThing_49 rfl rfl ?_
  refine zr_gI dX9_judgeThing_50 fg_1430 h (fun v3 e4 h => ?_)
  refine zr_if_eq (tgt := 415) dX9_judgeThing_53 (by decide) h (fun c12 h => ?_) (fun c12 h => ?_)
  · exact zv_fewer [] rfl (kX9_judgeThing_415 hd _ h)
  · refine zv_aload_n (n := 0) dX9_judgeThing_56 rfl rfl ?_
    refine zr_gR dX9_judgeThing_57 fg_1407 h (fun v5 e6 h => ?_)
    refine zv_bipush (v := 8) dX9_judgeThing_60 (by decide) ?_
    refine zv_iload_n (n := 3) dX9_judgeThing_62 rfl rfl ?_
    refine zv_imul dX9_judgeThing_63 ?_
    refine zv_iload (n := 4) dX9_judgeThing_64 rfl ?_
    refine zv_iadd dX9_judgeThing_66 ?_
    refine zr_aI dX9_judgeThing_67 h (fun v7 e8 h => ?_)
    refine zv_istore (L' := [(5, .int v7), (0, .ref l0), (1, .int l1), (2, .int l2), (3, .int l3), (4, .int l4)]) dX9_judgeThing_68 (Nat.le_of_ble_eq_true rfl) rfl ?_
    refine zv_iload_n (n := 3) dX9_judgeThing_70 rfl rfl ?_
    refine zv_sipush (v := 181) dX9_judgeThing_71 (by decide) ?_
    refine zr_icmp_ne (tgt := 83) dX9_judgeThing_74 (by decide) h (fun c11 h => ?_) (fun c11 h => ?_)
    · exact zv_fewer [1, 2, 3, 0] rfl (kX9_judgeThing_83 hd _ _ _ _ _ h)
    · refine zv_aload_n (n := 1) dX9_judgeThing_77 rfl rfl ?_
      refine zv_iload (n := 0) dX9_judgeThing_78 rfl ?_
      refine zr_cVv (ci := 9) (st := []) dX9_judgeThing_80 mw_X9_pop wd_1620 wd_1622 wd_57 rfl rfl [.int v7] rfl rfl (Nat.le_of_ble_eq_true rfl) (show d - 1 + 1 ≤ d by omega) h (fun o9 e10 => tX9_pop (d := d - 1) (by omega) e10) (fun o9 e10 h => ?_)
      exact zv_fewer [1, 2, 3, 0] rfl (kX9_judgeThing_83 hd _ _ _ _ _ h)
def mX9_judgeThing_45 (N : Nat) (l0 : Nat) (l1 : Int32) (l2 : Int32) (l3 : Int32) (l4 : Int32) (s0 : Nat) (x : zv_X) : Option zv_X := mX9_judgeThing_46 N l0 l1 l2 l3 l4 (0 : Int32) s0 x
theorem kX9_judgeThing_45 {d : Nat} {x0 : zv_X} {o : zv_X} (hd : 1 ≤ d) {N : Nat} (l0 : Nat) (l1 : Int32) (l2 : Int32) (l3 : Int32) (l4 : Int32) (s0 : Nat) (x : zv_X) (h : mX9_judgeThing_45 N l0 l1 l2 l3 l4 s0 x = some o) : zv_V (fX9_judgeThing d x0 o) 45 [(0, .ref l0), (1, .int l1), (2, .int l2), (3, .int l3), (4, .int l4)] [.ref s0] x := by
  unfold mX9_judgeThing_45 at h
  refine zv_iconst (v := 0) dX9_judgeThing_45 (by decide) ?_
  exact kX9_judgeThing_46 hd _ _ _ _ _ _ _ _ h
def mX9_judgeThing_14 (N : Nat) (l0 : Nat) (l1 : Int32) (l2 : Int32) (l3 : Int32) (l4 : Int32) (x : zv_X) : Option zv_X := (zm_I x l0 9 27).bind fun v1 => if v1 = 0 then (mX9_judgeThing_45 N l0 l1 l2 l3 l4 l0 x) else ((zm_I x l0 9 5).bind fun v3 => if v3 ≤ l3 then (mX9_judgeThing_45 N l0 l1 l2 l3 l4 l0 x) else ((zm_R x l0 9 3).bind fun v5 => (zm_aI x v5 l3).bind fun v7 => if v7 ≤ l4 then (mX9_judgeThing_45 N l0 l1 l2 l3 l4 l0 x) else (mX9_judgeThing_46 N l0 l1 l2 l3 l4 (1 : Int32) l0 x)))
theorem kX9_judgeThing_14 {d : Nat} {x0 : zv_X} {o : zv_X} (hd : 1 ≤ d) {N : Nat} (l0 : Nat) (l1 : Int32) (l2 : Int32) (l3 : Int32) (l4 : Int32) (x : zv_X) (h : mX9_judgeThing_14 N l0 l1 l2 l3 l4 x = some o) : zv_V (fX9_judgeThing d x0 o) 14 [(0, .ref l0), (1, .int l1), (2, .int l2), (3, .int l3), (4, .int l4)] [] x := by
  unfold mX9_judgeThing_14 at h
  refine zv_aload_n (n := 0) dX9_judgeThing_14 rfl rfl ?_
  refine zv_aload_n (n := 0) dX9_judgeThing_15 rfl rfl ?_
  refine zr_gI dX9_judgeThing_16 fg_1430 h (fun v1 e2 h => ?_)
  refine zr_if_eq (tgt := 45) dX9_judgeThing_19 (by decide) h (fun c11 h => ?_) (fun c11 h => ?_)
  · exact kX9_judgeThing_45 hd _ _ _ _ _ _ _ h
  · refine zv_iload_n (n := 3) dX9_judgeThing_22 rfl rfl ?_
    refine zv_aload_n (n := 0) dX9_judgeThing_23 rfl rfl ?_
    refine zr_gI dX9_judgeThing_24 fg_1408 h (fun v3 e4 h => ?_)
    refine zr_icmp_ge (tgt := 45) dX9_judgeThing_27 (by decide) h (fun c10 h => ?_) (fun c10 h => ?_)
    · exact kX9_judgeThing_45 hd _ _ _ _ _ _ _ h
    · refine zv_iload (n := 4) dX9_judgeThing_30 rfl ?_
      refine zv_aload_n (n := 0) dX9_judgeThing_32 rfl rfl ?_
      refine zr_gR dX9_judgeThing_33 fg_1406 h (fun v5 e6 h => ?_)
      refine zv_iload_n (n := 3) dX9_judgeThing_36 rfl rfl ?_
      refine zr_aI dX9_judgeThing_37 h (fun v7 e8 h => ?_)
      refine zr_icmp_ge (tgt := 45) dX9_judgeThing_38 (by decide) h (fun c9 h => ?_) (fun c9 h => ?_)
      · exact kX9_judgeThing_45 hd _ _ _ _ _ _ _ h
      · refine zv_iconst (v := 1) dX9_judgeThing_41 (by decide) ?_
        refine zv_goto (tgt := 46) dX9_judgeThing_42 (by decide) ?_
        exact kX9_judgeThing_46 hd _ _ _ _ _ _ _ _ h
def mX9_judgeThing_316 (N : Nat) (l0 : Nat) (l1 : Int32) (s0 : Int32) (s1 : Nat) (x : zv_X) : Option zv_X := if s0 = 0 ∨ s0 = 1 then ((zm_p x s1 9 27 (.int s0)).bind fun x1 => if zm_k x1 l0 9 = true then ((mX9_pop N l0 (1 : Int32) x1).bind fun o3 => if zm_k o3 l0 9 = true then ((mX9_push N l0 l1 (3 : Int32) o3).bind fun o5 => mX9_judgeThing_415 N o5) else none) else none) else none
theorem kX9_judgeThing_316 {d : Nat} {x0 : zv_X} {o : zv_X} (hd : 1 ≤ d) {N : Nat} (l0 : Nat) (l1 : Int32) (s0 : Int32) (s1 : Nat) (x : zv_X) (h : mX9_judgeThing_316 N l0 l1 s0 s1 x = some o) : zv_V (fX9_judgeThing d x0 o) 316 [(0, .ref l0), (1, .int l1)] [.int s0, .ref s1] x := by
  unfold mX9_judgeThing_316 at h
  refine zr_pZ dX9_judgeThing_316 fl_1430 (fun q => nomatch q) h (fun x1 e2 h => ?_)
  refine zv_aload_n (n := 0) dX9_judgeThing_319 rfl rfl ?_
  refine zv_iconst (v := 1) dX9_judgeThing_320 (by decide) ?_
  refine zr_cVv (ci := 9) (st := []) dX9_judgeThing_321 mw_X9_pop wd_1620 wd_1622 wd_57 rfl rfl [.int (1 : Int32)] rfl rfl (Nat.le_of_ble_eq_true rfl) (show d - 1 + 1 ≤ d by omega) h (fun o3 e4 => tX9_pop (d := d - 1) (by omega) e4) (fun o3 e4 h => ?_)
  refine zv_aload_n (n := 0) dX9_judgeThing_324 rfl rfl ?_
  refine zv_iload_n (n := 1) dX9_judgeThing_325 rfl rfl ?_
  refine zv_iconst (v := 3) dX9_judgeThing_326 (by decide) ?_
  refine zr_cVv (ci := 9) (st := []) dX9_judgeThing_327 mw_X9_push wd_1605 wd_1607 wd_54 rfl rfl [.int l1, .int (3 : Int32)] rfl rfl (Nat.le_of_ble_eq_true rfl) (show d - 1 + 1 ≤ d by omega) h (fun o5 e6 => tX9_push (d := d - 1) (by omega) e6) (fun o5 e6 h => ?_)
  refine zv_goto (tgt := 415) dX9_judgeThing_330 (by decide) ?_
  exact zv_fewer [] rfl (kX9_judgeThing_415 hd _ h)
def mX9_judgeThing_315 (N : Nat) (l0 : Nat) (l1 : Int32) (s0 : Nat) (x : zv_X) : Option zv_X := mX9_judgeThing_316 N l0 l1 (0 : Int32) s0 x
theorem kX9_judgeThing_315 {d : Nat} {x0 : zv_X} {o : zv_X} (hd : 1 ≤ d) {N : Nat} (l0 : Nat) (l1 : Int32) (s0 : Nat) (x : zv_X) (h : mX9_judgeThing_315 N l0 l1 s0 x = some o) : zv_V (fX9_judgeThing d x0 o) 315 [(0, .ref l0), (1, .int l1)] [.ref s0] x := by
  unfold mX9_judgeThing_315 at h
  refine zv_iconst (v := 0) dX9_judgeThing_315 (by decide) ?_
  exact kX9_judgeThing_316 hd _ _ _ _ _ h
def mX9_judgeThing_311 (N : Nat) (l0 : Nat) (l1 : Int32) (s0 : Nat) (x : zv_X) : Option zv_X := mX9_judgeThing_316 N l0 l1 (1 : Int32) s0 x
theorem kX9_judgeThing_311 {d : Nat} {x0 : zv_X} {o : zv_X} (hd : 1 ≤ d) {N : Nat} (l0 : Nat) (l1 : Int32) (s0 : Nat) (x : zv_X) (h : mX9_judgeThing_311 N l0 l1 s0 x = some o) : zv_V (fX9_judgeThing d x0 o) 311 [(0, .ref l0), (1, .int l1)] [.ref s0] x := by
  unfold mX9_judgeThing_311 at h
  refine zv_iconst (v := 1) dX9_judgeThing_311 (by decide) ?_
  refine zv_goto (tgt := 316) dX9_judgeThing_312 (by decide) ?_
  exact kX9_judgeThing_316 hd _ _ _ _ _ h
def mX9_judgeThing_273 (N : Nat) (l0 : Nat) (l1 : Int32) (l2 : Int32) (l3 : Int32) (x : zv_X) : Option zv_X := (zm_I x l0 9 27).bind fun v1 => if v1 = 0 then (mX9_judgeThing_315 N l0 l1 l0 x) else (if l2 = (189 : Int32) then (mX9_judgeThing_311 N l0 l1 l0 x) else (if l3 < (4 : Int32) then (mX9_judgeThing_315 N l0 l1 l0 x) else (if (11 : Int32) < l3 then (mX9_judgeThing_315 N l0 l1 l0 x) else (if l3 = (6 : Int32) then (mX9_judgeThing_315 N l0 l1 l0 x) else (if l3 = (7 : Int32) then (mX9_judgeThing_315 N l0 l1 l0 x) else (mX9_judgeThing_311 N l0 l1 l0 x))))))
theorem kX9_judgeThing_273 {d : Nat} {x0 : zv_X} {o : zv_X} (hd : 1 ≤ d) {N : Nat} (l0 : Nat) (l1 : Int32) (l2 : Int32) (l3 : Int32) (x : zv_X) (h : mX9_judgeThing_273 N l0 l1 l2 l3 x = some o) : zv_V (fX9_judgeThing d x0 o) 273 [(0, .ref l0), (1, .int l1), (2, .int l2), (3, .int l3)] [] x := by
  unfold mX9_judgeThing_273 at h
  refine zv_aload_n (n := 0) dX9_judgeThing_273 rfl rfl ?_
  refine zv_aload_n (n := 0) dX9_judgeThing_274 rfl rfl ?_
  refine zr_gI dX9_judgeThing_275 fg_1430 h (fun v1 e2 h => ?_)
  refine zr_if_eq (tgt := 315) dX9_judgeThing_278 (by decide) h (fun c8 h => ?_) (fun c8 h => ?_)
  · exact zv_fewer [0, 1] rfl (kX9_judgeThing_315 hd _ _ _ _ h)
  · refine zv_iload_n (n := 2) dX9_judgeThing_281 rfl rfl ?_
    refine zv_sipush (v := 189) dX9_judgeThing_282 (by decide) ?_
    refine zr_icmp_eq (tgt := 311) dX9_judgeThing_285 (by decide) h (fun c7 h => ?_) (fun c7 h => ?_)
    · exact zv_fewer [0, 1] rfl (kX9_judgeThing_311 hd _ _ _ _ h)
    · refine zv_iload_n (n := 3) dX9_judgeThing_288 rfl rfl ?_
      refine zv_iconst (v := 4) dX9_judgeThing_289 (by decide) ?_
      refine zr_icmp_lt (tgt := 315) dX9_judgeThing_290 (by decide) h (fun c6 h => ?_) (fun c6 h => ?_)
      · exact zv_fewer [0, 1] rfl (kX9_judgeThing_315 hd _ _ _ _ h)
      · refine zv_iload_n (n := 3) dX9_judgeThing_293 rfl rfl ?_
        refine zv_bipush (v := 11) dX9_judgeThing_294 (by decide) ?_
        refine zr_icmp_gt (tgt := 315) dX9_judgeThing_296 (by decide) h (fun c5 h => ?_) (fun c5 h => ?_)
        · exact zv_fewer [0, 1] rfl (kX9_judgeThing_315 hd _ _ _ _ h)
        · refine zv_iload_n (n := 3) dX9_judgeThing_299 rfl rfl ?_
          refine zv_bipush (v := 6) dX9_judgeThing_300 (by decide) ?_
          refine zr_icmp_eq (tgt := 315) dX9_judgeThing_302 (by decide) h (fun c4 h => ?_) (fun c4 h => ?_)
          · exact zv_fewer [0, 1] rfl (kX9_judgeThing_315 hd _ _ _ _ h)
          · refine zv_iload_n (n := 3) dX9_judgeThing_305 rfl rfl ?_
            refine zv_bipush (v := 7) dX9_judgeThing_306 (by decide) ?_
            refine zr_icmp_eq (tgt := 315) dX9_judgeThing_308 (by decide) h (fun c3 h => ?_) (fun c3 h => ?_)
            · exact zv_fewer [0, 1] rfl (kX9_judgeThing_315 hd _ _ _ _ h)
            · exact zv_fewer [0, 1] rfl (kX9_judgeThing_311 hd _ _ _ _ h)
def mX9_judgeThing_412 (N : Nat) (s0 : Int32) (s1 : Int32) (s2 : Nat) (x : zv_X) : Option zv_X := if zm_k x s2 9 = true then ((mX9_push N s2 s1 s0 x).bind fun o1 => mX9_judgeThing_415 N o1) else none
theorem kX9_judgeThing_412 {d : Nat} {x0 : zv_X} {o : zv_X} (hd : 1 ≤ d) {N : Nat} (s0 : Int32) (s1 : Int32) (s2 : Nat) (x : zv_X) (h : mX9_judgeThing_412 N s0 s1 s2 x = some o) : zv_V (fX9_judgeThing d x0 o) 412 [] [.int s0, .int s1, .ref s2] x := by
  unfold mX9_judgeThing_412 at h
  refine zr_cVv (ci := 9) (st := []) dX9_judgeThing_412 mw_X9_push wd_1605 wd_1607 wd_54 rfl rfl [.int s1, .int s0] rfl rfl (Nat.le_of_ble_eq_true rfl) (show d - 1 + 1 ≤ d by omega) h (fun o1 e2 => tX9_push (d := d - 1) (by omega) e2) (fun o1 e2 h => ?_)
  exact kX9_judgeThing_415 hd _ h
def mX9_judgeThing_390 (N : Nat) (l0 : Nat) (l1 : Int32) (l2 : Int32) (s0 : Int32) (s1 : Nat) (x : zv_X) : Option zv_X := if s0 = 0 ∨ s0 = 1 then ((zm_p x s1 9 27 (.int s0)).bind fun x1 => if zm_k x1 l0 9 = true then ((mX9_pop N l0 (3 : Int32) x1).bind fun o3 => if l2 = (192 : Int32) then (mX9_judgeThing_412 N (3 : Int32) l1 l0 o3) else (mX9_judgeThing_412 N (1 : Int32) l1 l0 o3)) else none) else none
theorem kX9_judgeThing_390 {d : Nat} {x0 : zv_X} {o : zv_X} (hd : 1 ≤ d) {N : Nat} (l0 : Nat) (l1 : Int32) (l2 : Int32) (s0 : Int32) (s1 : Nat) (x : zv_X) (h : mX9_judgeThing_390 N l0 l1 l2 s0 s1 x = some o) : zv_V (fX9_judgeThing d x0 o) 390 [(0, .ref l0), (1, .int l1), (2, .int l2)] [.int s0, .ref s1] x := by
  unfold mX9_judgeThing_390 at h
  refine zr_pZ dX9_judgeThing_390 fl_1430 (fun q => nomatch q) h (fun x1 e2 h => ?_)
  refine zv_aload_n (n := 0) dX9_judgeThing_393 rfl rfl ?_
  refine zv_iconst (v := 3) dX9_judgeThing_394 (by decide) ?_
  refine zr_cVv (ci := 9) (st := []) dX9_judgeThing_395 mw_X9_pop wd_1620 wd_1622 wd_57 rfl rfl [.int (3 : Int32)] rfl rfl (Nat.le_of_ble_eq_true rfl) (show d - 1 + 1 ≤ d by omega) h (fun o3 e4 => tX9_pop (d := d - 1) (by omega) e4) (fun o3 e4 h => ?_)
  refine zv_aload_n (n := 0) dX9_judgeThing_398 rfl rfl ?_
  refine zv_iload_n (n := 1) dX9_judgeThing_399 rfl rfl ?_
  refine zv_iload_n (n := 2) dX9_judgeThing_400 rfl rfl ?_
  refine zv_sipush (v := 192) dX9_judgeThing_401 (by decide) ?_
  refine zr_icmp_ne (tgt := 411) dX9_judgeThing_404 (by decide) h (fun c5 h => ?_) (fun c5 h => ?_)
  · refine zv_iconst (v := 1) dX9_judgeThing_411 (by decide) ?_
    exact zv_fewer [] rfl (kX9_judgeThing_412 hd _ _ _ _ h)
  · refine zv_iconst (v := 3) dX9_judgeThing_407 (by decide) ?_
    refine zv_goto (tgt := 412) dX9_judgeThing_408 (by decide) ?_
    exact zv_fewer [] rfl (kX9_judgeThing_412 hd _ _ _ _ h)
def mX9_judgeThing_389 (N : Nat) (l0 : Nat) (l1 : Int32) (l2 : Int32) (s0 : Nat) (x : zv_X) : Option zv_X := mX9_judgeThing_390 N l0 l1 l2 (0 : Int32) s0 x
theorem kX9_judgeThing_389 {d : Nat} {x0 : zv_X} {o : zv_X} (hd : 1 ≤ d) {N : Nat} (l0 : Nat) (l1 : Int32) (l2 : Int32) (s0 : Nat) (x : zv_X) (h : mX9_judgeThing_389 N l0 l1 l2 s0 x = some o) : zv_V (fX9_judgeThing d x0 o) 389 [(0, .ref l0), (1, .int l1), (2, .int l2)] [.ref s0] x := by
  unfold mX9_judgeThing_389 at h
  refine zv_iconst (v := 0) dX9_judgeThing_389 (by decide) ?_
  exact kX9_judgeThing_390 hd _ _ _ _ _ _ h
def mX9_judgeThing_247 (N : Nat) (l0 : Nat) (l1 : Int32) (s0 : Int32) (s1 : Nat) (x : zv_X) : Option zv_X := if s0 = 0 ∨ s0 = 1 then ((zm_p x s1 9 27 (.int s0)).bind fun x1 => if zm_k x1 l0 9 = true then ((mX9_push N l0 l1 (3 : Int32) x1).bind fun o3 => mX9_judgeThing_415 N o3) else none) else none
theorem kX9_judgeThing_247 {d : Nat} {x0 : zv_X} {o : zv_X} (hd : 1 ≤ d) {N : Nat} (l0 : Nat) (l1 : Int32) (s0 : Int32) (s1 : Nat) (x : zv_X) (h : mX9_judgeThing_247 N l0 l1 s0 s1 x = some o) : zv_V (fX9_judgeThing d x0 o) 247 [(0, .ref l0), (1, .int l1)] [.int s0, .ref s1] x := by
  unfold mX9_judgeThing_247 at h
  refine zr_pZ dX9_judgeThing_247 fl_1430 (fun q => nomatch q) h (fun x1 e2 h => ?_)
  refine zv_aload_n (n := 0) dX9_judgeThing_250 rfl rfl ?_
  refine zv_iload_n (n := 1) dX9_judgeThing_251 rfl rfl ?_
  refine zv_iconst (v := 3) dX9_judgeThing_252 (by decide) ?_
  refine zr_cVv (ci := 9) (st := []) dX9_judgeThing_253 mw_X9_push wd_1605 wd_1607 wd_54 rfl rfl [.int l1, .int (3 : Int32)] rfl rfl (Nat.le_of_ble_eq_true rfl) (show d - 1 + 1 ≤ d by omega) h (fun o3 e4 => tX9_push (d := d - 1) (by omega) e4) (fun o3 e4 h => ?_)
  refine zv_goto (tgt := 415) dX9_judgeThing_256 (by decide) ?_
  exact zv_fewer [] rfl (kX9_judgeThing_415 hd _ h)
def mX9_judgeThing_246 (N : Nat) (l0 : Nat) (l1 : Int32) (s0 : Nat) (x : zv_X) : Option zv_X := mX9_judgeThing_247 N l0 l1 (0 : Int32) s0 x
theorem kX9_judgeThing_246 {d : Nat} {x0 : zv_X} {o : zv_X} (hd : 1 ≤ d) {N : Nat} (l0 : Nat) (l1 : Int32) (s0 : Nat) (x : zv_X) (h : mX9_judgeThing_246 N l0 l1 s0 x = some o) : zv_V (fX9_judgeThing d x0 o) 246 [(0, .ref l0), (1, .int l1)] [.ref s0] x := by
  unfold mX9_judgeThing_246 at h
  refine zv_iconst (v := 0) dX9_judgeThing_246 (by decide) ?_
  exact kX9_judgeThing_247 hd _ _ _ _ _ h
def mX9_judgeThing_163 (N : Nat) : Nat → Nat → Int32 → Int32 → Int32 → zv_X → Option zv_X
  | 0, _, _, _, _, _ => none
  | n + 1, l0, l1, l3, l5, x => if l5 < 0 then ((zm_I x l0 9 27).bind fun v1 => if v1 = 0 then (mX9_judgeThing_415 N x) else ((zm_R x l0 9 16).bind fun v3 => (zm_aI x v3 l3).bind fun v5 => if v5 ≤ 0 then (mX9_judgeThing_415 N x) else ((zm_R x l0 9 16).bind fun v7 => (zm_aI x v7 l3).bind fun v9 => if zm_k x l0 9 = true then ((mX9_push N l0 l1 v9 x).bind fun o11 => mX9_judgeThing_415 N o11) else none))) else ((zm_R x l0 9 13).bind fun v15 => (zm_aI x v15 (((4 : Int32) * l3) + l5)).bind fun v17 => if zm_k x l0 9 = true then ((mX9_pop N l0 v17 x).bind fun o19 => mX9_judgeThing_163 N n l0 l1 l3 (l5 + (-1)) o19) else none)
theorem kX9_judgeThing_163 {d : Nat} {x0 : zv_X} {o : zv_X} (hd : 1 ≤ d) {N : Nat} : ∀ (n : Nat) (l0 : Nat) (l1 : Int32) (l3 : Int32) (l5 : Int32) (x : zv_X), mX9_judgeThing_163 N n l0 l1 l3 l5 x = some o → zv_V (fX9_judgeThing d x0 o) 163 [(0, .ref l0), (1, .int l1), (3, .int l3), (5, .int l5)] [] x := by
  intro n
  induction n with
  | zero => intro l0 l1 l3 l5 x h; cases h
  | succ n ih =>
    intro l0 l1 l3 l5 x h
    unfold mX9_judgeThing_163 at h
    refine zv_iload (n := 3) dX9_judgeThing_163 rfl ?_
    refine zr_if_lt (tgt := 189) dX9_judgeThing_165 (by decide) h (fun c21 h => ?_) (fun c21 h => ?_)
    · refine zv_aload_n (n := 0) dX9_judgeThing_189 rfl rfl ?_
      refine zr_gI dX9_judgeThing_190 fg_1430 h (fun v1 e2 h => ?_)
      refine zr_if_eq (tgt := 415) dX9_judgeThing_193 (by decide) h (fun c14 h => ?_) (fun c14 h => ?_)
      · exact zv_fewer [] rfl (kX9_judgeThing_415 hd _ h)
      · refine zv_aload_n (n := 0) dX9_judgeThing_196 rfl rfl ?_
        refine zr_gR dX9_judgeThing_197 fg_1419 h (fun v3 e4 h => ?_)
        refine zv_iload_n (n := 2) dX9_judgeThing_200 rfl rfl ?_
        refine zr_aI dX9_judgeThing_201 h (fun v5 e6 h => ?_)
        refine zr_if_le (tgt := 415) dX9_judgeThing_202 (by decide) h (fun c13 h => ?_) (fun c13 h => ?_)
        · exact zv_fewer [] rfl (kX9_judgeThing_415 hd _ h)
        · refine zv_aload_n (n := 0) dX9_judgeThing_205 rfl rfl ?_
          refine zv_iload_n (n := 1) dX9_judgeThing_206 rfl rfl ?_
          refine zv_aload_n (n := 0) dX9_judgeThing_207 rfl rfl ?_
          refine zr_gR dX9_judgeThing_208 fg_1419 h (fun v7 e8 h => ?_)
          refine zv_iload_n (n := 2) dX9_judgeThing_211 rfl rfl ?_
          refine zr_aI dX9_judgeThing_212 h (fun v9 e10 h => ?_)
          refine zr_cVv (ci := 9) (st := []) dX9_judgeThing_213 mw_X9_push wd_1605 wd_1607 wd_54 rfl rfl [.int l1, .int v9] rfl rfl (Nat.le_of_ble_eq_true rfl) (show d - 1 + 1 ≤ d by omega) h (fun o11 e12 => tX9_push (d := d - 1) (by omega) e12) (fun o11 e12 h => ?_)
          refine zv_goto (tgt := 415) dX9_judgeThing_216 (by decide) ?_
          exact zv_fewer [] rfl (kX9_judgeThing_415 hd _ h)
    · refine zv_aload_n (n := 0) dX9_judgeThing_168 rfl rfl ?_
      refine zv_aload_n (n := 0) dX9_judgeThing_169 rfl rfl ?_
      refine zr_gR dX9_judgeThing_170 fg_1416 h (fun v15 e16 h => ?_)
      refine zv_iconst (v := 4) dX9_judgeThing_173 (by decide) ?_
      refine zv_iload_n (n := 2) dX9_judgeThing_174 rfl rfl ?_
      refine zv_imul dX9_judgeThing_175 ?_
      refine zv_iload (n := 3) dX9_judgeThing_176 rfl ?_
      refine zv_iadd dX9_judgeThing_178 ?_
      refine zr_aI dX9_judgeThing_179 h (fun v17 e18 h => ?_)
      refine zr_cVv (ci := 9) (st := []) dX9_judgeThing_180 mw_X9_pop wd_1620 wd_1622 wd_57 rfl rfl [.int v17] rfl rfl (Nat.le_of_ble_eq_true rfl) (show d - 1 + 1 ≤ d by omega) h (fun o19 e20 => tX9_pop (d := d - 1) (by omega) e20) (fun o19 e20 h => ?_)
      refine zv_iinc (n := 3) (v := l5 + (-1)) (L' := [(5, .int (l5 + (-1))), (0, .ref l0), (1, .int l1), (3, .int l3)]) dX9_judgeThing_183 rfl rfl (Nat.le_of_ble_eq_true rfl) rfl ?_
      refine zv_goto (tgt := 163) dX9_judgeThing_186 (by decide) ?_
      exact zv_fewer [1, 2, 3, 0] rfl (ih _ _ _ _ _ h)
def mX9_judgeThing_161 (N : Nat) (l0 : Nat) (l1 : Int32) (l3 : Int32) (s0 : Int32) (x : zv_X) : Option zv_X := mX9_judgeThing_163 N N l0 l1 l3 s0 x
theorem kX9_judgeThing_161 {d : Nat} {x0 : zv_X} {o : zv_X} (hd : 1 ≤ d) {N : Nat} (l0 : Nat) (l1 : Int32) (l3 : Int32) (s0 : Int32) (x : zv_X) (h : mX9_judgeThing_161 N l0 l1 l3 s0 x = some o) : zv_V (fX9_judgeThing d x0 o) 161 [(0, .ref l0), (1, .int l1), (3, .int l3)] [.int s0] x := by
  unfold mX9_judgeThing_161 at h
  refine zv_istore (L' := [(5, .int s0), (0, .ref l0), (1, .int l1), (3, .int l3)]) dX9_judgeThing_161 (Nat.le_of_ble_eq_true rfl) rfl ?_
  exact zv_fewer [1, 2, 3, 0] rfl (kX9_judgeThing_163 hd N _ _ _ _ _ h)
def mX9_judgeThing_139 (N : Nat) (l0 : Nat) (l1 : Int32) (l3 : Int32) (s0 : Int32) (s1 : Nat) (x : zv_X) : Option zv_X := if s0 = 0 ∨ s0 = 1 then ((zm_p x s1 9 27 (.int s0)).bind fun x1 => (zm_I x1 l0 9 27).bind fun v3 => if v3 = 0 then (mX9_judgeThing_161 N l0 l1 l3 (-1 : Int32) x1) else ((zm_R x1 l0 9 12).bind fun v5 => (zm_aI x1 v5 l3).bind fun v7 => mX9_judgeThing_161 N l0 l1 l3 (v7 - (1 : Int32)) x1)) else none
theorem kX9_judgeThing_139 {d : Nat} {x0 : zv_X} {o : zv_X} (hd : 1 ≤ d) {N : Nat} (l0 : Nat) (l1 : Int32) (l3 : Int32) (s0 : Int32) (s1 : Nat) (x : zv_X) (h : mX9_judgeThing_139 N l0 l1 l3 s0 s1 x = some o) : zv_V (fX9_judgeThing d x0 o) 139 [(0, .ref l0), (1, .int l1), (3, .int l3)] [.int s0, .ref s1] x := by
  unfold mX9_judgeThing_139 at h
  refine zr_pZ dX9_judgeThing_139 fl_1430 (fun q => nomatch q) h (fun x1 e2 h => ?_)
  refine zv_aload_n (n := 0) dX9_judgeThing_142 rfl rfl ?_
  refine zr_gI dX9_judgeThing_143 fg_1430 h (fun v3 e4 h => ?_)
  refine zr_if_eq (tgt := 160) dX9_judgeThing_146 (by decide) h (fun c9 h => ?_) (fun c9 h => ?_)
  · refine zv_iconst (v := -1) dX9_judgeThing_160 (by decide) ?_
    exact kX9_judgeThing_161 hd _ _ _ _ _ h
  · refine zv_aload_n (n := 0) dX9_judgeThing_149 rfl rfl ?_
    refine zr_gR dX9_judgeThing_150 fg_1415 h (fun v5 e6 h => ?_)
    refine zv_iload_n (n := 2) dX9_judgeThing_153 rfl rfl ?_
    refine zr_aI dX9_judgeThing_154 h (fun v7 e8 h => ?_)
    refine zv_iconst (v := 1) dX9_judgeThing_155 (by decide) ?_
    refine zv_isub dX9_judgeThing_156 ?_
    refine zv_goto (tgt := 161) dX9_judgeThing_157 (by decide) ?_
    exact kX9_judgeThing_161 hd _ _ _ _ _ h
def mX9_judgeThing_138 (N : Nat) (l0 : Nat) (l1 : Int32) (l3 : Int32) (s0 : Nat) (x : zv_X) : Option zv_X := mX9_judgeThing_139 N l0 l1 l3 (0 : Int32) s0 x
theorem kX9_judgeThing_138 {d : Nat} {x0 : zv_X} {o : zv_X} (hd : 1 ≤ d) {N : Nat} (l0 : Nat) (l1 : Int32) (l3 : Int32) (s0 : Nat) (x : zv_X) (h : mX9_judgeThing_138 N l0 l1 l3 s0 x = some o) : zv_V (fX9_judgeThing d x0 o) 138 [(0, .ref l0), (1, .int l1), (3, .int l3)] [.ref s0] x := by
  unfold mX9_judgeThing_138 at h
  refine zv_iconst (v := 0) dX9_judgeThing_138 (by decide) ?_
  exact kX9_judgeThing_139 hd _ _ _ _ _ _ h
def mX9_judgeThing_0 (N : Nat) (l0 : Nat) (l1 : Int32) (l2 : Int32) (l3 : Int32) (l4 : Int32) (x : zv_X) : Option zv_X := if l2 = (180 : Int32) then (mX9_judgeThing_14 N l0 l1 l2 l3 l4 x) else (if l2 = (181 : Int32) then (mX9_judgeThing_14 N l0 l1 l2 l3 l4 x) else (if l2 = (184 : Int32) then ((zm_I x l0 9 27).bind fun v24 => if v24 = 0 then (mX9_judgeThing_138 N l0 l1 l3 l0 x) else ((zm_I x l0 9 19).bind fun v26 => if v26 < l3 then (mX9_judgeThing_138 N l0 l1 l3 l0 x) else (if (20 : Int32) ≤ l3 then (mX9_judgeThing_138 N l0 l1 l3 l0 x) else (mX9_judgeThing_139 N l0 l1 l3 (1 : Int32) l0 x)))) else (if l2 = (187 : Int32) then ((zm_I x l0 9 27).bind fun v17 => if v17 = 0 then (mX9_judgeThing_246 N l0 l1 l0 x) else ((zm_I x l0 9 5).bind fun v19 => if v19 ≤ l3 then (mX9_judgeThing_246 N l0 l1 l0 x) else (mX9_judgeThing_247 N l0 l1 (1 : Int32) l0 x))) else (if l2 = (188 : Int32) then (mX9_judgeThing_273 N l0 l1 l2 l3 x) else (if l2 = (189 : Int32) then (mX9_judgeThing_273 N l0 l1 l2 l3 x) else (if l2 = (190 : Int32) then (if zm_k x l0 9 = true then ((mX9_pop N l0 (3 : Int32) x).bind fun o10 => if zm_k o10 l0 9 = true then ((mX9_push N l0 l1 (1 : Int32) o10).bind fun o12 => mX9_judgeThing_415 N o12) else none) else none) else (if l2 = (191 : Int32) then (if zm_k x l0 9 = true then ((mX9_pop N l0 (3 : Int32) x).bind fun o7 => mX9_judgeThing_415 N o7) else none) else ((zm_I x l0 9 27).bind fun v1 => if v1 = 0 then (mX9_judgeThing_389 N l0 l1 l2 l0 x) else ((zm_I x l0 9 5).bind fun v3 => if v3 ≤ l3 then (mX9_judgeThing_389 N l0 l1 l2 l0 x) else (mX9_judgeThing_390 N l0 l1 l2 (1 : Int32) l0 x))))))))))
theorem kX9_judgeThing_0 {d : Nat} {x0 : zv_X} {o : zv_X} (hd : 1 ≤ d) {N : Nat} (l0 : Nat) (l1 : Int32) (l2 : Int32) (l3 : Int32) (l4 : Int32) (x : zv_X) (h : mX9_judgeThing_0 N l0 l1 l2 l3 l4 x = some o) : zv_V (fX9_judgeThing d x0 o) 0 [(0, .ref l0), (1, .int l1), (2, .int l2), (3, .int l3), (4, .int l4)] [] x := by
  unfold mX9_judgeThing_0 at h
  refine zv_iload_n (n := 2) dX9_judgeThing_0 rfl rfl ?_
  refine zv_sipush (v := 180) dX9_judgeThing_1 (by decide) ?_
  refine zr_icmp_eq (tgt := 14) dX9_judgeThing_4 (by decide) h (fun c33 h => ?_) (fun c33 h => ?_)
  · exact kX9_judgeThing_14 hd _ _ _ _ _ _ h
  · refine zv_iload_n (n := 2) dX9_judgeThing_7 rfl rfl ?_
    refine zv_sipush (v := 181) dX9_judgeThing_8 (by decide) ?_
    refine zr_icmp_ne (tgt := 105) dX9_judgeThing_11 (by decide) h (fun c32 h => ?_) (fun c32 h => ?_)
    · refine zv_iload_n (n := 2) dX9_judgeThing_105 rfl rfl ?_
      refine zv_sipush (v := 184) dX9_judgeThing_106 (by decide) ?_
      refine zr_icmp_ne (tgt := 219) dX9_judgeThing_109 (by decide) h (fun c31 h => ?_) (fun c31 h => ?_)
      · refine zv_iload_n (n := 2) dX9_judgeThing_219 rfl rfl ?_
        refine zv_sipush (v := 187) dX9_judgeThing_220 (by decide) ?_
        refine zr_icmp_ne (tgt := 259) dX9_judgeThing_223 (by decide) h (fun c23 h => ?_) (fun c23 h => ?_)
        · refine zv_iload_n (n := 2) dX9_judgeThing_259 rfl rfl ?_
          refine zv_sipush (v := 188) dX9_judgeThing_260 (by decide) ?_
          refine zr_icmp_eq (tgt := 273) dX9_judgeThing_263 (by decide) h (fun c16 h => ?_) (fun c16 h => ?_)
          · exact zv_fewer [0, 1, 2, 3] rfl (kX9_judgeThing_273 hd _ _ _ _ _ h)
          · refine zv_iload_n (n := 2) dX9_judgeThing_266 rfl rfl ?_
            refine zv_sipush (v := 189) dX9_judgeThing_267 (by decide) ?_
            refine zr_icmp_ne (tgt := 333) dX9_judgeThing_270 (by decide) h (fun c15 h => ?_) (fun c15 h => ?_)
            · refine zv_iload_n (n := 2) dX9_judgeThing_333 rfl rfl ?_
              refine zv_sipush (v := 190) dX9_judgeThing_334 (by decide) ?_
              refine zr_icmp_ne (tgt := 354) dX9_judgeThing_337 (by decide) h (fun c14 h => ?_) (fun c14 h => ?_)
              · refine zv_iload_n (n := 2) dX9_judgeThing_354 rfl rfl ?_
                refine zv_sipush (v := 191) dX9_judgeThing_355 (by decide) ?_
                refine zr_icmp_ne (tgt := 369) dX9_judgeThing_358 (by decide) h (fun c9 h => ?_) (fun c9 h => ?_)
                · refine zv_aload_n (n := 0) dX9_judgeThing_369 rfl rfl ?_
                  refine zv_aload_n (n := 0) dX9_judgeThing_370 rfl rfl ?_
                  refine zr_gI dX9_judgeThing_371 fg_1430 h (fun v1 e2 h => ?_)
                  refine zr_if_eq (tgt := 389) dX9_judgeThing_374 (by decide) h (fun c6 h => ?_) (fun c6 h => ?_)
                  · exact zv_fewer [0, 1, 2] rfl (kX9_judgeThing_389 hd _ _ _ _ _ h)
                  · refine zv_iload_n (n := 3) dX9_judgeThing_377 rfl rfl ?_
                    refine zv_aload_n (n := 0) dX9_judgeThing_378 rfl rfl ?_
                    refine zr_gI dX9_judgeThing_379 fg_1408 h (fun v3 e4 h => ?_)
                    refine zr_icmp_ge (tgt := 389) dX9_judgeThing_382 (by decide) h (fun c5 h => ?_) (fun c5 h => ?_)
                    · exact zv_fewer [0, 1, 2] rfl (kX9_judgeThing_389 hd _ _ _ _ _ h)
                    · refine zv_iconst (v := 1) dX9_judgeThing_385 (by decide) ?_
                      refine zv_goto (tgt := 390) dX9_judgeThing_386 (by decide) ?_
                      exact zv_fewer [0, 1, 2] rfl (kX9_judgeThing_390 hd _ _ _ _ _ _ h)
                · refine zv_aload_n (n := 0) dX9_judgeThing_361 rfl rfl ?_
                  refine zv_iconst (v := 3) dX9_judgeThing_362 (by decide) ?_
                  refine zr_cVv (ci := 9) (st := []) dX9_judgeThing_363 mw_X9_pop wd_1620 wd_1622 wd_57 rfl rfl [.int (3 : Int32)] rfl rfl (Nat.le_of_ble_eq_true rfl) (show d - 1 + 1 ≤ d by omega) h (fun o7 e8 => tX9_pop (d := d - 1) (by omega) e8) (fun o7 e8 h => ?_)
                  refine zv_goto (tgt := 415) dX9_judgeThing_366 (by decide) ?_
                  exact zv_fewer [] rfl (kX9_judgeThing_415 hd _ h)
              · refine zv_aload_n (n := 0) dX9_judgeThing_340 rfl rfl ?_
                refine zv_iconst (v := 3) dX9_judgeThing_341 (by decide) ?_
                refine zr_cVv (ci := 9) (st := []) dX9_judgeThing_342 mw_X9_pop wd_1620 wd_1622 wd_57 rfl rfl [.int (3 : Int32)] rfl rfl (Nat.le_of_ble_eq_true rfl) (show d - 1 + 1 ≤ d by omega) h (fun o10 e11 => tX9_pop (d := d - 1) (by omega) e11) (fun o10 e11 h => ?_)
                refine zv_aload_n (n := 0) dX9_judgeThing_345 rfl rfl ?_
                refine zv_iload_n (n := 1) dX9_judgeThing_346 rfl rfl ?_
                refine zv_iconst (v := 1) dX9_judgeThing_347 (by decide) ?_
                refine zr_cVv (ci := 9) (st := []) dX9_judgeThing_348 mw_X9_push wd_1605 wd_1607 wd_54 rfl rfl [.int l1, .int (1 : Int32)] rfl rfl (Nat.le_of_ble_eq_true rfl) (show d - 1 + 1 ≤ d by omega) h (fun o12 e13 => tX9_push (d := d - 1) (by omega) e13) (fun o12 e13 h => ?_)
                refine zv_goto (tgt := 415) dX9_judgeThing_351 (by decide) ?_
                exact zv_fewer [] rfl (kX9_judgeThing_415 hd _ h)
            · exact zv_fewer [0, 1, 2, 3] rfl (kX9_judgeThing_273 hd _ _ _ _ _ h)
        · refine zv_aload_n (n := 0) dX9_judgeThing_226 rfl rfl ?_
          refine zv_aload_n (n := 0) dX9_judgeThing_227 rfl rfl ?_
          refine zr_gI dX9_judgeThing_228 fg_1430 h (fun v17 e18 h => ?_)
          refine zr_if_eq (tgt := 246) dX9_judgeThing_231 (by decide) h (fun c22 h => ?_) (fun c22 h => ?_)
          · exact zv_fewer [0, 1] rfl (kX9_judgeThing_246 hd _ _ _ _ h)
          · refine zv_iload_n (n := 3) dX9_judgeThing_234 rfl rfl ?_
            refine zv_aload_n (n := 0) dX9_judgeThing_235 rfl rfl ?_
            refine zr_gI dX9_judgeThing_236 fg_1408 h (fun v19 e20 h => ?_)
            refine zr_icmp_ge (tgt := 246) dX9_judgeThing_239 (by decide) h (fun c21 h => ?_) (fun c21 h => ?_)
            · exact zv_fewer [0, 1] rfl (kX9_judgeThing_246 hd _ _ _ _ h)
            · refine zv_iconst (v := 1) dX9_judgeThing_242 (by decide) ?_
              refine zv_goto (tgt := 247) dX9_judgeThing_243 (by decide) ?_
              exact zv_fewer [0, 1] rfl (kX9_judgeThing_247 hd _ _ _ _ _ h)
      · refine zv_aload_n (n := 0) dX9_judgeThing_112 rfl rfl ?_
        refine zv_aload_n (n := 0) dX9_judgeThing_113 rfl rfl ?_
        refine zr_gI dX9_judgeThing_114 fg_1430 h (fun v24 e25 h => ?_)
        refine zr_if_eq (tgt := 138) dX9_judgeThing_117 (by decide) h (fun c30 h => ?_) (fun c30 h => ?_)
        · exact zv_fewer [0, 1, 3] rfl (kX9_judgeThing_138 hd _ _ _ _ _ h)
        · refine zv_iload_n (n := 3) dX9_judgeThing_120 rfl rfl ?_
          refine zv_aload_n (n := 0) dX9_judgeThing_121 rfl rfl ?_
          refine zr_gI dX9_judgeThing_122 fg_1422 h (fun v26 e27 h => ?_)
          refine zr_icmp_gt (tgt := 138) dX9_judgeThing_125 (by decide) h (fun c29 h => ?_) (fun c29 h => ?_)
          · exact zv_fewer [0, 1, 3] rfl (kX9_judgeThing_138 hd _ _ _ _ _ h)
          · refine zv_iload_n (n := 3) dX9_judgeThing_128 rfl rfl ?_
            refine zv_bipush (v := 20) dX9_judgeThing_129 (by decide) ?_
            refine zr_icmp_ge (tgt := 138) dX9_judgeThing_131 (by decide) h (fun c28 h => ?_) (fun c28 h => ?_)
            · exact zv_fewer [0, 1, 3] rfl (kX9_judgeThing_138 hd _ _ _ _ _ h)
            · refine zv_iconst (v := 1) dX9_judgeThing_134 (by decide) ?_
              refine zv_goto (tgt := 139) dX9_judgeThing_135 (by decide) ?_
              exact zv_fewer [0, 1, 3] rfl (kX9_judgeThing_139 hd _ _ _ _ _ _ h)
    · exact kX9_judgeThing_14 hd _ _ _ _ _ _ h
def mX9_judgeThing (N : Nat) (a0 : Nat) (a1 : Int32) (a2 : Int32) (a3 : Int32) (a4 : Int32) (x : zv_X) : Option zv_X := mX9_judgeThing_0 N a0 a1 a2 a3 a4 x
theorem tX9_judgeThing {d : Nat} (hd : 1 ≤ d) {N : Nat} {x : zv_X} {a0 : Nat} {a1 : Int32} {a2 : Int32} {a3 : Int32} {a4 : Int32} {o : zv_X} (h : mX9_judgeThing N a0 a1 a2 a3 a4 x = some o) : zv_T d yX9_judgeThing cX9_judgeThing 6 (none) [.ref a0, .int a1, .int a2, .int a3, .int a4] x o none := by
  unfold mX9_judgeThing at h
  exact zv_enter (by decide) (Nat.le_of_ble_eq_true rfl) (kX9_judgeThing_0 hd _ _ _ _ _ _ h)
