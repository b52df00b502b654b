abbrev fX9_doStack (d : Nat) (x0 : zv_X) (o : zv_X) : zv_G := (d, RX9, cX9_doStack, 7, none, ("doStack", []), x0, o, zv_fin x0 o none)
def mX9_doStack_117 (N : Nat)  (x : zv_X) : Option zv_X := some x
theorem kX9_doStack_117 {d : Nat} {x0 : zv_X} {o : zv_X} (hd : 1 ≤ d) {N : Nat}  (x : zv_X) (h : mX9_doStack_117 N  x = some o) : zv_V (fX9_doStack d x0 o) 117 [] [] x := by
  unfold mX9_doStack_117 at h
  cases h
  exact zv_vret dX9_doStack_117 rfl
def mX9_doStack_0 (N : Nat) (l0 : Nat) (l1 : Int32) (l2 : Int32) (x : zv_X) : Option zv_X := (zm_R x l0 9 42).bind fun v1 => (zm_aI x v1 l1).bind fun v3 => if (89 : Int32) ≤ l2 then (if l2 = (89 : Int32) then ((zm_R x l0 9 46).bind fun v37 => (zm_aI x v37 ((((12 : Int32) * l1) + v3) - (1 : Int32))).bind fun v39 => (zm_R x l0 9 45).bind fun v41 => (zm_aL x v41 ((((12 : Int32) * l1) + v3) - (1 : Int32))).bind fun v43 => if zm_k x l0 9 = true then ((mX9_pushValue N l0 v39 v43 x).bind fun o45 => mX9_doStack_117 N o45) else none) else ((zm_R x l0 9 45).bind fun v5 => (zm_aL x v5 ((((12 : Int32) * l1) + v3) - (1 : Int32))).bind fun v7 => (zm_R x l0 9 46).bind fun v9 => (zm_aI x v9 ((((12 : Int32) * l1) + v3) - (1 : Int32))).bind fun v11 => (zm_R x l0 9 45).bind fun v13 => (zm_R x l0 9 45).bind fun v15 => (zm_aL x v15 (((((12 : Int32) * l1) + v3) - (1 : Int32)) - (1 : Int32))).bind fun v17 => (zm_sL x v13 ((((12 : Int32) * l1) + v3) - (1 : Int32)) v17).bind fun x19 => (zm_R x19 l0 9 46).bind fun v21 => (zm_R x19 l0 9 46).bind fun v23 => (zm_aI x19 v23 (((((12 : Int32) * l1) + v3) - (1 : Int32)) - (1 : Int32))).bind fun v25 => (zm_sI x19 v21 ((((12 : Int32) * l1) + v3) - (1 : Int32)) v25).bind fun x27 => (zm_R x27 l0 9 45).bind fun v29 => (zm_sL x27 v29 (((((12 : Int32) * l1) + v3) - (1 : Int32)) - (1 : Int32)) v7).bind fun x31 => (zm_R x31 l0 9 46).bind fun v33 => (zm_sI x31 v33 (((((12 : Int32) * l1) + v3) - (1 : Int32)) - (1 : Int32)) v11).bind fun x35 => mX9_doStack_117 N x35)) else (if zm_k x l0 9 = true then ((mX9_popValue N l0 x).bind fun o48 => mX9_doStack_117 N o48.1) else none)
theorem kX9_doStack_0 {d : Nat} {x0 : zv_X} {o : zv_X} (hd : 1 ≤ d) {N : Nat} (l0 : Nat) (l1 : Int32) (l2 : Int32) (x : zv_X) (h : mX9_doStack_0 N l0 l1 l2 x = some o) : zv_V (fX9_doStack d x0 o) 0 [(0, .ref l0), (1, .int l1), (2, .int l2)] [] x := by
  unfold mX9_doStack_0 at h
  refine zv_bipush (v := 12) dX9_doStack_0 (by decide) ?_
  refine zv_iload_n (n := 1) dX9_doStack_2 rfl rfl ?_
  refine zv_imul dX9_doStack_3 ?_
  refine zv_aload_n (n := 0) dX9_doStack_4 rfl rfl ?_
  refine zr_gR dX9_doStack_5 fg_1445 h (fun v1 e2 h => ?_)
  refine zv_iload_n (n := 1) dX9_doStack_8 rfl rfl ?_
  refine zr_aI dX9_doStack_9 h (fun v3 e4 h => ?_)
  refine zv_iadd dX9_doStack_10 ?_
  refine zv_iconst (v := 1) dX9_doStack_11 (by decide) ?_
  refine zv_isub dX9_doStack_12 ?_
  refine zv_istore_n (L' := [(3, .int ((((12 : Int32) * l1) + v3) - (1 : Int32))), (0, .ref l0), (1, .int l1), (2, .int l2)]) dX9_doStack_13 rfl (Nat.le_of_ble_eq_true rfl) rfl ?_
  refine zv_iload_n (n := 3) dX9_doStack_14 rfl rfl ?_
  refine zv_bipush (v := 89) dX9_doStack_15 (by decide) ?_
  refine zr_icmp_ge (tgt := 28) dX9_doStack_17 (by decide) h (fun c50 h => ?_) (fun c50 h => ?_)
  · refine zv_iload_n (n := 3) dX9_doStack_28 rfl rfl ?_
    refine zv_bipush (v := 89) dX9_doStack_29 (by decide) ?_
    refine zr_icmp_ne (tgt := 53) dX9_doStack_31 (by decide) h (fun c47 h => ?_) (fun c47 h => ?_)
    · refine zv_aload_n (n := 1) dX9_doStack_53 rfl rfl ?_
      refine zr_gR dX9_doStack_54 fg_1448 h (fun v5 e6 h => ?_)
      refine zv_iload_n (n := 0) dX9_doStack_57 rfl rfl ?_
      refine zr_aL dX9_doStack_58 h (fun v7 e8 h => ?_)
      refine zv_lstore (L' := [(4, .long v7), (3, .int ((((12 : Int32) * l1) + v3) - (1 : Int32))), (0, .ref l0), (1, .int l1), (2, .int l2)]) dX9_doStack_59 (Nat.le_of_ble_eq_true rfl) rfl ?_
      refine zv_aload_n (n := 2) dX9_doStack_61 rfl rfl ?_
      refine zr_gR dX9_doStack_62 fg_1449 h (fun v9 e10 h => ?_)
      refine zv_iload_n (n := 1) dX9_doStack_65 rfl rfl ?_
      refine zr_aI dX9_doStack_66 h (fun v11 e12 h => ?_)
      refine zv_istore (L' := [(6, .int v11), (4, .long v7), (3, .int ((((12 : Int32) * l1) + v3) - (1 : Int32))), (0, .ref l0), (1, .int l1), (2, .int l2)]) dX9_doStack_67 (Nat.le_of_ble_eq_true rfl) rfl ?_
      refine zv_aload_n (n := 3) dX9_doStack_69 rfl rfl ?_
      refine zr_gR dX9_doStack_70 fg_1448 h (fun v13 e14 h => ?_)
      refine zv_iload_n (n := 2) dX9_doStack_73 rfl rfl ?_
      refine zv_aload_n (n := 3) dX9_doStack_74 rfl rfl ?_
      refine zr_gR dX9_doStack_75 fg_1448 h (fun v15 e16 h => ?_)
      refine zv_iload_n (n := 2) dX9_doStack_78 rfl rfl ?_
      refine zv_iconst (v := 1) dX9_doStack_79 (by decide) ?_
      refine zv_isub dX9_doStack_80 ?_
      refine zr_aL dX9_doStack_81 h (fun v17 e18 h => ?_)
      refine zr_sL dX9_doStack_82 h (fun x19 e20 h => ?_)
      refine zv_aload_n (n := 3) dX9_doStack_83 rfl rfl ?_
      refine zr_gR dX9_doStack_84 fg_1449 h (fun v21 e22 h => ?_)
      refine zv_iload_n (n := 2) dX9_doStack_87 rfl rfl ?_
      refine zv_aload_n (n := 3) dX9_doStack_88 rfl rfl ?_
      refine zr_gR dX9_doStack_89 fg_1449 h (fun v23 e24 h => ?_)
      refine zv_iload_n (n := 2) dX9_doStack_92 rfl rfl ?_
      refine zv_iconst (v := 1) dX9_doStack_93 (by decide) ?_
      refine zv_isub dX9_doStack_94 ?_
      refine zr_aI dX9_doStack_95 h (fun v25 e26 h => ?_)
      refine zr_sI dX9_doStack_96 h (fun x27 e28 h => ?_)
      refine zv_aload_n (n := 3) dX9_doStack_97 rfl rfl ?_
      refine zr_gR dX9_doStack_98 fg_1448 h (fun v29 e30 h => ?_)
      refine zv_iload_n (n := 2) dX9_doStack_101 rfl rfl ?_
      refine zv_iconst (v := 1) dX9_doStack_102 (by decide) ?_
      refine zv_isub dX9_doStack_103 ?_
      refine zv_lload (n := 1) dX9_doStack_104 rfl ?_
      refine zr_sL dX9_doStack_106 h (fun x31 e32 h => ?_)
      refine zv_aload_n (n := 3) dX9_doStack_107 rfl rfl ?_
      refine zr_gR dX9_doStack_108 fg_1449 h (fun v33 e34 h => ?_)
      refine zv_iload_n (n := 2) dX9_doStack_111 rfl rfl ?_
      refine zv_iconst (v := 1) dX9_doStack_112 (by decide) ?_
      refine zv_isub dX9_doStack_113 ?_
      refine zv_iload (n := 0) dX9_doStack_114 rfl ?_
      refine zr_sI dX9_doStack_116 h (fun x35 e36 h => ?_)
      exact zv_fewer [] rfl (kX9_doStack_117 hd _ h)
    · refine zv_aload_n (n := 1) dX9_doStack_34 rfl rfl ?_
      refine zv_aload_n (n := 1) dX9_doStack_35 rfl rfl ?_
      refine zr_gR dX9_doStack_36 fg_1449 h (fun v37 e38 h => ?_)
      refine zv_iload_n (n := 0) dX9_doStack_39 rfl rfl ?_
      refine zr_aI dX9_doStack_40 h (fun v39 e40 h => ?_)
      refine zv_aload_n (n := 1) dX9_doStack_41 rfl rfl ?_
      refine zr_gR dX9_doStack_42 fg_1448 h (fun v41 e42 h => ?_)
      refine zv_iload_n (n := 0) dX9_doStack_45 rfl rfl ?_
      refine zr_aL dX9_doStack_46 h (fun v43 e44 h => ?_)
      refine zr_cVv (ci := 9) (st := []) dX9_doStack_47 mw_X9_pushValue wd_1670 wd_1672 wd_67 rfl rfl [.int v39, .long v43] rfl rfl (Nat.le_of_ble_eq_true rfl) (show d - 1 + 1 ≤ d by omega) h (fun o45 e46 => tX9_pushValue (d := d - 1) (by omega) e46) (fun o45 e46 h => ?_)
      refine zv_goto (tgt := 117) dX9_doStack_50 (by decide) ?_
      exact zv_fewer [] rfl (kX9_doStack_117 hd _ h)
  · refine zv_aload_n (n := 1) dX9_doStack_20 rfl rfl ?_
    refine zr_cVl (ci := 9) (st := []) dX9_doStack_21 mw_X9_popValue wd_1727 wd_1729 wd_79 rfl rfl [] rfl rfl (Nat.le_of_ble_eq_true rfl) (show d - 1 + 1 ≤ d by omega) h (fun o48 e49 => tX9_popValue (d := d - 1) (by omega) e49) (fun o48 e49 h => ?_)
    refine zv_pop2_2 dX9_doStack_24 rfl ?_
    refine zv_goto (tgt := 117) dX9_doStack_25 (by decide) ?_
    exact zv_fewer [] rfl (kX9_doStack_117 hd _ h)
def mX9_doStack (N : Nat) (a0 : Nat) (a1 : Int32) (a2 : Int32) (x : zv_X) : Option zv_X := mX9_doStack_0 N a0 a1 a2 x
theorem tX9_doStack {d : Nat} (hd : 1 ≤ d) {N : Nat} {x : zv_X} {a0 : Nat} {a1 : Int32} {a2 : Int32} {o : zv_X} (h : mX9_doStack N a0 a1 a2 x = some o) : zv_T d yX9_doStack cX9_doStack 7 (none) [.ref a0, .int a1, .int a2] x o none := by
  unfold mX9_doStack at h
  exact zv_enter (by decide) (Nat.le_of_ble_eq_true rfl) (kX9_doStack_0 hd _ _ _ _ h)

abbrev fX9_doStore (d : Nat) (x0 : zv_X) (o : zv_X) : zv_G := (d, RX9, cX9_doStore, 11, none, ("doStore", []), x0, o, zv_fin x0 o none)
def mX9_doStore_143 (N : Nat) (s0 : Int64) (s1 : Int32) (s2 : Nat) (x : zv_X) : Option zv_X := (zm_sL x s2 s1 s0).bind fun x1 => some x1
theorem kX9_doStore_143 {d : Nat} {x0 : zv_X} {o : zv_X} (hd : 5 ≤ d) {N : Nat} (s0 : Int64) (s1 : Int32) (s2 : Nat) (x : zv_X) (h : mX9_doStore_143 N s0 s1 s2 x = some o) : zv_V (fX9_doStore d x0 o) 143 [] [.long s0, .int s1, .ref s2] x := by
  unfold mX9_doStore_143 at h
  refine zr_sL dX9_doStore_143 h (fun x1 e2 h => ?_)
  cases h
  exact zv_vret dX9_doStore_144 rfl
def mX9_doStore_0 (N : Nat) (l0 : Nat) (l1 : Int32) (x : zv_X) : Option zv_X := if zm_k x l0 9 = true then ((mX9_peek N l0 (0 : Int32) x).bind fun o1 => if zm_k o1.1 l0 9 = true then ((mX9_peek N l0 (1 : Int32) o1.1).bind fun o3 => if zm_k o3.1 l0 9 = true then ((mX9_peek N l0 (2 : Int32) o3.1).bind fun o5 => if zm_k o5.1 l0 9 = true then ((mX9_wrong N l0 l1 o5.2 o3.2 o5.1).bind fun o7 => if o7.2 ≤ 0 then (if zm_k o7.1 l0 9 = true then ((mX9_popValue N l0 o7.1).bind fun o9 => if zm_k o9.1 l0 9 = true then ((mX9_popValue N l0 o9.1).bind fun o11 => if zm_k o11.1 l0 9 = true then ((mX9_popValue N l0 o11.1).bind fun o13 => (zm_R o13.1 l0 9 32).bind fun v15 => (zm_aI o13.1 v15 ((Int64.toInt32 o5.2) - (1 : Int32))).bind fun v17 => (zm_R o13.1 l0 9 37).bind fun v19 => (zm_R o13.1 l0 9 34).bind fun v21 => (zm_aI o13.1 v21 ((Int64.toInt32 o5.2) - (1 : Int32))).bind fun v23 => if v17 = (4 : Int32) then (mX9_doStore_143 N (o1.2 &&& (1 : Int64)) (v23 + (Int64.toInt32 o3.2)) v19 o13.1) else (if v17 = (8 : Int32) then (mX9_doStore_143 N (Int32.toInt64 ((Int32.toInt8 (Int64.toInt32 o1.2)).toInt32)) (v23 + (Int64.toInt32 o3.2)) v19 o13.1) else (if v17 = (5 : Int32) then (mX9_doStore_143 N (Int32.toInt64 ((Int32.toUInt32 (Int64.toInt32 o1.2) % 65536).toInt32)) (v23 + (Int64.toInt32 o3.2)) v19 o13.1) else (if v17 = (9 : Int32) then (mX9_doStore_143 N (Int32.toInt64 ((Int32.toInt16 (Int64.toInt32 o1.2)).toInt32)) (v23 + (Int64.toInt32 o3.2)) v19 o13.1) else (mX9_doStore_143 N o1.2 (v23 + (Int64.toInt32 o3.2)) v19 o13.1))))) else none) else none) else none) else (if zm_k o7.1 l0 9 = true then ((mX9_fail N l0 o7.2 o7.1).bind fun o29 => some o29) else none)) else none) else none) else none) else none
theorem kX9_doStore_0 {d : Nat} {x0 : zv_X} {o : zv_X} (hd : 5 ≤ d) {N : Nat} (l0 : Nat) (l1 : Int32) (x : zv_X) (h : mX9_doStore_0 N l0 l1 x = some o) : zv_V (fX9_doStore d x0 o) 0 [(0, .ref l0), (1, .int l1)] [] x := by
  unfold mX9_doStore_0 at h
  refine zv_aload_n (n := 0) dX9_doStore_0 rfl rfl ?_
  refine zv_iconst (v := 0) dX9_doStore_1 (by decide) ?_
  refine zr_cVl (ci := 9) (st := []) dX9_doStore_2 mw_X9_peek wd_1678 wd_1680 wd_69 rfl rfl [.int (0 : Int32)] rfl rfl (Nat.le_of_ble_eq_true rfl) (show d - 1 + 1 ≤ d by omega) h (fun o1 e2 => tX9_peek (d := d - 1) (by omega) e2) (fun o1 e2 h => ?_)
  refine zv_lstore_n (L' := [(2, .long o1.2), (0, .ref l0), (1, .int l1)]) dX9_doStore_5 rfl (Nat.le_of_ble_eq_true rfl) rfl ?_
  refine zv_aload_n (n := 1) dX9_doStore_6 rfl rfl ?_
  refine zv_iconst (v := 1) dX9_doStore_7 (by decide) ?_
  refine zr_cVl (ci := 9) (st := []) dX9_doStore_8 mw_X9_peek wd_1678 wd_1680 wd_69 rfl rfl [.int (1 : Int32)] rfl rfl (Nat.le_of_ble_eq_true rfl) (show d - 1 + 1 ≤ d by omega) h (fun o3 e4 => tX9_peek (d := d - 1) (by omega) e4) (fun o3 e4 h => ?_)
  refine zv_lstore (L' := [(4, .long o3.2), (2, .long o1.2), (0, .ref l0), (1, .int l1)]) dX9_doStore_11 (Nat.le_of_ble_eq_true rfl) rfl ?_
  refine zv_aload_n (n := 2) dX9_doStore_13 rfl rfl ?_
  refine zv_iconst (v := 2) dX9_doStore_14 (by decide) ?_
  refine zr_cVl (ci := 9) (st := []) dX9_doStore_15 mw_X9_peek wd_1678 wd_1680 wd_69 rfl rfl [.int (2 : Int32)] rfl rfl (Nat.le_of_ble_eq_true rfl) (show d - 1 + 1 ≤ d by omega) h (fun o5 e6 => tX9_peek (d := d - 1) (by omega) e6) (fun o5 e6 h => ?_)
  refine zv_lstore (L' := [(6, .long o5.2), (4, .long o3.2), (2, .long o1.2), (0, .ref l0), (1, .int l1)]) dX9_doStore_18 (Nat.le_of_ble_eq_true rfl) rfl ?_
  refine zv_aload_n (n := 3) dX9_doStore_20 rfl rfl ?_
  refine zv_iload_n (n := 4) dX9_doStore_21 rfl rfl ?_
  refine zv_lload (n := 0) dX9_doStore_22 rfl ?_
  refine zv_lload (n := 1) dX9_doStore_24 rfl ?_
  refine zr_cVi (ci := 9) (st := []) dX9_doStore_26 mw_X9_wrong wd_1682 wd_1684 wd_70 rfl rfl [.int l1, .long o5.2, .long o3.2] rfl rfl (Nat.le_of_ble_eq_true rfl) (show d - 1 + 1 ≤ d by omega) h (fun o7 e8 => tX9_wrong (d := d - 1) (by omega) e8) (fun o7 e8 h => ?_)
  refine zv_istore (L' := [(8, .int o7.2), (6, .long o5.2), (4, .long o3.2), (2, .long o1.2), (0, .ref l0), (1, .int l1)]) dX9_doStore_29 (Nat.le_of_ble_eq_true rfl) rfl ?_
  refine zv_iload (n := 0) dX9_doStore_31 rfl ?_
  refine zr_if_le (tgt := 43) dX9_doStore_33 (by decide) h (fun c31 h => ?_) (fun c31 h => ?_)
  · refine zv_aload_n (n := 4) dX9_doStore_43 rfl rfl ?_
    refine zr_cVl (ci := 9) (st := []) dX9_doStore_44 mw_X9_popValue wd_1727 wd_1729 wd_79 rfl rfl [] rfl rfl (Nat.le_of_ble_eq_true rfl) (show d - 1 + 1 ≤ d by omega) h (fun o9 e10 => tX9_popValue (d := d - 1) (by omega) e10) (fun o9 e10 h => ?_)
    refine zv_pop2_2 dX9_doStore_47 rfl ?_
    refine zv_aload_n (n := 4) dX9_doStore_48 rfl rfl ?_
    refine zr_cVl (ci := 9) (st := []) dX9_doStore_49 mw_X9_popValue wd_1727 wd_1729 wd_79 rfl rfl [] rfl rfl (Nat.le_of_ble_eq_true rfl) (show d - 1 + 1 ≤ d by omega) h (fun o11 e12 => tX9_popValue (d := d - 1) (by omega) e12) (fun o11 e12 h => ?_)
    refine zv_pop2_2 dX9_doStore_52 rfl ?_
    refine zv_aload_n (n := 4) dX9_doStore_53 rfl rfl ?_
    refine zr_cVl (ci := 9) (st := []) dX9_doStore_54 mw_X9_popValue wd_1727 wd_1729 wd_79 rfl rfl [] rfl rfl (Nat.le_of_ble_eq_true rfl) (show d - 1 + 1 ≤ d by omega) h (fun o13 e14 => tX9_popValue (d := d - 1) (by omega) e14) (fun o13 e14 h => ?_)
    refine zv_pop2_2 dX9_doStore_57 rfl ?_
    refine zv_lload (n := 1) dX9_doStore_58 rfl ?_
    refine zv_l2i dX9_doStore_60 ?_
    refine zv_iconst (v := 1) dX9_doStore_61 (by decide) ?_
    refine zv_isub dX9_doStore_62 ?_
    refine zv_istore (L' := [(9, .int ((Int64.toInt32 o5.2) - (1 : Int32))), (8, .int o7.2), (6, .long o5.2), (4, .long o3.2), (2, .long o1.2), (0, .ref l0), (1, .int l1)]) dX9_doStore_63 (Nat.le_of_ble_eq_true rfl) rfl ?_
    refine zv_aload_n (n := 5) dX9_doStore_65 rfl rfl ?_
    refine zr_gR dX9_doStore_66 fg_1435 h (fun v15 e16 h => ?_)
    refine zv_iload (n := 0) dX9_doStore_69 rfl ?_
    refine zr_aI dX9_doStore_71 h (fun v17 e18 h => ?_)
    refine zv_istore (L' := [(10, .int v17), (9, .int ((Int64.toInt32 o5.2) - (1 : Int32))), (8, .int o7.2), (6, .long o5.2), (4, .long o3.2), (2, .long o1.2), (0, .ref l0), (1, .int l1)]) dX9_doStore_72 (Nat.le_of_ble_eq_true rfl) rfl ?_
    refine zv_aload_n (n := 6) dX9_doStore_74 rfl rfl ?_
    refine zr_gR dX9_doStore_75 fg_1440 h (fun v19 e20 h => ?_)
    refine zv_aload_n (n := 6) dX9_doStore_78 rfl rfl ?_
    refine zr_gR dX9_doStore_79 fg_1437 h (fun v21 e22 h => ?_)
    refine zv_iload (n := 1) dX9_doStore_82 rfl ?_
    refine zr_aI dX9_doStore_84 h (fun v23 e24 h => ?_)
    refine zv_lload (n := 4) dX9_doStore_85 rfl ?_
    refine zv_l2i dX9_doStore_87 ?_
    refine zv_iadd dX9_doStore_88 ?_
    refine zv_iload (n := 0) dX9_doStore_89 rfl ?_
    refine zv_iconst (v := 4) dX9_doStore_91 (by decide) ?_
    refine zr_icmp_ne (tgt := 101) dX9_doStore_92 (by decide) h (fun c28 h => ?_) (fun c28 h => ?_)
    · refine zv_iload (n := 0) dX9_doStore_101 rfl ?_
      refine zv_bipush (v := 8) dX9_doStore_103 (by decide) ?_
      refine zr_icmp_ne (tgt := 115) dX9_doStore_105 (by decide) h (fun c27 h => ?_) (fun c27 h => ?_)
      · refine zv_iload (n := 0) dX9_doStore_115 rfl ?_
        refine zv_iconst (v := 5) dX9_doStore_117 (by decide) ?_
        refine zr_icmp_ne (tgt := 128) dX9_doStore_118 (by decide) h (fun c26 h => ?_) (fun c26 h => ?_)
        · refine zv_iload (n := 0) dX9_doStore_128 rfl ?_
          refine zv_bipush (v := 9) dX9_doStore_130 (by decide) ?_
          refine zr_icmp_ne (tgt := 142) dX9_doStore_132 (by decide) h (fun c25 h => ?_) (fun c25 h => ?_)
          · refine zv_lload_n (n := 5) dX9_doStore_142 rfl rfl ?_
            exact zv_fewer [] rfl (kX9_doStore_143 hd _ _ _ _ h)
          · refine zv_lload_n (n := 5) dX9_doStore_135 rfl rfl ?_
            refine zv_l2i dX9_doStore_136 ?_
            refine zv_i2s dX9_doStore_137 ?_
            refine zv_i2l dX9_doStore_138 ?_
            refine zv_goto (tgt := 143) dX9_doStore_139 (by decide) ?_
            exact zv_fewer [] rfl (kX9_doStore_143 hd _ _ _ _ h)
        · refine zv_lload_n (n := 5) dX9_doStore_121 rfl rfl ?_
          refine zv_l2i dX9_doStore_122 ?_
          refine zv_i2c dX9_doStore_123 ?_
          refine zv_i2l dX9_doStore_124 ?_
          refine zv_goto (tgt := 143) dX9_doStore_125 (by decide) ?_
          exact zv_fewer [] rfl (kX9_doStore_143 hd _ _ _ _ h)
      · refine zv_lload_n (n := 5) dX9_doStore_108 rfl rfl ?_
        refine zv_l2i dX9_doStore_109 ?_
        refine zv_i2b dX9_doStore_110 ?_
        refine zv_i2l dX9_doStore_111 ?_
        refine zv_goto (tgt := 143) dX9_doStore_112 (by decide) ?_
        exact zv_fewer [] rfl (kX9_doStore_143 hd _ _ _ _ h)
    · refine zv_lload_n (n := 5) dX9_doStore_95 rfl rfl ?_
      refine zv_lconst (v := 1) dX9_doStore_96 (by decide) ?_
      refine zv_land dX9_doStore_97 ?_
      refine zv_goto (tgt := 143) dX9_doStore_98 (by decide) ?_
      exact zv_fewer [] rfl (kX9_doStore_143 hd _ _ _ _ h)
  · refine zv_aload_n (n := 4) dX9_doStore_36 rfl rfl ?_
    refine zv_iload (n := 0) dX9_doStore_37 rfl ?_
    refine zr_cVv (ci := 9) (st := []) dX9_doStore_39 mw_X9_fail wd_1689 wd_1691 wd_71 rfl rfl [.int o7.2] rfl rfl (Nat.le_of_ble_eq_true rfl) (show d - 1 + 1 ≤ d by omega) h (fun o29 e30 => tX9_fail (d := d - 1) (by omega) e30) (fun o29 e30 h => ?_)
    cases h
    exact zv_vret dX9_doStore_42 rfl
def mX9_doStore (N : Nat) (a0 : Nat) (a1 : Int32) (x : zv_X) : Option zv_X := mX9_doStore_0 N a0 a1 x
theorem tX9_doStore {d : Nat} (hd : 5 ≤ d) {N : Nat} {x : zv_X} {a0 : Nat} {a1 : Int32} {o : zv_X} (h : mX9_doStore N a0 a1 x = some o) : zv_T d yX9_doStore cX9_doStore 11 (none) [.ref a0, .int a1] x o none := by
  unfold mX9_doStore at h
  exact zv_enter (by decide) (Nat.le_of_ble_eq_true rfl) (kX9_doStore_0 hd _ _ _ h)

abbrev fX9_doField (d : Nat) (x0 : zv_X) (o : zv_X) : zv_G := (d, RX9, cX9_doField, 11, none, ("doField", []), x0, o, zv_fin x0 o none)
def mX9_doField_214 (N : Nat)  (x : zv_X) : Option zv_X := some x
theorem kX9_doField_214 {d : Nat} {x0 : zv_X} {o : zv_X} (hd : 5 ≤ d) {N : Nat}  (x : zv_X) (h : mX9_doField_214 N  x = some o) : zv_V (fX9_doField d x0 o) 214 [] [] x := by
  unfold mX9_doField_214 at h
  cases h
  exact zv_vret dX9_doField_214 rfl
def mX9_doField_129 (N : Nat) (l0 : Nat) (l1 : Int32) (l2 : Int32) (l3 : Int32) (l6 : Int32) (s0 : Int64) (x : zv_X) : Option zv_X := if zm_k x l0 9 = true then ((mX9_popValue N l0 x).bind fun o1 => if l1 = (190 : Int32) then ((zm_R o1.1 l0 9 33).bind fun v26 => (zm_aI o1.1 v26 l6).bind fun v28 => if zm_k o1.1 l0 9 = true then ((mX9_pushValue N l0 (1 : Int32) (Int32.toInt64 v28) o1.1).bind fun o30 => mX9_doField_214 N o30) else none) else (if l1 = (180 : Int32) then ((zm_R o1.1 l0 9 4).bind fun v11 => (zm_aI o1.1 v11 (((8 : Int32) * l2) + l3)).bind fun v13 => (zm_R o1.1 l0 9 37).bind fun v15 => (zm_R o1.1 l0 9 34).bind fun v17 => (zm_aI o1.1 v17 l6).bind fun v19 => (zm_aL o1.1 v15 (v19 + l3)).bind fun v21 => if zm_k o1.1 l0 9 = true then ((mX9_pushValue N l0 v13 v21 o1.1).bind fun o23 => mX9_doField_214 N o23) else none) else ((zm_R o1.1 l0 9 37).bind fun v3 => (zm_R o1.1 l0 9 34).bind fun v5 => (zm_aI o1.1 v5 l6).bind fun v7 => (zm_sL o1.1 v3 (v7 + l3) s0).bind fun x9 => mX9_doField_214 N x9))) else none
theorem kX9_doField_129 {d : Nat} {x0 : zv_X} {o : zv_X} (hd : 5 ≤ d) {N : Nat} (l0 : Nat) (l1 : Int32) (l2 : Int32) (l3 : Int32) (l6 : Int32) (s0 : Int64) (x : zv_X) (h : mX9_doField_129 N l0 l1 l2 l3 l6 s0 x = some o) : zv_V (fX9_doField d x0 o) 129 [(0, .ref l0), (1, .int l1), (2, .int l2), (3, .int l3), (6, .int l6)] [.long s0] x := by
  unfold mX9_doField_129 at h
  refine zv_lstore (L' := [(9, .long s0), (0, .ref l0), (1, .int l1), (2, .int l2), (3, .int l3), (6, .int l6)]) dX9_doField_129 (Nat.le_of_ble_eq_true rfl) rfl ?_
  refine zv_aload_n (n := 1) dX9_doField_131 rfl rfl ?_
  refine zr_cVl (ci := 9) (st := []) dX9_doField_132 mw_X9_popValue wd_1727 wd_1729 wd_79 rfl rfl [] rfl rfl (Nat.le_of_ble_eq_true rfl) (show d - 1 + 1 ≤ d by omega) h (fun o1 e2 => tX9_popValue (d := d - 1) (by omega) e2) (fun o1 e2 h => ?_)
  refine zv_pop2_2 dX9_doField_135 rfl ?_
  refine zv_iload_n (n := 2) dX9_doField_136 rfl rfl ?_
  refine zv_sipush (v := 190) dX9_doField_137 (by decide) ?_
  refine zr_icmp_ne (tgt := 159) dX9_doField_140 (by decide) h (fun c32 h => ?_) (fun c32 h => ?_)
  · refine zv_iload_n (n := 2) dX9_doField_159 rfl rfl ?_
    refine zv_sipush (v := 180) dX9_doField_160 (by decide) ?_
    refine zr_icmp_ne (tgt := 198) dX9_doField_163 (by decide) h (fun c25 h => ?_) (fun c25 h => ?_)
    · refine zv_aload_n (n := 1) dX9_doField_198 rfl rfl ?_
      refine zr_gR dX9_doField_199 fg_1440 h (fun v3 e4 h => ?_)
      refine zv_aload_n (n := 1) dX9_doField_202 rfl rfl ?_
      refine zr_gR dX9_doField_203 fg_1437 h (fun v5 e6 h => ?_)
      refine zv_iload (n := 5) dX9_doField_206 rfl ?_
      refine zr_aI dX9_doField_208 h (fun v7 e8 h => ?_)
      refine zv_iload_n (n := 4) dX9_doField_209 rfl rfl ?_
      refine zv_iadd dX9_doField_210 ?_
      refine zv_lload (n := 0) dX9_doField_211 rfl ?_
      refine zr_sL dX9_doField_213 h (fun x9 e10 h => ?_)
      exact zv_fewer [] rfl (kX9_doField_214 hd _ h)
    · refine zv_aload_n (n := 1) dX9_doField_166 rfl rfl ?_
      refine zv_aload_n (n := 1) dX9_doField_167 rfl rfl ?_
      refine zr_gR dX9_doField_168 fg_1407 h (fun v11 e12 h => ?_)
      refine zv_bipush (v := 8) dX9_doField_171 (by decide) ?_
      refine zv_iload_n (n := 3) dX9_doField_173 rfl rfl ?_
      refine zv_imul dX9_doField_174 ?_
      refine zv_iload_n (n := 4) dX9_doField_175 rfl rfl ?_
      refine zv_iadd dX9_doField_176 ?_
      refine zr_aI dX9_doField_177 h (fun v13 e14 h => ?_)
      refine zv_aload_n (n := 1) dX9_doField_178 rfl rfl ?_
      refine zr_gR dX9_doField_179 fg_1440 h (fun v15 e16 h => ?_)
      refine zv_aload_n (n := 1) dX9_doField_182 rfl rfl ?_
      refine zr_gR dX9_doField_183 fg_1437 h (fun v17 e18 h => ?_)
      refine zv_iload (n := 5) dX9_doField_186 rfl ?_
      refine zr_aI dX9_doField_188 h (fun v19 e20 h => ?_)
      refine zv_iload_n (n := 4) dX9_doField_189 rfl rfl ?_
      refine zv_iadd dX9_doField_190 ?_
      refine zr_aL dX9_doField_191 h (fun v21 e22 h => ?_)
      refine zr_cVv (ci := 9) (st := []) dX9_doField_192 mw_X9_pushValue wd_1670 wd_1672 wd_67 rfl rfl [.int v13, .long v21] rfl rfl (Nat.le_of_ble_eq_true rfl) (show d - 1 + 1 ≤ d by omega) h (fun o23 e24 => tX9_pushValue (d := d - 1) (by omega) e24) (fun o23 e24 h => ?_)
      refine zv_goto (tgt := 214) dX9_doField_195 (by decide) ?_
      exact zv_fewer [] rfl (kX9_doField_214 hd _ h)
  · refine zv_aload_n (n := 1) dX9_doField_143 rfl rfl ?_
    refine zv_iconst (v := 1) dX9_doField_144 (by decide) ?_
    refine zv_aload_n (n := 1) dX9_doField_145 rfl rfl ?_
    refine zr_gR dX9_doField_146 fg_1436 h (fun v26 e27 h => ?_)
    refine zv_iload (n := 5) dX9_doField_149 rfl ?_
    refine zr_aI dX9_doField_151 h (fun v28 e29 h => ?_)
    refine zv_i2l dX9_doField_152 ?_
    refine zr_cVv (ci := 9) (st := []) dX9_doField_153 mw_X9_pushValue wd_1670 wd_1672 wd_67 rfl rfl [.int (1 : Int32), .long (Int32.toInt64 v28)] rfl rfl (Nat.le_of_ble_eq_true rfl) (show d - 1 + 1 ≤ d by omega) h (fun o30 e31 => tX9_pushValue (d := d - 1) (by omega) e31) (fun o30 e31 h => ?_)
    refine zv_goto (tgt := 214) dX9_doField_156 (by decide) ?_
    exact zv_fewer [] rfl (kX9_doField_214 hd _ h)
def mX9_doField_100 (N : Nat) (l0 : Nat) (l1 : Int32) (l2 : Int32) (l3 : Int32) (l6 : Int32) (s0 : Int32) (x : zv_X) : Option zv_X := if s0 ≤ 0 then (if l1 = (181 : Int32) then (if zm_k x l0 9 = true then ((mX9_popValue N l0 x).bind fun o1 => mX9_doField_129 N l0 l1 l2 l3 l6 o1.2 o1.1) else none) else (mX9_doField_129 N l0 l1 l2 l3 l6 (0 : Int64) x)) else (if zm_k x l0 9 = true then ((mX9_fail N l0 s0 x).bind fun o4 => some o4) else none)
theorem kX9_doField_100 {d : Nat} {x0 : zv_X} {o : zv_X} (hd : 5 ≤ d) {N : Nat} (l0 : Nat) (l1 : Int32) (l2 : Int32) (l3 : Int32) (l6 : Int32) (s0 : Int32) (x : zv_X) (h : mX9_doField_100 N l0 l1 l2 l3 l6 s0 x = some o) : zv_V (fX9_doField d x0 o) 100 [(0, .ref l0), (1, .int l1), (2, .int l2), (3, .int l3), (6, .int l6)] [.int s0] x := by
  unfold mX9_doField_100 at h
  refine zv_istore (L' := [(8, .int s0), (0, .ref l0), (1, .int l1), (2, .int l2), (3, .int l3), (6, .int l6)]) dX9_doField_100 (Nat.le_of_ble_eq_true rfl) rfl ?_
  refine zv_iload (n := 0) dX9_doField_102 rfl ?_
  refine zr_if_le (tgt := 114) dX9_doField_104 (by decide) h (fun c6 h => ?_) (fun c6 h => ?_)
  · refine zv_iload_n (n := 2) dX9_doField_114 rfl rfl ?_
    refine zv_sipush (v := 181) dX9_doField_115 (by decide) ?_
    refine zr_icmp_ne (tgt := 128) dX9_doField_118 (by decide) h (fun c3 h => ?_) (fun c3 h => ?_)
    · refine zv_lconst (v := 0) dX9_doField_128 (by decide) ?_
      exact zv_fewer [1, 2, 3, 4, 5] rfl (kX9_doField_129 hd _ _ _ _ _ _ _ h)
    · refine zv_aload_n (n := 1) dX9_doField_121 rfl rfl ?_
      refine zr_cVl (ci := 9) (st := []) dX9_doField_122 mw_X9_popValue wd_1727 wd_1729 wd_79 rfl rfl [] rfl rfl (Nat.le_of_ble_eq_true rfl) (show d - 1 + 1 ≤ d by omega) h (fun o1 e2 => tX9_popValue (d := d - 1) (by omega) e2) (fun o1 e2 h => ?_)
      refine zv_goto (tgt := 129) dX9_doField_125 (by decide) ?_
      exact zv_fewer [1, 2, 3, 4, 5] rfl (kX9_doField_129 hd _ _ _ _ _ _ _ h)
  · refine zv_aload_n (n := 1) dX9_doField_107 rfl rfl ?_
    refine zv_iload (n := 0) dX9_doField_108 rfl ?_
    refine zr_cVv (ci := 9) (st := []) dX9_doField_110 mw_X9_fail wd_1689 wd_1691 wd_71 rfl rfl [.int s0] rfl rfl (Nat.le_of_ble_eq_true rfl) (show d - 1 + 1 ≤ d by omega) h (fun o4 e5 => tX9_fail (d := d - 1) (by omega) e5) (fun o4 e5 h => ?_)
    cases h
    exact zv_vret dX9_doField_113 rfl
def mX9_doField_95 (N : Nat) (l0 : Nat) (l1 : Int32) (l2 : Int32) (l3 : Int32) (l6 : Int32) (x : zv_X) : Option zv_X := mX9_doField_100 N l0 l1 l2 l3 l6 (5 : Int32) x
theorem kX9_doField_95 {d : Nat} {x0 : zv_X} {o : zv_X} (hd : 5 ≤ d) {N : Nat} (l0 : Nat) (l1 : Int32) (l2 : Int32) (l3 : Int32) (l6 : Int32) (x : zv_X) (h : mX9_doField_95 N l0 l1 l2 l3 l6 x = some o) : zv_V (fX9_doField d x0 o) 95 [(0, .ref l0), (1, .int l1), (2, .int l2), (3, .int l3), (6, .int l6)] [] x := by
  unfold mX9_doField_95 at h
  refine zv_iconst (v := 5) dX9_doField_95 (by decide) ?_
  refine zv_goto (tgt := 100) dX9_doField_96 (by decide) ?_
  exact kX9_doField_100 hd _ _ _ _ _ _ _ h
def mX9_doField_47 (N : Nat) (l0 : Nat) (l1 : Int32) (l2 : Int32) (l3 : Int32) (l4 : Int64) (l6 : Int32) (s0 : Int32) (x : zv_X) : Option zv_X := if (lg_cmp l4 (0 : Int64)) = 0 then (mX9_doField_100 N l0 l1 l2 l3 l6 (2 : Int32) x) else (if l1 = (190 : Int32) then (if s0 = 0 then (mX9_doField_100 N l0 l1 l2 l3 l6 (5 : Int32) x) else (mX9_doField_100 N l0 l1 l2 l3 l6 (0 : Int32) x)) else (if s0 = 0 then (if zm_k x l0 9 = true then ((mX9_isOf N l0 l6 l2 x).bind fun o1 => if o1.2 = 0 then (mX9_doField_95 N l0 l1 l2 l3 l6 o1.1) else (mX9_doField_100 N l0 l1 l2 l3 l6 (0 : Int32) o1.1)) else none) else (mX9_doField_95 N l0 l1 l2 l3 l6 x)))
theorem kX9_doField_47 {d : Nat} {x0 : zv_X} {o : zv_X} (hd : 5 ≤ d) {N : Nat} (l0 : Nat) (l1 : Int32) (l2 : Int32) (l3 : Int32) (l4 : Int64) (l6 : Int32) (s0 : Int32) (x : zv_X) (h : mX9_doField_47 N l0 l1 l2 l3 l4 l6 s0 x = some o) : zv_V (fX9_doField d x0 o) 47 [(0, .ref l0), (1, .int l1), (2, .int l2), (3, .int l3), (4, .long l4), (6, .int l6)] [.int s0] x := by
  unfold mX9_doField_47 at h
  refine zv_istore (L' := [(7, .int s0), (0, .ref l0), (1, .int l1), (2, .int l2), (3, .int l3), (4, .long l4), (6, .int l6)]) dX9_doField_47 (Nat.le_of_ble_eq_true rfl) rfl ?_
  refine zv_lload (n := 5) dX9_doField_49 rfl ?_
  refine zv_lconst (v := 0) dX9_doField_51 (by decide) ?_
  refine zv_lcmp dX9_doField_52 ?_
  refine zr_if_ne (tgt := 60) dX9_doField_53 (by decide) h (fun c7 h => ?_) (fun c7 h => ?_)
  · refine zv_iload_n (n := 2) dX9_doField_60 rfl rfl ?_
    refine zv_sipush (v := 190) dX9_doField_61 (by decide) ?_
    refine zr_icmp_ne (tgt := 80) dX9_doField_64 (by decide) h (fun c6 h => ?_) (fun c6 h => ?_)
    · refine zv_iload (n := 0) dX9_doField_80 rfl ?_
      refine zr_if_ne (tgt := 95) dX9_doField_82 (by decide) h (fun c4 h => ?_) (fun c4 h => ?_)
      · exact zv_fewer [1, 2, 3, 4, 6] rfl (kX9_doField_95 hd _ _ _ _ _ _ h)
      · refine zv_aload_n (n := 1) dX9_doField_85 rfl rfl ?_
        refine zv_iload (n := 6) dX9_doField_86 rfl ?_
        refine zv_iload_n (n := 3) dX9_doField_88 rfl rfl ?_
        refine zr_cVi (ci := 9) (st := []) dX9_doField_89 mw_X9_isOf wd_1723 wd_1725 wd_78 rfl rfl [.int l6, .int l2] rfl rfl (Nat.le_of_ble_eq_true rfl) (show d - 1 + 1 ≤ d by omega) h (fun o1 e2 => tX9_isOf (d := d - 1) (by omega) e2) (fun o1 e2 h => ?_)
        refine zr_if_ne (tgt := 99) dX9_doField_92 (by decide) h (fun c3 h => ?_) (fun c3 h => ?_)
        · refine zv_iconst (v := 0) dX9_doField_99 (by decide) ?_
          exact zv_fewer [1, 2, 3, 4, 6] rfl (kX9_doField_100 hd _ _ _ _ _ _ _ h)
        · exact zv_fewer [1, 2, 3, 4, 6] rfl (kX9_doField_95 hd _ _ _ _ _ _ h)
    · refine zv_iload (n := 0) dX9_doField_67 rfl ?_
      refine zr_if_eq (tgt := 76) dX9_doField_69 (by decide) h (fun c5 h => ?_) (fun c5 h => ?_)
      · refine zv_iconst (v := 5) dX9_doField_76 (by decide) ?_
        refine zv_goto (tgt := 100) dX9_doField_77 (by decide) ?_
        exact zv_fewer [1, 2, 3, 4, 6] rfl (kX9_doField_100 hd _ _ _ _ _ _ _ h)
      · refine zv_iconst (v := 0) dX9_doField_72 (by decide) ?_
        refine zv_goto (tgt := 100) dX9_doField_73 (by decide) ?_
        exact zv_fewer [1, 2, 3, 4, 6] rfl (kX9_doField_100 hd _ _ _ _ _ _ _ h)
  · refine zv_iconst (v := 2) dX9_doField_56 (by decide) ?_
    refine zv_goto (tgt := 100) dX9_doField_57 (by decide) ?_
    exact zv_fewer [1, 2, 3, 4, 6] rfl (kX9_doField_100 hd _ _ _ _ _ _ _ h)
def mX9_doField_46 (N : Nat) (l0 : Nat) (l1 : Int32) (l2 : Int32) (l3 : Int32) (l4 : Int64) (l6 : Int32) (x : zv_X) : Option zv_X := mX9_doField_47 N l0 l1 l2 l3 l4 l6 (0 : Int32) x
theorem kX9_doField_46 {d : Nat} {x0 : zv_X} {o : zv_X} (hd : 5 ≤ d) {N : Nat} (l0 : Nat) (l1 : Int32) (l2 : Int32) (l3 : Int32) (l4 : Int64) (l6 : Int32) (x : zv_X) (h : mX9_doField_46 N l0 l1 l2 l3 l4 l6 x = some o) : zv_V (fX9_doField d x0 o) 46 [(0, .ref l0), (1, .int l1), (2, .int l2), (3, .int l3), (4, .long l4), (6, .int l6)] [] x := by
  unfold mX9_doField_46 at h
  refine zv_iconst (v := 0) dX9_doField_46 (by decide) ?_
  exact kX9_doField_47 hd _ _ _ _ _ _ _ _ h
def mX9_doField_13 (N : Nat) (l0 : Nat) (l1 : Int32) (l2 : Int32) (l3 : Int32) (s0 : Int32) (s1 : Nat) (x : zv_X) : Option zv_X := if zm_k x s1 9 = true then ((mX9_peek N s1 s0 x).bind fun o1 => if (lg_cmp o1.2 (0 : Int64)) = 0 then (mX9_doField_46 N l0 l1 l2 l3 o1.2 ((Int64.toInt32 o1.2) - (1 : Int32)) o1.1) else ((zm_R o1.1 l0 9 32).bind fun v3 => (zm_aI o1.1 v3 ((Int64.toInt32 o1.2) - (1 : Int32))).bind fun v5 => if v5 ≤ 0 then (mX9_doField_46 N l0 l1 l2 l3 o1.2 ((Int64.toInt32 o1.2) - (1 : Int32)) o1.1) else (mX9_doField_47 N l0 l1 l2 l3 o1.2 ((Int64.toInt32 o1.2) - (1 : Int32)) (1 : Int32) o1.1))) else none
theorem kX9_doField_13 {d : Nat} {x0 : zv_X} {o : zv_X} (hd : 5 ≤ d) {N : Nat} (l0 : Nat) (l1 : Int32) (l2 : Int32) (l3 : Int32) (s0 : Int32) (s1 : Nat) (x : zv_X) (h : mX9_doField_13 N l0 l1 l2 l3 s0 s1 x = some o) : zv_V (fX9_doField d x0 o) 13 [(0, .ref l0), (1, .int l1), (2, .int l2), (3, .int l3)] [.int s0, .ref s1] x := by
  unfold mX9_doField_13 at h
  refine zr_cVl (ci := 9) (st := []) dX9_doField_13 mw_X9_peek wd_1678 wd_1680 wd_69 rfl rfl [.int s0] rfl rfl (Nat.le_of_ble_eq_true rfl) (show d - 1 + 1 ≤ d by omega) h (fun o1 e2 => tX9_peek (d := d - 1) (by omega) e2) (fun o1 e2 h => ?_)
  refine zv_lstore (L' := [(4, .long o1.2), (0, .ref l0), (1, .int l1), (2, .int l2), (3, .int l3)]) dX9_doField_16 (Nat.le_of_ble_eq_true rfl) rfl ?_
  refine zv_lload (n := 0) dX9_doField_18 rfl ?_
  refine zv_l2i dX9_doField_20 ?_
  refine zv_iconst (v := 1) dX9_doField_21 (by decide) ?_
  refine zv_isub dX9_doField_22 ?_
  refine zv_istore (L' := [(6, .int ((Int64.toInt32 o1.2) - (1 : Int32))), (4, .long o1.2), (0, .ref l0), (1, .int l1), (2, .int l2), (3, .int l3)]) dX9_doField_23 (Nat.le_of_ble_eq_true rfl) rfl ?_
  refine zv_lload (n := 1) dX9_doField_25 rfl ?_
  refine zv_lconst (v := 0) dX9_doField_27 (by decide) ?_
  refine zv_lcmp dX9_doField_28 ?_
  refine zr_if_eq (tgt := 46) dX9_doField_29 (by decide) h (fun c8 h => ?_) (fun c8 h => ?_)
  · exact zv_fewer [2, 3, 4, 5, 1, 0] rfl (kX9_doField_46 hd _ _ _ _ _ _ _ h)
  · refine zv_aload_n (n := 2) dX9_doField_32 rfl rfl ?_
    refine zr_gR dX9_doField_33 fg_1435 h (fun v3 e4 h => ?_)
    refine zv_iload (n := 0) dX9_doField_36 rfl ?_
    refine zr_aI dX9_doField_38 h (fun v5 e6 h => ?_)
    refine zr_if_le (tgt := 46) dX9_doField_39 (by decide) h (fun c7 h => ?_) (fun c7 h => ?_)
    · exact zv_fewer [2, 3, 4, 5, 1, 0] rfl (kX9_doField_46 hd _ _ _ _ _ _ _ h)
    · refine zv_iconst (v := 1) dX9_doField_42 (by decide) ?_
      refine zv_goto (tgt := 47) dX9_doField_43 (by decide) ?_
      exact zv_fewer [2, 3, 4, 5, 1, 0] rfl (kX9_doField_47 hd _ _ _ _ _ _ _ _ h)
def mX9_doField_0 (N : Nat) (l0 : Nat) (l1 : Int32) (l2 : Int32) (l3 : Int32) (x : zv_X) : Option zv_X := if l1 = (181 : Int32) then (mX9_doField_13 N l0 l1 l2 l3 (1 : Int32) l0 x) else (mX9_doField_13 N l0 l1 l2 l3 (0 : Int32) l0 x)
theorem kX9_doField_0 {d : Nat} {x0 : zv_X} {o : zv_X} (hd : 5 ≤ d) {N : Nat} (l0 : Nat) (l1 : Int32) (l2 : Int32) (l3 : Int32) (x : zv_X) (h : mX9_doField_0 N l0 l1 l2 l3 x = some o) : zv_V (fX9_doField d x0 o) 0 [(0, .ref l0), (1, .int l1), (2, .int l2), (3, .int l3)] [] x := by
  unfold mX9_doField_0 at h
  refine zv_aload_n (n := 0) dX9_doField_0 rfl rfl ?_
  refine zv_iload_n (n := 1) dX9_doField_1 rfl rfl ?_
  refine zv_sipush (v := 181) dX9_doField_2 (by decide) ?_
  refine zr_icmp_ne (tgt := 12) dX9_doField_5 (by decide) h (fun c1 h => ?_) (fun c1 h => ?_)
  · refine zv_iconst (v := 0) dX9_doField_12 (by decide) ?_
    exact kX9_doField_13 hd _ _ _ _ _ _ _ h
  · refine zv_iconst (v := 1) dX9_doField_8 (by decide) ?_
    refine zv_goto (tgt := 13) dX9_doField_9 (by decide) ?_
    exact kX9_doField_13 hd _ _ _ _ _ _ _ h
def mX9_doField (N : Nat) (a0 : Nat) (a1 : Int32) (a2 : Int32) (a3 : Int32) (x : zv_X) : Option zv_X := mX9_doField_0 N a0 a1 a2 a3 x
theorem tX9_doField {d : Nat} (hd : 5 ≤ d) {N : Nat} {x : zv_X} {a0 : Nat} {a1 : Int32} {a2 : Int32} {a3 : Int32} {o : zv_X} (h : mX9_doField N a0 a1 a2 a3 x = some o) : zv_T d yX9_doField cX9_doField 11 (none) [.ref a0, .int a1, .int a2, .int a3] x o none := by
  unfold mX9_doField at h
  exact zv_enter (by decide) (Nat.le_of_ble_eq_true rfl) (kX9_doField_0 hd _ _ _ _ _ h)

abbrev fX9_noRoom (d : Nat) (x0 : zv_X) (o : (zv_X × Int64)) : zv_G := (d, RX9, cX9_noRoom, 1, (some .long), ("noRoom", []), x0, o.1, zv_fin x0 o.1 (some (.long o.2)))
def mX9_noRoom_0 (N : Nat) (l0 : Nat) (x : zv_X) : Option (zv_X × Int64) := (zm_p x l0 9 48 (.int (3 : Int32))).bind fun x1 => (zm_p x1 l0 9 49 (.int (1 : Int32))).bind fun x3 => some (x3, (0 : Int64))
theorem kX9_noRoom_0 {d : Nat} {x0 : zv_X} {o : (zv_X × Int64)} (hd : 0 ≤ d) {N : Nat} (l0 : Nat) (x : zv_X) (h : mX9_noRoom_0 N l0 x = some o) : zv_V (fX9_noRoom d x0 o) 0 [(0, .ref l0)] [] x := by
  unfold mX9_noRoom_0 at h
  refine zv_aload_n (n := 0) dX9_noRoom_0 rfl rfl ?_
  refine zv_iconst (v := 3) dX9_noRoom_1 (by decide) ?_
  refine zr_p dX9_noRoom_2 fl_1451 (fun q => nomatch q) rfl rfl h (fun x1 e2 h => ?_)
  refine zv_aload_n (n := 0) dX9_noRoom_5 rfl rfl ?_
  refine zv_iconst (v := 1) dX9_noRoom_6 (by decide) ?_
  refine zr_p dX9_noRoom_7 fl_1452 (fun q => nomatch q) rfl rfl h (fun x3 e4 h => ?_)
  refine zv_lconst (v := 0) dX9_noRoom_10 (by decide) ?_
  cases h
  exact zv_lret dX9_noRoom_11 rfl
def mX9_noRoom (N : Nat) (a0 : Nat) (x : zv_X) : Option (zv_X × Int64) := mX9_noRoom_0 N a0 x
theorem tX9_noRoom {d : Nat} (hd : 0 ≤ d) {N : Nat} {x : zv_X} {a0 : Nat} {o : (zv_X × Int64)} (h : mX9_noRoom N a0 x = some o) : zv_T d yX9_noRoom cX9_noRoom 1 ((some .long)) [.ref a0] x o.1 (some (.long o.2)) := by
  unfold mX9_noRoom at h
  exact zv_enter (by decide) (Nat.le_of_ble_eq_true rfl) (kX9_noRoom_0 hd _ _ h)

abbrev fX9_doThing (d : Nat) (x0 : zv_X) (o : zv_X) : zv_G := (d, RX9, cX9_doThing, 9, none, ("doThing", []), x0, o, zv_fin x0 o none)
def mX9_doThing_256 (N : Nat)  (x : zv_X) : Option zv_X := some x
theorem kX9_doThing_256 {d : Nat} {x0 : zv_X} {o : zv_X} (hd : 6 ≤ d) {N : Nat}  (x : zv_X) (h : mX9_doThing_256 N  x = some o) : zv_V (fX9_doThing d x0 o) 256 [] [] x := by
  unfold mX9_doThing_256 at h
  cases h
  exact zv_vret dX9_doThing_256 rfl
def mX9_doThing_141 (N : Nat)  (x : zv_X) : Option zv_X := mX9_doThing_256 N x
theorem kX9_doThing_141 {d : Nat} {x0 : zv_X} {o : zv_X} (hd : 6 ≤ d) {N : Nat}  (x : zv_X) (h : mX9_doThing_141 N  x = some o) : zv_V (fX9_doThing d x0 o) 141 [] [] x := by
  unfold mX9_doThing_141 at h
  refine zv_goto (tgt := 256) dX9_doThing_141 (by decide) ?_
  exact kX9_doThing_256 hd _ h
def mX9_doThing_120 (N : Nat) (l0 : Nat) (s0 : Int64) (x : zv_X) : Option zv_X := (zm_I x l0 9 49).bind fun v1 => if v1 = 0 then (if zm_k x l0 9 = true then ((mX9_popValue N l0 x).bind fun o3 => if zm_k o3.1 l0 9 = true then ((mX9_pushValue N l0 (3 : Int32) s0 o3.1).bind fun o5 => mX9_doThing_141 N o5) else none) else none) else (mX9_doThing_141 N x)
theorem kX9_doThing_120 {d : Nat} {x0 : zv_X} {o : zv_X} (hd : 6 ≤ d) {N : Nat} (l0 : Nat) (s0 : Int64) (x : zv_X) (h : mX9_doThing_120 N l0 s0 x = some o) : zv_V (fX9_doThing d x0 o) 120 [(0, .ref l0)] [.long s0] x := by
  unfold mX9_doThing_120 at h
  refine zv_lstore (L' := [(7, .long s0), (0, .ref l0)]) dX9_doThing_120 (Nat.le_of_ble_eq_true rfl) rfl ?_
  refine zv_aload_n (n := 1) dX9_doThing_122 rfl rfl ?_
  refine zr_gI dX9_doThing_123 fg_1452 h (fun v1 e2 h => ?_)
  refine zr_if_ne (tgt := 141) dX9_doThing_126 (by decide) h (fun c7 h => ?_) (fun c7 h => ?_)
  · exact zv_fewer [] rfl (kX9_doThing_141 hd _ h)
  · refine zv_aload_n (n := 1) dX9_doThing_129 rfl rfl ?_
    refine zr_cVl (ci := 9) (st := []) dX9_doThing_130 mw_X9_popValue wd_1727 wd_1729 wd_79 rfl rfl [] rfl rfl (Nat.le_of_ble_eq_true rfl) (show d - 1 + 1 ≤ d by omega) h (fun o3 e4 => tX9_popValue (d := d - 1) (by omega) e4) (fun o3 e4 h => ?_)
    refine zv_pop2_2 dX9_doThing_133 rfl ?_
    refine zv_aload_n (n := 1) dX9_doThing_134 rfl rfl ?_
    refine zv_iconst (v := 3) dX9_doThing_135 (by decide) ?_
    refine zv_lload (n := 0) dX9_doThing_136 rfl ?_
    refine zr_cVv (ci := 9) (st := []) dX9_doThing_138 mw_X9_pushValue wd_1670 wd_1672 wd_67 rfl rfl [.int (3 : Int32), .long s0] rfl rfl (Nat.le_of_ble_eq_true rfl) (show d - 1 + 1 ≤ d by omega) h (fun o5 e6 => tX9_pushValue (d := d - 1) (by omega) e6) (fun o5 e6 h => ?_)
    exact zv_fewer [] rfl (kX9_doThing_141 hd _ h)
def mX9_doThing_85 (N : Nat) (l0 : Nat) (l4 : Int64) (s0 : Int32) (x : zv_X) : Option zv_X := (mX9_wordsOf N s0 l4 x).bind fun o1 => (zm_I o1.1 l0 9 1).bind fun v3 => if (lg_cmp o1.2 (Int32.toInt64 v3)) ≤ 0 then (if zm_k o1.1 l0 9 = true then ((mX9_make N l0 (0 : Int32) s0 (Int64.toInt32 l4) o1.1).bind fun o5 => mX9_doThing_120 N l0 o5.2 o5.1) else none) else (if zm_k o1.1 l0 9 = true then ((mX9_noRoom N l0 o1.1).bind fun o7 => mX9_doThing_120 N l0 o7.2 o7.1) else none)
theorem kX9_doThing_85 {d : Nat} {x0 : zv_X} {o : zv_X} (hd : 6 ≤ d) {N : Nat} (l0 : Nat) (l4 : Int64) (s0 : Int32) (x : zv_X) (h : mX9_doThing_85 N l0 l4 s0 x = some o) : zv_V (fX9_doThing d x0 o) 85 [(0, .ref l0), (4, .long l4)] [.int s0] x := by
  unfold mX9_doThing_85 at h
  refine zv_istore (L' := [(6, .int s0), (0, .ref l0), (4, .long l4)]) dX9_doThing_85 (Nat.le_of_ble_eq_true rfl) rfl ?_
  refine zv_iload (n := 0) dX9_doThing_87 rfl ?_
  refine zv_lload (n := 2) dX9_doThing_89 rfl ?_
  refine zr_cSl (st := []) dX9_doThing_91 mw_X9_wordsOf wd_1709 wd_1710 [.int s0, .long l4] rfl rfl (Nat.le_of_ble_eq_true rfl) (show d - 1 + 1 ≤ d by omega) h (fun o1 e2 => tX9_wordsOf (d := d - 1) (by omega) e2) (fun o1 e2 h => ?_)
  refine zv_aload_n (n := 1) dX9_doThing_94 rfl rfl ?_
  refine zr_gI dX9_doThing_95 fg_1404 h (fun v3 e4 h => ?_)
  refine zv_i2l dX9_doThing_98 ?_
  refine zv_lcmp dX9_doThing_99 ?_
  refine zr_if_le (tgt := 110) dX9_doThing_100 (by decide) h (fun c9 h => ?_) (fun c9 h => ?_)
  · refine zv_aload_n (n := 1) dX9_doThing_110 rfl rfl ?_
    refine zv_iconst (v := 0) dX9_doThing_111 (by decide) ?_
    refine zv_iload (n := 0) dX9_doThing_112 rfl ?_
    refine zv_lload (n := 2) dX9_doThing_114 rfl ?_
    refine zv_l2i dX9_doThing_116 ?_
    refine zr_cVl (ci := 9) (st := []) dX9_doThing_117 mw_X9_make wd_1697 wd_1699 wd_73 rfl rfl [.int (0 : Int32), .int s0, .int (Int64.toInt32 l4)] rfl rfl (Nat.le_of_ble_eq_true rfl) (show d - 1 + 1 ≤ d by omega) h (fun o5 e6 => tX9_make (d := d - 1) (by omega) e6) (fun o5 e6 h => ?_)
    exact zv_fewer [1] rfl (kX9_doThing_120 hd _ _ _ h)
  · refine zv_aload_n (n := 1) dX9_doThing_103 rfl rfl ?_
    refine zr_cVl (ci := 9) (st := []) dX9_doThing_104 mw_X9_noRoom wd_1773 wd_1775 wd_88 rfl rfl [] rfl rfl (Nat.le_of_ble_eq_true rfl) (show d - 1 + 1 ≤ d by omega) h (fun o7 e8 => tX9_noRoom (d := d - 1) (by omega) e8) (fun o7 e8 h => ?_)
    refine zv_goto (tgt := 120) dX9_doThing_107 (by decide) ?_
    exact zv_fewer [1] rfl (kX9_doThing_120 hd _ _ _ h)
def mX9_doThing_52 (N : Nat) (l0 : Nat) (l1 : Int32) (l2 : Int32) (x : zv_X) : Option zv_X := if zm_k x l0 9 = true then ((mX9_peek N l0 (0 : Int32) x).bind fun o1 => if 0 ≤ (lg_cmp o1.2 (0 : Int64)) then (if l1 = (189 : Int32) then (mX9_doThing_85 N l0 o1.2 (12 : Int32) o1.1) else (mX9_doThing_85 N l0 o1.2 l2 o1.1)) else (if zm_k o1.1 l0 9 = true then ((mX9_fail N l0 (4 : Int32) o1.1).bind fun o4 => some o4) else none)) else none
theorem kX9_doThing_52 {d : Nat} {x0 : zv_X} {o : zv_X} (hd : 6 ≤ d) {N : Nat} (l0 : Nat) (l1 : Int32) (l2 : Int32) (x : zv_X) (h : mX9_doThing_52 N l0 l1 l2 x = some o) : zv_V (fX9_doThing d x0 o) 52 [(0, .ref l0), (1, .int l1), (2, .int l2)] [] x := by
  unfold mX9_doThing_52 at h
  refine zv_aload_n (n := 0) dX9_doThing_52 rfl rfl ?_
  refine zv_iconst (v := 0) dX9_doThing_53 (by decide) ?_
  refine zr_cVl (ci := 9) (st := []) dX9_doThing_54 mw_X9_peek wd_1678 wd_1680 wd_69 rfl rfl [.int (0 : Int32)] rfl rfl (Nat.le_of_ble_eq_true rfl) (show d - 1 + 1 ≤ d by omega) h (fun o1 e2 => tX9_peek (d := d - 1) (by omega) e2) (fun o1 e2 h => ?_)
  refine zv_lstore (L' := [(4, .long o1.2), (0, .ref l0), (1, .int l1), (2, .int l2)]) dX9_doThing_57 (Nat.le_of_ble_eq_true rfl) rfl ?_
  refine zv_lload (n := 0) dX9_doThing_59 rfl ?_
  refine zv_lconst (v := 0) dX9_doThing_61 (by decide) ?_
  refine zv_lcmp dX9_doThing_62 ?_
  refine zr_if_ge (tgt := 72) dX9_doThing_63 (by decide) h (fun c6 h => ?_) (fun c6 h => ?_)
  · refine zv_iload_n (n := 2) dX9_doThing_72 rfl rfl ?_
    refine zv_sipush (v := 189) dX9_doThing_73 (by decide) ?_
    refine zr_icmp_ne (tgt := 84) dX9_doThing_76 (by decide) h (fun c3 h => ?_) (fun c3 h => ?_)
    · refine zv_iload_n (n := 3) dX9_doThing_84 rfl rfl ?_
      exact zv_fewer [1, 0] rfl (kX9_doThing_85 hd _ _ _ _ h)
    · refine zv_bipush (v := 12) dX9_doThing_79 (by decide) ?_
      refine zv_goto (tgt := 85) dX9_doThing_81 (by decide) ?_
      exact zv_fewer [1, 0] rfl (kX9_doThing_85 hd _ _ _ _ h)
  · refine zv_aload_n (n := 1) dX9_doThing_66 rfl rfl ?_
    refine zv_iconst (v := 4) dX9_doThing_67 (by decide) ?_
    refine zr_cVv (ci := 9) (st := []) dX9_doThing_68 mw_X9_fail wd_1689 wd_1691 wd_71 rfl rfl [.int (4 : Int32)] rfl rfl (Nat.le_of_ble_eq_true rfl) (show d - 1 + 1 ≤ d by omega) h (fun o4 e5 => tX9_fail (d := d - 1) (by omega) e5) (fun o4 e5 h => ?_)
    cases h
    exact zv_vret dX9_doThing_71 rfl
def mX9_doThing_246 (N : Nat)  (x : zv_X) : Option zv_X := mX9_doThing_256 N x
theorem kX9_doThing_246 {d : Nat} {x0 : zv_X} {o : zv_X} (hd : 6 ≤ d) {N : Nat}  (x : zv_X) (h : mX9_doThing_246 N  x = some o) : zv_V (fX9_doThing d x0 o) 246 [] [] x := by
  unfold mX9_doThing_246 at h
  refine zv_goto (tgt := 256) dX9_doThing_246 (by decide) ?_
  exact kX9_doThing_256 hd _ h
def mX9_doThing_243 (N : Nat) (s0 : Int64) (s1 : Int32) (s2 : Nat) (x : zv_X) : Option zv_X := if zm_k x s2 9 = true then ((mX9_pushValue N s2 s1 s0 x).bind fun o1 => mX9_doThing_246 N o1) else none
theorem kX9_doThing_243 {d : Nat} {x0 : zv_X} {o : zv_X} (hd : 6 ≤ d) {N : Nat} (s0 : Int64) (s1 : Int32) (s2 : Nat) (x : zv_X) (h : mX9_doThing_243 N s0 s1 s2 x = some o) : zv_V (fX9_doThing d x0 o) 243 [] [.long s0, .int s1, .ref s2] x := by
  unfold mX9_doThing_243 at h
  refine zr_cVv (ci := 9) (st := []) dX9_doThing_243 mw_X9_pushValue wd_1670 wd_1672 wd_67 rfl rfl [.int s1, .long s0] rfl rfl (Nat.le_of_ble_eq_true rfl) (show d - 1 + 1 ≤ d by omega) h (fun o1 e2 => tX9_pushValue (d := d - 1) (by omega) e2) (fun o1 e2 h => ?_)
  exact kX9_doThing_246 hd _ h
def mX9_doThing_219 (N : Nat) (l0 : Nat) (l1 : Int32) (l6 : Int32) (x : zv_X) : Option zv_X := if l1 = (193 : Int32) then (if zm_k x l0 9 = true then ((mX9_popValue N l0 x).bind fun o1 => if l6 = 0 then (mX9_doThing_243 N (0 : Int64) (1 : Int32) l0 o1.1) else (mX9_doThing_243 N (1 : Int64) (1 : Int32) l0 o1.1)) else none) else (mX9_doThing_246 N x)
theorem kX9_doThing_219 {d : Nat} {x0 : zv_X} {o : zv_X} (hd : 6 ≤ d) {N : Nat} (l0 : Nat) (l1 : Int32) (l6 : Int32) (x : zv_X) (h : mX9_doThing_219 N l0 l1 l6 x = some o) : zv_V (fX9_doThing d x0 o) 219 [(0, .ref l0), (1, .int l1), (6, .int l6)] [] x := by
  unfold mX9_doThing_219 at h
  refine zv_iload_n (n := 1) dX9_doThing_219 rfl rfl ?_
  refine zv_sipush (v := 193) dX9_doThing_220 (by decide) ?_
  refine zr_icmp_ne (tgt := 246) dX9_doThing_223 (by decide) h (fun c4 h => ?_) (fun c4 h => ?_)
  · exact zv_fewer [] rfl (kX9_doThing_246 hd _ h)
  · refine zv_aload_n (n := 0) dX9_doThing_226 rfl rfl ?_
    refine zr_cVl (ci := 9) (st := []) dX9_doThing_227 mw_X9_popValue wd_1727 wd_1729 wd_79 rfl rfl [] rfl rfl (Nat.le_of_ble_eq_true rfl) (show d - 1 + 1 ≤ d by omega) h (fun o1 e2 => tX9_popValue (d := d - 1) (by omega) e2) (fun o1 e2 h => ?_)
    refine zv_pop2_2 dX9_doThing_230 rfl ?_
    refine zv_aload_n (n := 0) dX9_doThing_231 rfl rfl ?_
    refine zv_iconst (v := 1) dX9_doThing_232 (by decide) ?_
    refine zv_iload (n := 2) dX9_doThing_233 rfl ?_
    refine zr_if_eq (tgt := 242) dX9_doThing_235 (by decide) h (fun c3 h => ?_) (fun c3 h => ?_)
    · refine zv_lconst (v := 0) dX9_doThing_242 (by decide) ?_
      exact zv_fewer [] rfl (kX9_doThing_243 hd _ _ _ _ h)
    · refine zv_lconst (v := 1) dX9_doThing_238 (by decide) ?_
      refine zv_goto (tgt := 243) dX9_doThing_239 (by decide) ?_
      exact zv_fewer [] rfl (kX9_doThing_243 hd _ _ _ _ h)
def mX9_doThing_190 (N : Nat) (l0 : Nat) (l1 : Int32) (l4 : Int64) (s0 : Int32) (x : zv_X) : Option zv_X := if l1 = (192 : Int32) then (if (lg_cmp l4 (0 : Int64)) = 0 then (mX9_doThing_219 N l0 l1 s0 x) else (if s0 = 0 then (if zm_k x l0 9 = true then ((mX9_fail N l0 (5 : Int32) x).bind fun o1 => mX9_doThing_246 N o1) else none) else (mX9_doThing_219 N l0 l1 s0 x))) else (mX9_doThing_219 N l0 l1 s0 x)
theorem kX9_doThing_190 {d : Nat} {x0 : zv_X} {o : zv_X} (hd : 6 ≤ d) {N : Nat} (l0 : Nat) (l1 : Int32) (l4 : Int64) (s0 : Int32) (x : zv_X) (h : mX9_doThing_190 N l0 l1 l4 s0 x = some o) : zv_V (fX9_doThing d x0 o) 190 [(0, .ref l0), (1, .int l1), (4, .long l4)] [.int s0] x := by
  unfold mX9_doThing_190 at h
  refine zv_istore (L' := [(6, .int s0), (0, .ref l0), (1, .int l1), (4, .long l4)]) dX9_doThing_190 (Nat.le_of_ble_eq_true rfl) rfl ?_
  refine zv_iload_n (n := 2) dX9_doThing_192 rfl rfl ?_
  refine zv_sipush (v := 192) dX9_doThing_193 (by decide) ?_
  refine zr_icmp_ne (tgt := 219) dX9_doThing_196 (by decide) h (fun c5 h => ?_) (fun c5 h => ?_)
  · exact zv_fewer [1, 2, 0] rfl (kX9_doThing_219 hd _ _ _ _ h)
  · refine zv_lload (n := 3) dX9_doThing_199 rfl ?_
    refine zv_lconst (v := 0) dX9_doThing_201 (by decide) ?_
    refine zv_lcmp dX9_doThing_202 ?_
    refine zr_if_eq (tgt := 219) dX9_doThing_203 (by decide) h (fun c4 h => ?_) (fun c4 h => ?_)
    · exact zv_fewer [1, 2, 0] rfl (kX9_doThing_219 hd _ _ _ _ h)
    · refine zv_iload (n := 0) dX9_doThing_206 rfl ?_
      refine zr_if_ne (tgt := 219) dX9_doThing_208 (by decide) h (fun c3 h => ?_) (fun c3 h => ?_)
      · exact zv_fewer [1, 2, 0] rfl (kX9_doThing_219 hd _ _ _ _ h)
      · refine zv_aload_n (n := 1) dX9_doThing_211 rfl rfl ?_
        refine zv_iconst (v := 5) dX9_doThing_212 (by decide) ?_
        refine zr_cVv (ci := 9) (st := []) dX9_doThing_213 mw_X9_fail wd_1689 wd_1691 wd_71 rfl rfl [.int (5 : Int32)] rfl rfl (Nat.le_of_ble_eq_true rfl) (show d - 1 + 1 ≤ d by omega) h (fun o1 e2 => tX9_fail (d := d - 1) (by omega) e2) (fun o1 e2 h => ?_)
        refine zv_goto (tgt := 246) dX9_doThing_216 (by decide) ?_
        exact zv_fewer [] rfl (kX9_doThing_246 hd _ h)
def mX9_doThing_189 (N : Nat) (l0 : Nat) (l1 : Int32) (l4 : Int64) (x : zv_X) : Option zv_X := mX9_doThing_190 N l0 l1 l4 (0 : Int32) x
theorem kX9_doThing_189 {d : Nat} {x0 : zv_X} {o : zv_X} (hd : 6 ≤ d) {N : Nat} (l0 : Nat) (l1 : Int32) (l4 : Int64) (x : zv_X) (h : mX9_doThing_189 N l0 l1 l4 x = some o) : zv_V (fX9_doThing d x0 o) 189 [(0, .ref l0), (1, .int l1), (4, .long l4)] [] x := by
  unfold mX9_doThing_189 at h
  refine zv_iconst (v := 0) dX9_doThing_189 (by decide) ?_
  exact kX9_doThing_190 hd _ _ _ _ _ h
def mX9_doThing_158 (N : Nat) (l0 : Nat) (l1 : Int32) (l2 : Int32) (x : zv_X) : Option zv_X := if zm_k x l0 9 = true then ((mX9_peek N l0 (0 : Int32) x).bind fun o1 => if (lg_cmp o1.2 (0 : Int64)) = 0 then (mX9_doThing_189 N l0 l1 o1.2 o1.1) else (if zm_k o1.1 l0 9 = true then ((mX9_isOf N l0 ((Int64.toInt32 o1.2) - (1 : Int32)) l2 o1.1).bind fun o3 => if o3.2 = 0 then (mX9_doThing_189 N l0 l1 o1.2 o3.1) else (mX9_doThing_190 N l0 l1 o1.2 (1 : Int32) o3.1)) else none)) else none
theorem kX9_doThing_158 {d : Nat} {x0 : zv_X} {o : zv_X} (hd : 6 ≤ d) {N : Nat} (l0 : Nat) (l1 : Int32) (l2 : Int32) (x : zv_X) (h : mX9_doThing_158 N l0 l1 l2 x = some o) : zv_V (fX9_doThing d x0 o) 158 [(0, .ref l0), (1, .int l1), (2, .int l2)] [] x := by
  unfold mX9_doThing_158 at h
  refine zv_aload_n (n := 0) dX9_doThing_158 rfl rfl ?_
  refine zv_iconst (v := 0) dX9_doThing_159 (by decide) ?_
  refine zr_cVl (ci := 9) (st := []) dX9_doThing_160 mw_X9_peek wd_1678 wd_1680 wd_69 rfl rfl [.int (0 : Int32)] rfl rfl (Nat.le_of_ble_eq_true rfl) (show d - 1 + 1 ≤ d by omega) h (fun o1 e2 => tX9_peek (d := d - 1) (by omega) e2) (fun o1 e2 h => ?_)
  refine zv_lstore (L' := [(4, .long o1.2), (0, .ref l0), (1, .int l1), (2, .int l2)]) dX9_doThing_163 (Nat.le_of_ble_eq_true rfl) rfl ?_
  refine zv_lload (n := 0) dX9_doThing_165 rfl ?_
  refine zv_lconst (v := 0) dX9_doThing_167 (by decide) ?_
  refine zv_lcmp dX9_doThing_168 ?_
  refine zr_if_eq (tgt := 189) dX9_doThing_169 (by decide) h (fun c6 h => ?_) (fun c6 h => ?_)
  · exact zv_fewer [1, 2, 0] rfl (kX9_doThing_189 hd _ _ _ _ h)
  · refine zv_aload_n (n := 1) dX9_doThing_172 rfl rfl ?_
    refine zv_lload (n := 0) dX9_doThing_173 rfl ?_
    refine zv_l2i dX9_doThing_175 ?_
    refine zv_iconst (v := 1) dX9_doThing_176 (by decide) ?_
    refine zv_isub dX9_doThing_177 ?_
    refine zv_iload_n (n := 3) dX9_doThing_178 rfl rfl ?_
    refine zr_cVi (ci := 9) (st := []) dX9_doThing_179 mw_X9_isOf wd_1723 wd_1725 wd_78 rfl rfl [.int ((Int64.toInt32 o1.2) - (1 : Int32)), .int l2] rfl rfl (Nat.le_of_ble_eq_true rfl) (show d - 1 + 1 ≤ d by omega) h (fun o3 e4 => tX9_isOf (d := d - 1) (by omega) e4) (fun o3 e4 h => ?_)
    refine zr_if_eq (tgt := 189) dX9_doThing_182 (by decide) h (fun c5 h => ?_) (fun c5 h => ?_)
    · exact zv_fewer [1, 2, 0] rfl (kX9_doThing_189 hd _ _ _ _ h)
    · refine zv_iconst (v := 1) dX9_doThing_185 (by decide) ?_
      refine zv_goto (tgt := 190) dX9_doThing_186 (by decide) ?_
      exact zv_fewer [1, 2, 0] rfl (kX9_doThing_190 hd _ _ _ _ _ h)
def mX9_doThing_35 (N : Nat)  (x : zv_X) : Option zv_X := mX9_doThing_256 N x
theorem kX9_doThing_35 {d : Nat} {x0 : zv_X} {o : zv_X} (hd : 6 ≤ d) {N : Nat}  (x : zv_X) (h : mX9_doThing_35 N  x = some o) : zv_V (fX9_doThing d x0 o) 35 [] [] x := by
  unfold mX9_doThing_35 at h
  refine zv_goto (tgt := 256) dX9_doThing_35 (by decide) ?_
  exact kX9_doThing_256 hd _ h
def mX9_doThing_0 (N : Nat) (l0 : Nat) (l1 : Int32) (l2 : Int32) (l3 : Int32) (x : zv_X) : Option zv_X := if l1 = (187 : Int32) then ((zm_R x l0 9 3).bind fun v7 => (zm_aI x v7 l2).bind fun v9 => if zm_k x l0 9 = true then ((mX9_make N l0 l2 (0 : Int32) v9 x).bind fun o11 => (zm_I o11.1 l0 9 49).bind fun v13 => if v13 = 0 then (if zm_k o11.1 l0 9 = true then ((mX9_pushValue N l0 (3 : Int32) o11.2 o11.1).bind fun o15 => mX9_doThing_35 N o15) else none) else (mX9_doThing_35 N o11.1)) else none) else (if l1 = (188 : Int32) then (mX9_doThing_52 N l0 l1 l2 x) else (if l1 = (189 : Int32) then (mX9_doThing_52 N l0 l1 l2 x) else (if l1 = (192 : Int32) then (mX9_doThing_158 N l0 l1 l2 x) else (if l1 = (193 : Int32) then (mX9_doThing_158 N l0 l1 l2 x) else (if zm_k x l0 9 = true then ((mX9_doField N l0 l1 l2 l3 x).bind fun o1 => mX9_doThing_256 N o1) else none)))))
theorem kX9_doThing_0 {d : Nat} {x0 : zv_X} {o : zv_X} (hd : 6 ≤ d) {N : Nat} (l0 : Nat) (l1 : Int32) (l2 : Int32) (l3 : Int32) (x : zv_X) (h : mX9_doThing_0 N l0 l1 l2 l3 x = some o) : zv_V (fX9_doThing d x0 o) 0 [(0, .ref l0), (1, .int l1), (2, .int l2), (3, .int l3)] [] x := by
  unfold mX9_doThing_0 at h
  refine zv_iload_n (n := 1) dX9_doThing_0 rfl rfl ?_
  refine zv_sipush (v := 187) dX9_doThing_1 (by decide) ?_
  refine zr_icmp_ne (tgt := 38) dX9_doThing_4 (by decide) h (fun c18 h => ?_) (fun c18 h => ?_)
  · refine zv_iload_n (n := 1) dX9_doThing_38 rfl rfl ?_
    refine zv_sipush (v := 188) dX9_doThing_39 (by decide) ?_
    refine zr_icmp_eq (tgt := 52) dX9_doThing_42 (by decide) h (fun c6 h => ?_) (fun c6 h => ?_)
    · exact zv_fewer [0, 1, 2] rfl (kX9_doThing_52 hd _ _ _ _ h)
    · refine zv_iload_n (n := 1) dX9_doThing_45 rfl rfl ?_
      refine zv_sipush (v := 189) dX9_doThing_46 (by decide) ?_
      refine zr_icmp_ne (tgt := 144) dX9_doThing_49 (by decide) h (fun c5 h => ?_) (fun c5 h => ?_)
      · refine zv_iload_n (n := 1) dX9_doThing_144 rfl rfl ?_
        refine zv_sipush (v := 192) dX9_doThing_145 (by decide) ?_
        refine zr_icmp_eq (tgt := 158) dX9_doThing_148 (by decide) h (fun c4 h => ?_) (fun c4 h => ?_)
        · exact zv_fewer [0, 1, 2] rfl (kX9_doThing_158 hd _ _ _ _ h)
        · refine zv_iload_n (n := 1) dX9_doThing_151 rfl rfl ?_
          refine zv_sipush (v := 193) dX9_doThing_152 (by decide) ?_
          refine zr_icmp_ne (tgt := 249) dX9_doThing_155 (by decide) h (fun c3 h => ?_) (fun c3 h => ?_)
          · refine zv_aload_n (n := 0) dX9_doThing_249 rfl rfl ?_
            refine zv_iload_n (n := 1) dX9_doThing_250 rfl rfl ?_
            refine zv_iload_n (n := 2) dX9_doThing_251 rfl rfl ?_
            refine zv_iload_n (n := 3) dX9_doThing_252 rfl rfl ?_
            refine zr_cVv (ci := 9) (st := []) dX9_doThing_253 mw_X9_doField wd_1777 wd_1779 wd_89 rfl rfl [.int l1, .int l2, .int l3] rfl rfl (Nat.le_of_ble_eq_true rfl) (show d - 1 + 1 ≤ d by omega) h (fun o1 e2 => tX9_doField (d := d - 1) (by omega) e2) (fun o1 e2 h => ?_)
            exact zv_fewer [] rfl (kX9_doThing_256 hd _ h)
          · exact zv_fewer [0, 1, 2] rfl (kX9_doThing_158 hd _ _ _ _ h)
      · exact zv_fewer [0, 1, 2] rfl (kX9_doThing_52 hd _ _ _ _ h)
  · refine zv_aload_n (n := 0) dX9_doThing_7 rfl rfl ?_
    refine zv_iload_n (n := 2) dX9_doThing_8 rfl rfl ?_
    refine zv_iconst (v := 0) dX9_doThing_9 (by decide) ?_
    refine zv_aload_n (n := 0) dX9_doThing_10 rfl rfl ?_
    refine zr_gR dX9_doThing_11 fg_1406 h (fun v7 e8 h => ?_)
    refine zv_iload_n (n := 2) dX9_doThing_14 rfl rfl ?_
    refine zr_aI dX9_doThing_15 h (fun v9 e10 h => ?_)
    refine zr_cVl (ci := 9) (st := []) dX9_doThing_16 mw_X9_make wd_1697 wd_1699 wd_73 rfl rfl [.int l2, .int (0 : Int32), .int v9] rfl rfl (Nat.le_of_ble_eq_true rfl) (show d - 1 + 1 ≤ d by omega) h (fun o11 e12 => tX9_make (d := d - 1) (by omega) e12) (fun o11 e12 h => ?_)
    refine zv_lstore (L' := [(4, .long o11.2), (0, .ref l0), (1, .int l1), (2, .int l2), (3, .int l3)]) dX9_doThing_19 (Nat.le_of_ble_eq_true rfl) rfl ?_
    refine zv_aload_n (n := 1) dX9_doThing_21 rfl rfl ?_
    refine zr_gI dX9_doThing_22 fg_1452 h (fun v13 e14 h => ?_)
    refine zr_if_ne (tgt := 35) dX9_doThing_25 (by decide) h (fun c17 h => ?_) (fun c17 h => ?_)
    · exact zv_fewer [] rfl (kX9_doThing_35 hd _ h)
    · refine zv_aload_n (n := 1) dX9_doThing_28 rfl rfl ?_
      refine zv_iconst (v := 3) dX9_doThing_29 (by decide) ?_
      refine zv_lload (n := 0) dX9_doThing_30 rfl ?_
      refine zr_cVv (ci := 9) (st := []) dX9_doThing_32 mw_X9_pushValue wd_1670 wd_1672 wd_67 rfl rfl [.int (3 : Int32), .long o11.2] rfl rfl (Nat.le_of_ble_eq_true rfl) (show d - 1 + 1 ≤ d by omega) h (fun o15 e16 => tX9_pushValue (d := d - 1) (by omega) e16) (fun o15 e16 h => ?_)
      exact zv_fewer [] rfl (kX9_doThing_35 hd _ h)
def mX9_doThing (N : Nat) (a0 : Nat) (a1 : Int32) (a2 : Int32) (a3 : Int32) (x : zv_X) : Option zv_X := mX9_doThing_0 N a0 a1 a2 a3 x
theorem tX9_doThing {d : Nat} (hd : 6 ≤ d) {N : Nat} {x : zv_X} {a0 : Nat} {a1 : Int32} {a2 : Int32} {a3 : Int32} {o : zv_X} (h : mX9_doThing N a0 a1 a2 a3 x = some o) : zv_T d yX9_doThing cX9_doThing 9 (none) [.ref a0, .int a1, .int a2, .int a3] x o none := by
  unfold mX9_doThing at h
  exact zv_enter (by decide) (Nat.le_of_ble_eq_true rfl) (kX9_doThing_0 hd _ _ _ _ _ h)

abbrev fX9_doThrow (d : Nat) (x0 : zv_X) (o : zv_X) : zv_G := (d, RX9, cX9_doThrow, 3, none, ("doThrow", []), x0, o, zv_fin x0 o none)
def mX9_doThrow_48 (N : Nat)  (x : zv_X) : Option zv_X := some x
theorem kX9_doThrow_48 {d : Nat} {x0 : zv_X} {o : zv_X} (hd : 4 ≤ d) {N : Nat}  (x : zv_X) (h : mX9_doThrow_48 N  x = some o) : zv_V (fX9_doThrow d x0 o) 48 [] [] x := by
  unfold mX9_doThrow_48 at h
  cases h
  exact zv_vret dX9_doThrow_48 rfl
def mX9_doThrow_0 (N : Nat) (l0 : Nat) (x : zv_X) : Option zv_X := if zm_k x l0 9 = true then ((mX9_peek N l0 (0 : Int32) x).bind fun o1 => if (lg_cmp o1.2 (0 : Int64)) = 0 then (if zm_k o1.1 l0 9 = true then ((mX9_raise N l0 (2 : Int32) o1.1).bind fun o12 => mX9_doThrow_48 N o12) else none) else ((zm_R o1.1 l0 9 32).bind fun v3 => (zm_aI o1.1 v3 ((Int64.toInt32 o1.2) - (1 : Int32))).bind fun v5 => if v5 ≤ 0 then (if zm_k o1.1 l0 9 = true then ((mX9_hurl N l0 ((Int64.toInt32 o1.2) - (1 : Int32)) o1.1).bind fun o7 => mX9_doThrow_48 N o7) else none) else (if zm_k o1.1 l0 9 = true then ((mX9_raise N l0 (5 : Int32) o1.1).bind fun o9 => mX9_doThrow_48 N o9) else none))) else none
theorem kX9_doThrow_0 {d : Nat} {x0 : zv_X} {o : zv_X} (hd : 4 ≤ d) {N : Nat} (l0 : Nat) (x : zv_X) (h : mX9_doThrow_0 N l0 x = some o) : zv_V (fX9_doThrow d x0 o) 0 [(0, .ref l0)] [] x := by
  unfold mX9_doThrow_0 at h
  refine zv_aload_n (n := 0) dX9_doThrow_0 rfl rfl ?_
  refine zv_iconst (v := 0) dX9_doThrow_1 (by decide) ?_
  refine zr_cVl (ci := 9) (st := []) dX9_doThrow_2 mw_X9_peek wd_1678 wd_1680 wd_69 rfl rfl [.int (0 : Int32)] rfl rfl (Nat.le_of_ble_eq_true rfl) (show d - 1 + 1 ≤ d by omega) h (fun o1 e2 => tX9_peek (d := d - 1) (by omega) e2) (fun o1 e2 h => ?_)
  refine zv_lstore_n (L' := [(1, .long o1.2), (0, .ref l0)]) dX9_doThrow_5 rfl (Nat.le_of_ble_eq_true rfl) rfl ?_
  refine zv_lload_n (n := 0) dX9_doThrow_6 rfl rfl ?_
  refine zv_lconst (v := 0) dX9_doThrow_7 (by decide) ?_
  refine zv_lcmp dX9_doThrow_8 ?_
  refine zr_if_ne (tgt := 20) dX9_doThrow_9 (by decide) h (fun c14 h => ?_) (fun c14 h => ?_)
  · refine zv_aload_n (n := 1) dX9_doThrow_20 rfl rfl ?_
    refine zr_gR dX9_doThrow_21 fg_1435 h (fun v3 e4 h => ?_)
    refine zv_lload_n (n := 0) dX9_doThrow_24 rfl rfl ?_
    refine zv_l2i dX9_doThrow_25 ?_
    refine zv_iconst (v := 1) dX9_doThrow_26 (by decide) ?_
    refine zv_isub dX9_doThrow_27 ?_
    refine zr_aI dX9_doThrow_28 h (fun v5 e6 h => ?_)
    refine zr_if_le (tgt := 40) dX9_doThrow_29 (by decide) h (fun c11 h => ?_) (fun c11 h => ?_)
    · refine zv_aload_n (n := 1) dX9_doThrow_40 rfl rfl ?_
      refine zv_lload_n (n := 0) dX9_doThrow_41 rfl rfl ?_
      refine zv_l2i dX9_doThrow_42 ?_
      refine zv_iconst (v := 1) dX9_doThrow_43 (by decide) ?_
      refine zv_isub dX9_doThrow_44 ?_
      refine zr_cVv (ci := 9) (st := []) dX9_doThrow_45 mw_X9_hurl wd_1719 wd_1721 wd_77 rfl rfl [.int ((Int64.toInt32 o1.2) - (1 : Int32))] rfl rfl (Nat.le_of_ble_eq_true rfl) (show d - 1 + 1 ≤ d by omega) h (fun o7 e8 => tX9_hurl (d := d - 1) (by omega) e8) (fun o7 e8 h => ?_)
      exact zv_fewer [] rfl (kX9_doThrow_48 hd _ h)
    · refine zv_aload_n (n := 1) dX9_doThrow_32 rfl rfl ?_
      refine zv_iconst (v := 5) dX9_doThrow_33 (by decide) ?_
      refine zr_cVv (ci := 9) (st := []) dX9_doThrow_34 mw_X9_raise wd_1693 wd_1695 wd_72 rfl rfl [.int (5 : Int32)] rfl rfl (Nat.le_of_ble_eq_true rfl) (show d - 1 + 1 ≤ d by omega) h (fun o9 e10 => tX9_raise (d := d - 1) (by omega) e10) (fun o9 e10 h => ?_)
      refine zv_goto (tgt := 48) dX9_doThrow_37 (by decide) ?_
      exact zv_fewer [] rfl (kX9_doThrow_48 hd _ h)
  · refine zv_aload_n (n := 1) dX9_doThrow_12 rfl rfl ?_
    refine zv_iconst (v := 2) dX9_doThrow_13 (by decide) ?_
    refine zr_cVv (ci := 9) (st := []) dX9_doThrow_14 mw_X9_raise wd_1693 wd_1695 wd_72 rfl rfl [.int (2 : Int32)] rfl rfl (Nat.le_of_ble_eq_true rfl) (show d - 1 + 1 ≤ d by omega) h (fun o12 e13 => tX9_raise (d := d - 1) (by omega) e13) (fun o12 e13 h => ?_)
    refine zv_goto (tgt := 48) dX9_doThrow_17 (by decide) ?_
    exact zv_fewer [] rfl (kX9_doThrow_48 hd _ h)
def mX9_doThrow (N : Nat) (a0 : Nat) (x : zv_X) : Option zv_X := mX9_doThrow_0 N a0 x
theorem tX9_doThrow {d : Nat} (hd : 4 ≤ d) {N : Nat} {x : zv_X} {a0 : Nat} {o : zv_X} (h : mX9_doThrow N a0 x = some o) : zv_T d yX9_doThrow cX9_doThrow 3 (none) [.ref a0] x o none := by
  unfold mX9_doThrow at h
  exact zv_enter (by decide) (Nat.le_of_ble_eq_true rfl) (kX9_doThrow_0 hd _ _ h)

abbrev fX9_holds (d : Nat) (x0 : zv_X) (o : (zv_X × Int32)) : zv_G := (d, RX9, cX9_holds, 5, (some .boolean), ("holds", []), x0, o.1, zv_fin x0 o.1 (some (.int o.2)))
def mX9_holds_105 (N : Nat) (s0 : Int32) (x : zv_X) : Option (zv_X × Int32) := if s0 = 0 ∨ s0 = 1 then some (x, s0) else none
theorem kX9_holds_105 {d : Nat} {x0 : zv_X} {o : (zv_X × Int32)} (hd : 0 ≤ d) {N : Nat} (s0 : Int32) (x : zv_X) (h : mX9_holds_105 N s0 x = some o) : zv_V (fX9_holds d x0 o) 105 [] [.int s0] x := by
  unfold mX9_holds_105 at h
  obtain ⟨hv, h⟩ := zg h
  cases h
  exact zv_zret dX9_holds_105 rfl hv
def mX9_holds_0 (N : Nat) (l0 : Int32) (l1 : Int64) (l3 : Int64) (x : zv_X) : Option (zv_X × Int32) := if l0 = 0 then (if (lg_cmp l1 l3) = 0 then (mX9_holds_105 N (1 : Int32) x) else (mX9_holds_105 N (0 : Int32) x)) else (if l0 = (1 : Int32) then (if (lg_cmp l1 l3) = 0 then (mX9_holds_105 N (0 : Int32) x) else (mX9_holds_105 N (1 : Int32) x)) else (if l0 = (2 : Int32) then (if 0 ≤ (lg_cmp l1 l3) then (mX9_holds_105 N (0 : Int32) x) else (mX9_holds_105 N (1 : Int32) x)) else (if l0 = (3 : Int32) then (if (lg_cmp l1 l3) < 0 then (mX9_holds_105 N (0 : Int32) x) else (mX9_holds_105 N (1 : Int32) x)) else (if l0 = (4 : Int32) then (if (lg_cmp l1 l3) ≤ 0 then (mX9_holds_105 N (0 : Int32) x) else (mX9_holds_105 N (1 : Int32) x)) else (if 0 < (lg_cmp l1 l3) then (mX9_holds_105 N (0 : Int32) x) else (mX9_holds_105 N (1 : Int32) x))))))
theorem kX9_holds_0 {d : Nat} {x0 : zv_X} {o : (zv_X × Int32)} (hd : 0 ≤ d) {N : Nat} (l0 : Int32) (l1 : Int64) (l3 : Int64) (x : zv_X) (h : mX9_holds_0 N l0 l1 l3 x = some o) : zv_V (fX9_holds d x0 o) 0 [(0, .int l0), (1, .long l1), (3, .long l3)] [] x := by
  unfold mX9_holds_0 at h
  refine zv_iload_n (n := 0) dX9_holds_0 rfl rfl ?_
  refine zr_if_ne (tgt := 18) dX9_holds_1 (by decide) h (fun c11 h => ?_) (fun c11 h => ?_)
  · refine zv_iload_n (n := 0) dX9_holds_18 rfl rfl ?_
    refine zv_iconst (v := 1) dX9_holds_19 (by decide) ?_
    refine zr_icmp_ne (tgt := 37) dX9_holds_20 (by decide) h (fun c9 h => ?_) (fun c9 h => ?_)
    · refine zv_iload_n (n := 0) dX9_holds_37 rfl rfl ?_
      refine zv_iconst (v := 2) dX9_holds_38 (by decide) ?_
      refine zr_icmp_ne (tgt := 56) dX9_holds_39 (by decide) h (fun c7 h => ?_) (fun c7 h => ?_)
      · refine zv_iload_n (n := 0) dX9_holds_56 rfl rfl ?_
        refine zv_iconst (v := 3) dX9_holds_57 (by decide) ?_
        refine zr_icmp_ne (tgt := 75) dX9_holds_58 (by decide) h (fun c5 h => ?_) (fun c5 h => ?_)
        · refine zv_iload_n (n := 0) dX9_holds_75 rfl rfl ?_
          refine zv_iconst (v := 4) dX9_holds_76 (by decide) ?_
          refine zr_icmp_ne (tgt := 94) dX9_holds_77 (by decide) h (fun c3 h => ?_) (fun c3 h => ?_)
          · refine zv_lload_n (n := 1) dX9_holds_94 rfl rfl ?_
            refine zv_lload_n (n := 2) dX9_holds_95 rfl rfl ?_
            refine zv_lcmp dX9_holds_96 ?_
            refine zr_if_gt (tgt := 104) dX9_holds_97 (by decide) h (fun c1 h => ?_) (fun c1 h => ?_)
            · refine zv_iconst (v := 0) dX9_holds_104 (by decide) ?_
              exact zv_fewer [] rfl (kX9_holds_105 hd _ _ h)
            · refine zv_iconst (v := 1) dX9_holds_100 (by decide) ?_
              refine zv_goto (tgt := 105) dX9_holds_101 (by decide) ?_
              exact zv_fewer [] rfl (kX9_holds_105 hd _ _ h)
          · refine zv_lload_n (n := 1) dX9_holds_80 rfl rfl ?_
            refine zv_lload_n (n := 2) dX9_holds_81 rfl rfl ?_
            refine zv_lcmp dX9_holds_82 ?_
            refine zr_if_le (tgt := 90) dX9_holds_83 (by decide) h (fun c2 h => ?_) (fun c2 h => ?_)
            · refine zv_iconst (v := 0) dX9_holds_90 (by decide) ?_
              refine zv_goto (tgt := 105) dX9_holds_91 (by decide) ?_
              exact zv_fewer [] rfl (kX9_holds_105 hd _ _ h)
            · refine zv_iconst (v := 1) dX9_holds_86 (by decide) ?_
              refine zv_goto (tgt := 105) dX9_holds_87 (by decide) ?_
              exact zv_fewer [] rfl (kX9_holds_105 hd _ _ h)
        · refine zv_lload_n (n := 1) dX9_holds_61 rfl rfl ?_
          refine zv_lload_n (n := 2) dX9_holds_62 rfl rfl ?_
          refine zv_lcmp dX9_holds_63 ?_
          refine zr_if_lt (tgt := 71) dX9_holds_64 (by decide) h (fun c4 h => ?_) (fun c4 h => ?_)
          · refine zv_iconst (v := 0) dX9_holds_71 (by decide) ?_
            refine zv_goto (tgt := 105) dX9_holds_72 (by decide) ?_
            exact zv_fewer [] rfl (kX9_holds_105 hd _ _ h)
          · refine zv_iconst (v := 1) dX9_holds_67 (by decide) ?_
            refine zv_goto (tgt := 105) dX9_holds_68 (by decide) ?_
            exact zv_fewer [] rfl (kX9_holds_105 hd _ _ h)
      · refine zv_lload_n (n := 1) dX9_holds_42 rfl rfl ?_
        refine zv_lload_n (n := 2) dX9_holds_43 rfl rfl ?_
        refine zv_lcmp dX9_holds_44 ?_
        refine zr_if_ge (tgt := 52) dX9_holds_45 (by decide) h (fun c6 h => ?_) (fun c6 h => ?_)
        · refine zv_iconst (v := 0) dX9_holds_52 (by decide) ?_
          refine zv_goto (tgt := 105) dX9_holds_53 (by decide) ?_
          exact zv_fewer [] rfl (kX9_holds_105 hd _ _ h)
        · refine zv_iconst (v := 1) dX9_holds_48 (by decide) ?_
          refine zv_goto (tgt := 105) dX9_holds_49 (by decide) ?_
          exact zv_fewer [] rfl (kX9_holds_105 hd _ _ h)
    · refine zv_lload_n (n := 1) dX9_holds_23 rfl rfl ?_
      refine zv_lload_n (n := 2) dX9_holds_24 rfl rfl ?_
      refine zv_lcmp dX9_holds_25 ?_
      refine zr_if_eq (tgt := 33) dX9_holds_26 (by decide) h (fun c8 h => ?_) (fun c8 h => ?_)
      · refine zv_iconst (v := 0) dX9_holds_33 (by decide) ?_
        refine zv_goto (tgt := 105) dX9_holds_34 (by decide) ?_
        exact zv_fewer [] rfl (kX9_holds_105 hd _ _ h)
      · refine zv_iconst (v := 1) dX9_holds_29 (by decide) ?_
        refine zv_goto (tgt := 105) dX9_holds_30 (by decide) ?_
        exact zv_fewer [] rfl (kX9_holds_105 hd _ _ h)
  · refine zv_lload_n (n := 1) dX9_holds_4 rfl rfl ?_
    refine zv_lload_n (n := 2) dX9_holds_5 rfl rfl ?_
    refine zv_lcmp dX9_holds_6 ?_
    refine zr_if_ne (tgt := 14) dX9_holds_7 (by decide) h (fun c10 h => ?_) (fun c10 h => ?_)
    · refine zv_iconst (v := 0) dX9_holds_14 (by decide) ?_
      refine zv_goto (tgt := 105) dX9_holds_15 (by decide) ?_
      exact zv_fewer [] rfl (kX9_holds_105 hd _ _ h)
    · refine zv_iconst (v := 1) dX9_holds_10 (by decide) ?_
      refine zv_goto (tgt := 105) dX9_holds_11 (by decide) ?_
      exact zv_fewer [] rfl (kX9_holds_105 hd _ _ h)
def mX9_holds (N : Nat) (a0 : Int32) (a1 : Int64) (a2 : Int64) (x : zv_X) : Option (zv_X × Int32) := mX9_holds_0 N a0 a1 a2 x
theorem tX9_holds {d : Nat} (hd : 0 ≤ d) {N : Nat} {x : zv_X} {a0 : Int32} {a1 : Int64} {a2 : Int64} {o : (zv_X × Int32)} (h : mX9_holds N a0 a1 a2 x = some o) : zv_T d yX9_holds cX9_holds 5 ((some .boolean)) [.int a0, .long a1, .long a2] x o.1 (some (.int o.2)) := by
  unfold mX9_holds at h
  exact zv_enter (by decide) (Nat.le_of_ble_eq_true rfl) (kX9_holds_0 hd _ _ _ _ h)
