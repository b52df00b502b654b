abbrev fX9_isSort (d : Nat) (x0 : zv_X) (o : (zv_X × Int32)) : zv_G := (d, RX9, cX9_isSort, 3, (some .boolean), ("isSort", []), x0, o.1, zv_fin x0 o.1 (some (.int o.2)))
def mX9_isSort_128 (N : Nat) (s0 : Int32) (x : zv_X) : Option (zv_X × Int32) := if s0 = 0 ∨ s0 = 1 then some (x, s0) else none
theorem kX9_isSort_128 {d : Nat} {x0 : zv_X} {o : (zv_X × Int32)} (hd : 0 ≤ d) {N : Nat} (s0 : Int32) (x : zv_X) (h : mX9_isSort_128 N s0 x = some o) : zv_V (fX9_isSort d x0 o) 128 [] [.int s0] x := by
  unfold mX9_isSort_128 at h
  obtain ⟨hv, h⟩ := zg h
  cases h
  exact zv_zret dX9_isSort_128 rfl hv
def mX9_isSort_90 (N : Nat)  (x : zv_X) : Option (zv_X × Int32) := mX9_isSort_128 N (1 : Int32) x
theorem kX9_isSort_90 {d : Nat} {x0 : zv_X} {o : (zv_X × Int32)} (hd : 0 ≤ d) {N : Nat}  (x : zv_X) (h : mX9_isSort_90 N  x = some o) : zv_V (fX9_isSort d x0 o) 90 [] [] x := by
  unfold mX9_isSort_90 at h
  refine zv_iconst (v := 1) dX9_isSort_90 (by decide) ?_
  refine zv_goto (tgt := 128) dX9_isSort_91 (by decide) ?_
  exact kX9_isSort_128 hd _ _ h
def mX9_isSort_17 (N : Nat) (l1 : Int32) (s0 : Int32) (x : zv_X) : Option (zv_X × Int32) := if s0 = 0 then (if l1 = (10 : Int32) then (mX9_isSort_128 N (1 : Int32) x) else (mX9_isSort_128 N (0 : Int32) x)) else (if s0 = (1 : Int32) then (if l1 = (11 : Int32) then (mX9_isSort_128 N (1 : Int32) x) else (mX9_isSort_128 N (0 : Int32) x)) else (if s0 = (4 : Int32) then (if l1 = (12 : Int32) then (mX9_isSort_128 N (1 : Int32) x) else (mX9_isSort_128 N (0 : Int32) x)) else (if s0 = (5 : Int32) then (if l1 = (4 : Int32) then (mX9_isSort_90 N x) else (if l1 = (8 : Int32) then (mX9_isSort_90 N x) else (mX9_isSort_128 N (0 : Int32) x))) else (if s0 = (6 : Int32) then (if l1 = (5 : Int32) then (mX9_isSort_128 N (1 : Int32) x) else (mX9_isSort_128 N (0 : Int32) x)) else (if l1 = (9 : Int32) then (mX9_isSort_128 N (1 : Int32) x) else (mX9_isSort_128 N (0 : Int32) x))))))
theorem kX9_isSort_17 {d : Nat} {x0 : zv_X} {o : (zv_X × Int32)} (hd : 0 ≤ d) {N : Nat} (l1 : Int32) (s0 : Int32) (x : zv_X) (h : mX9_isSort_17 N l1 s0 x = some o) : zv_V (fX9_isSort d x0 o) 17 [(1, .int l1)] [.int s0] x := by
  unfold mX9_isSort_17 at h
  refine zv_istore_n (L' := [(2, .int s0), (1, .int l1)]) dX9_isSort_17 rfl (Nat.le_of_ble_eq_true rfl) rfl ?_
  refine zv_iload_n (n := 0) dX9_isSort_18 rfl rfl ?_
  refine zr_if_ne (tgt := 36) dX9_isSort_19 (by decide) h (fun c12 h => ?_) (fun c12 h => ?_)
  · refine zv_iload_n (n := 0) dX9_isSort_36 rfl rfl ?_
    refine zv_iconst (v := 1) dX9_isSort_37 (by decide) ?_
    refine zr_icmp_ne (tgt := 55) dX9_isSort_38 (by decide) h (fun c10 h => ?_) (fun c10 h => ?_)
    · refine zv_iload_n (n := 0) dX9_isSort_55 rfl rfl ?_
      refine zv_iconst (v := 4) dX9_isSort_56 (by decide) ?_
      refine zr_icmp_ne (tgt := 74) dX9_isSort_57 (by decide) h (fun c8 h => ?_) (fun c8 h => ?_)
      · refine zv_iload_n (n := 0) dX9_isSort_74 rfl rfl ?_
        refine zv_iconst (v := 5) dX9_isSort_75 (by decide) ?_
        refine zr_icmp_ne (tgt := 98) dX9_isSort_76 (by decide) h (fun c6 h => ?_) (fun c6 h => ?_)
        · refine zv_iload_n (n := 0) dX9_isSort_98 rfl rfl ?_
          refine zv_bipush (v := 6) dX9_isSort_99 (by decide) ?_
          refine zr_icmp_ne (tgt := 117) dX9_isSort_101 (by decide) h (fun c3 h => ?_) (fun c3 h => ?_)
          · refine zv_iload_n (n := 1) dX9_isSort_117 rfl rfl ?_
            refine zv_bipush (v := 9) dX9_isSort_118 (by decide) ?_
            refine zr_icmp_ne (tgt := 127) dX9_isSort_120 (by decide) h (fun c1 h => ?_) (fun c1 h => ?_)
            · refine zv_iconst (v := 0) dX9_isSort_127 (by decide) ?_
              exact zv_fewer [] rfl (kX9_isSort_128 hd _ _ h)
            · refine zv_iconst (v := 1) dX9_isSort_123 (by decide) ?_
              refine zv_goto (tgt := 128) dX9_isSort_124 (by decide) ?_
              exact zv_fewer [] rfl (kX9_isSort_128 hd _ _ h)
          · refine zv_iload_n (n := 1) dX9_isSort_104 rfl rfl ?_
            refine zv_iconst (v := 5) dX9_isSort_105 (by decide) ?_
            refine zr_icmp_ne (tgt := 113) dX9_isSort_106 (by decide) h (fun c2 h => ?_) (fun c2 h => ?_)
            · refine zv_iconst (v := 0) dX9_isSort_113 (by decide) ?_
              refine zv_goto (tgt := 128) dX9_isSort_114 (by decide) ?_
              exact zv_fewer [] rfl (kX9_isSort_128 hd _ _ h)
            · refine zv_iconst (v := 1) dX9_isSort_109 (by decide) ?_
              refine zv_goto (tgt := 128) dX9_isSort_110 (by decide) ?_
              exact zv_fewer [] rfl (kX9_isSort_128 hd _ _ h)
        · refine zv_iload_n (n := 1) dX9_isSort_79 rfl rfl ?_
          refine zv_iconst (v := 4) dX9_isSort_80 (by decide) ?_
          refine zr_icmp_eq (tgt := 90) dX9_isSort_81 (by decide) h (fun c5 h => ?_) (fun c5 h => ?_)
          · exact zv_fewer [] rfl (kX9_isSort_90 hd _ h)
          · refine zv_iload_n (n := 1) dX9_isSort_84 rfl rfl ?_
            refine zv_bipush (v := 8) dX9_isSort_85 (by decide) ?_
            refine zr_icmp_ne (tgt := 94) dX9_isSort_87 (by decide) h (fun c4 h => ?_) (fun c4 h => ?_)
            · refine zv_iconst (v := 0) dX9_isSort_94 (by decide) ?_
              refine zv_goto (tgt := 128) dX9_isSort_95 (by decide) ?_
              exact zv_fewer [] rfl (kX9_isSort_128 hd _ _ h)
            · exact zv_fewer [] rfl (kX9_isSort_90 hd _ h)
      · refine zv_iload_n (n := 1) dX9_isSort_60 rfl rfl ?_
        refine zv_bipush (v := 12) dX9_isSort_61 (by decide) ?_
        refine zr_icmp_ne (tgt := 70) dX9_isSort_63 (by decide) h (fun c7 h => ?_) (fun c7 h => ?_)
        · refine zv_iconst (v := 0) dX9_isSort_70 (by decide) ?_
          refine zv_goto (tgt := 128) dX9_isSort_71 (by decide) ?_
          exact zv_fewer [] rfl (kX9_isSort_128 hd _ _ h)
        · refine zv_iconst (v := 1) dX9_isSort_66 (by decide) ?_
          refine zv_goto (tgt := 128) dX9_isSort_67 (by decide) ?_
          exact zv_fewer [] rfl (kX9_isSort_128 hd _ _ h)
    · refine zv_iload_n (n := 1) dX9_isSort_41 rfl rfl ?_
      refine zv_bipush (v := 11) dX9_isSort_42 (by decide) ?_
      refine zr_icmp_ne (tgt := 51) dX9_isSort_44 (by decide) h (fun c9 h => ?_) (fun c9 h => ?_)
      · refine zv_iconst (v := 0) dX9_isSort_51 (by decide) ?_
        refine zv_goto (tgt := 128) dX9_isSort_52 (by decide) ?_
        exact zv_fewer [] rfl (kX9_isSort_128 hd _ _ h)
      · refine zv_iconst (v := 1) dX9_isSort_47 (by decide) ?_
        refine zv_goto (tgt := 128) dX9_isSort_48 (by decide) ?_
        exact zv_fewer [] rfl (kX9_isSort_128 hd _ _ h)
  · refine zv_iload_n (n := 1) dX9_isSort_22 rfl rfl ?_
    refine zv_bipush (v := 10) dX9_isSort_23 (by decide) ?_
    refine zr_icmp_ne (tgt := 32) dX9_isSort_25 (by decide) h (fun c11 h => ?_) (fun c11 h => ?_)
    · refine zv_iconst (v := 0) dX9_isSort_32 (by decide) ?_
      refine zv_goto (tgt := 128) dX9_isSort_33 (by decide) ?_
      exact zv_fewer [] rfl (kX9_isSort_128 hd _ _ h)
    · refine zv_iconst (v := 1) dX9_isSort_28 (by decide) ?_
      refine zv_goto (tgt := 128) dX9_isSort_29 (by decide) ?_
      exact zv_fewer [] rfl (kX9_isSort_128 hd _ _ h)
def mX9_isSort_0 (N : Nat) (l0 : Int32) (l1 : Int32) (x : zv_X) : Option (zv_X × Int32) := if (60 : Int32) ≤ l0 then (mX9_isSort_17 N l1 (l0 - (79 : Int32)) x) else (mX9_isSort_17 N l1 (l0 - (46 : Int32)) x)
theorem kX9_isSort_0 {d : Nat} {x0 : zv_X} {o : (zv_X × Int32)} (hd : 0 ≤ d) {N : Nat} (l0 : Int32) (l1 : Int32) (x : zv_X) (h : mX9_isSort_0 N l0 l1 x = some o) : zv_V (fX9_isSort d x0 o) 0 [(0, .int l0), (1, .int l1)] [] x := by
  unfold mX9_isSort_0 at h
  refine zv_iload_n (n := 0) dX9_isSort_0 rfl rfl ?_
  refine zv_bipush (v := 60) dX9_isSort_1 (by decide) ?_
  refine zr_icmp_ge (tgt := 13) dX9_isSort_3 (by decide) h (fun c1 h => ?_) (fun c1 h => ?_)
  · refine zv_iload_n (n := 0) dX9_isSort_13 rfl rfl ?_
    refine zv_bipush (v := 79) dX9_isSort_14 (by decide) ?_
    refine zv_isub dX9_isSort_16 ?_
    exact zv_fewer [1] rfl (kX9_isSort_17 hd _ _ _ h)
  · refine zv_iload_n (n := 0) dX9_isSort_6 rfl rfl ?_
    refine zv_bipush (v := 46) dX9_isSort_7 (by decide) ?_
    refine zv_isub dX9_isSort_9 ?_
    refine zv_goto (tgt := 17) dX9_isSort_10 (by decide) ?_
    exact zv_fewer [1] rfl (kX9_isSort_17 hd _ _ _ h)
def mX9_isSort (N : Nat) (a0 : Int32) (a1 : Int32) (x : zv_X) : Option (zv_X × Int32) := mX9_isSort_0 N a0 a1 x
theorem tX9_isSort {d : Nat} (hd : 0 ≤ d) {N : Nat} {x : zv_X} {a0 : Int32} {a1 : Int32} {o : (zv_X × Int32)} (h : mX9_isSort N a0 a1 x = some o) : zv_T d yX9_isSort cX9_isSort 3 ((some .boolean)) [.int a0, .int a1] x o.1 (some (.int o.2)) := by
  unfold mX9_isSort at h
  exact zv_enter (by decide) (Nat.le_of_ble_eq_true rfl) (kX9_isSort_0 hd _ _ _ h)

abbrev fX9_wrong (d : Nat) (x0 : zv_X) (o : (zv_X × Int32)) : zv_G := (d, RX9, cX9_wrong, 7, (some .int), ("wrong", []), x0, o.1, zv_fin x0 o.1 (some (.int o.2)))
def mX9_wrong_58 (N : Nat) (s0 : Int32) (x : zv_X) : Option (zv_X × Int32) := some (x, s0)
theorem kX9_wrong_58 {d : Nat} {x0 : zv_X} {o : (zv_X × Int32)} (hd : 1 ≤ d) {N : Nat} (s0 : Int32) (x : zv_X) (h : mX9_wrong_58 N s0 x = some o) : zv_V (fX9_wrong d x0 o) 58 [] [.int s0] x := by
  unfold mX9_wrong_58 at h
  cases h
  exact zv_iret dX9_wrong_58 rfl
def mX9_wrong_53 (N : Nat)  (x : zv_X) : Option (zv_X × Int32) := mX9_wrong_58 N (3 : Int32) x
theorem kX9_wrong_53 {d : Nat} {x0 : zv_X} {o : (zv_X × Int32)} (hd : 1 ≤ d) {N : Nat}  (x : zv_X) (h : mX9_wrong_53 N  x = some o) : zv_V (fX9_wrong d x0 o) 53 [] [] x := by
  unfold mX9_wrong_53 at h
  refine zv_iconst (v := 3) dX9_wrong_53 (by decide) ?_
  refine zv_goto (tgt := 58) dX9_wrong_54 (by decide) ?_
  exact kX9_wrong_58 hd _ _ h
def mX9_wrong_0 (N : Nat) (l0 : Nat) (l1 : Int32) (l2 : Int64) (l4 : Int64) (x : zv_X) : Option (zv_X × Int32) := if (lg_cmp l2 (0 : Int64)) = 0 then (some (x, (2 : Int32))) else ((zm_R x l0 9 32).bind fun v1 => (zm_aI x v1 ((Int64.toInt32 l2) - (1 : Int32))).bind fun v3 => (mX9_isSort N l1 v3 x).bind fun o5 => if o5.2 = 0 then (mX9_wrong_58 N (5 : Int32) o5.1) else (if (lg_cmp l4 (0 : Int64)) < 0 then (mX9_wrong_53 N o5.1) else ((zm_R o5.1 l0 9 33).bind fun v7 => (zm_aI o5.1 v7 ((Int64.toInt32 l2) - (1 : Int32))).bind fun v9 => if (lg_cmp l4 (Int32.toInt64 v9)) < 0 then (mX9_wrong_58 N (0 : Int32) o5.1) else (mX9_wrong_53 N o5.1))))
theorem kX9_wrong_0 {d : Nat} {x0 : zv_X} {o : (zv_X × Int32)} (hd : 1 ≤ d) {N : Nat} (l0 : Nat) (l1 : Int32) (l2 : Int64) (l4 : Int64) (x : zv_X) (h : mX9_wrong_0 N l0 l1 l2 l4 x = some o) : zv_V (fX9_wrong d x0 o) 0 [(0, .ref l0), (1, .int l1), (2, .long l2), (4, .long l4)] [] x := by
  unfold mX9_wrong_0 at h
  refine zv_lload_n (n := 2) dX9_wrong_0 rfl rfl ?_
  refine zv_lconst (v := 0) dX9_wrong_1 (by decide) ?_
  refine zv_lcmp dX9_wrong_2 ?_
  refine zr_if_ne (tgt := 8) dX9_wrong_3 (by decide) h (fun c14 h => ?_) (fun c14 h => ?_)
  · refine zv_lload_n (n := 2) dX9_wrong_8 rfl rfl ?_
    refine zv_l2i dX9_wrong_9 ?_
    refine zv_iconst (v := 1) dX9_wrong_10 (by decide) ?_
    refine zv_isub dX9_wrong_11 ?_
    refine zv_istore (L' := [(6, .int ((Int64.toInt32 l2) - (1 : Int32))), (0, .ref l0), (1, .int l1), (2, .long l2), (4, .long l4)]) dX9_wrong_12 (Nat.le_of_ble_eq_true rfl) rfl ?_
    refine zv_iload_n (n := 2) dX9_wrong_14 rfl rfl ?_
    refine zv_aload_n (n := 1) dX9_wrong_15 rfl rfl ?_
    refine zr_gR dX9_wrong_16 fg_1435 h (fun v1 e2 h => ?_)
    refine zv_iload (n := 0) dX9_wrong_19 rfl ?_
    refine zr_aI dX9_wrong_21 h (fun v3 e4 h => ?_)
    refine zr_cSi (st := []) dX9_wrong_22 mw_X9_isSort wd_1686 wd_1687 [.int l1, .int v3] rfl rfl (Nat.le_of_ble_eq_true rfl) (show d - 1 + 1 ≤ d by omega) h (fun o5 e6 => tX9_isSort (d := d - 1) (by omega) e6) (fun o5 e6 h => ?_)
    refine zr_if_ne (tgt := 32) dX9_wrong_25 (by decide) h (fun c13 h => ?_) (fun c13 h => ?_)
    · refine zv_lload (n := 4) dX9_wrong_32 rfl ?_
      refine zv_lconst (v := 0) dX9_wrong_34 (by decide) ?_
      refine zv_lcmp dX9_wrong_35 ?_
      refine zr_if_lt (tgt := 53) dX9_wrong_36 (by decide) h (fun c12 h => ?_) (fun c12 h => ?_)
      · exact zv_fewer [] rfl (kX9_wrong_53 hd _ h)
      · refine zv_lload (n := 4) dX9_wrong_39 rfl ?_
        refine zv_aload_n (n := 1) dX9_wrong_41 rfl rfl ?_
        refine zr_gR dX9_wrong_42 fg_1436 h (fun v7 e8 h => ?_)
        refine zv_iload (n := 0) dX9_wrong_45 rfl ?_
        refine zr_aI dX9_wrong_47 h (fun v9 e10 h => ?_)
        refine zv_i2l dX9_wrong_48 ?_
        refine zv_lcmp dX9_wrong_49 ?_
        refine zr_if_lt (tgt := 57) dX9_wrong_50 (by decide) h (fun c11 h => ?_) (fun c11 h => ?_)
        · refine zv_iconst (v := 0) dX9_wrong_57 (by decide) ?_
          exact zv_fewer [] rfl (kX9_wrong_58 hd _ _ h)
        · exact zv_fewer [] rfl (kX9_wrong_53 hd _ h)
    · refine zv_iconst (v := 5) dX9_wrong_28 (by decide) ?_
      refine zv_goto (tgt := 58) dX9_wrong_29 (by decide) ?_
      exact zv_fewer [] rfl (kX9_wrong_58 hd _ _ h)
  · refine zv_iconst (v := 2) dX9_wrong_6 (by decide) ?_
    cases h
    exact zv_iret dX9_wrong_7 rfl
def mX9_wrong (N : Nat) (a0 : Nat) (a1 : Int32) (a2 : Int64) (a3 : Int64) (x : zv_X) : Option (zv_X × Int32) := mX9_wrong_0 N a0 a1 a2 a3 x
theorem tX9_wrong {d : Nat} (hd : 1 ≤ d) {N : Nat} {x : zv_X} {a0 : Nat} {a1 : Int32} {a2 : Int64} {a3 : Int64} {o : (zv_X × Int32)} (h : mX9_wrong N a0 a1 a2 a3 x = some o) : zv_T d yX9_wrong cX9_wrong 7 ((some .int)) [.ref a0, .int a1, .long a2, .long a3] x o.1 (some (.int o.2)) := by
  unfold mX9_wrong at h
  exact zv_enter (by decide) (Nat.le_of_ble_eq_true rfl) (kX9_wrong_0 hd _ _ _ _ _ h)

abbrev fX9_doFetch (d : Nat) (x0 : zv_X) (o : zv_X) : zv_G := (d, RX9, cX9_doFetch, 7, none, ("doFetch", []), x0, o, zv_fin x0 o none)
def mX9_doFetch_0 (N : Nat) (l0 : Nat) (l1 : Int32) (x : zv_X) : Option zv_X := if zm_k x l0 9 = true then ((mX9_peek N l0 (0 : Int32) x).bind fun o1 => if zm_k o1.1 l0 9 = true then ((mX9_peek N l0 (1 : Int32) o1.1).bind fun o3 => if zm_k o3.1 l0 9 = true then ((mX9_wrong N l0 l1 o3.2 o1.2 o3.1).bind fun o5 => if o5.2 ≤ 0 then (if zm_k o5.1 l0 9 = true then ((mX9_popValue N l0 o5.1).bind fun o7 => if zm_k o7.1 l0 9 = true then ((mX9_popValue N l0 o7.1).bind fun o9 => (mX9_arrayKind N l1 o9.1).bind fun o11 => (zm_R o11.1 l0 9 37).bind fun v13 => (zm_R o11.1 l0 9 34).bind fun v15 => (zm_aI o11.1 v15 ((Int64.toInt32 o3.2) - (1 : Int32))).bind fun v17 => (zm_aL o11.1 v13 (v17 + (Int64.toInt32 o1.2))).bind fun v19 => if zm_k o11.1 l0 9 = true then ((mX9_pushValue N l0 o11.2 v19 o11.1).bind fun o21 => some o21) else none) else none) else none) else (if zm_k o5.1 l0 9 = true then ((mX9_fail N l0 o5.2 o5.1).bind fun o23 => some o23) else none)) else none) else none) else none
theorem kX9_doFetch_0 {d : Nat} {x0 : zv_X} {o : zv_X} (hd : 5 ≤ d) {N : Nat} (l0 : Nat) (l1 : Int32) (x : zv_X) (h : mX9_doFetch_0 N l0 l1 x = some o) : zv_V (fX9_doFetch d x0 o) 0 [(0, .ref l0), (1, .int l1)] [] x := by
  unfold mX9_doFetch_0 at h
  refine zv_aload_n (n := 0) dX9_doFetch_0 rfl rfl ?_
  refine zv_iconst (v := 0) dX9_doFetch_1 (by decide) ?_
  refine zr_cVl (ci := 9) (st := []) dX9_doFetch_2 mw_X9_peek wd_1678 wd_1680 wd_69 rfl rfl [.int (0 : Int32)] rfl rfl (Nat.le_of_ble_eq_true rfl) (show d - 1 + 1 ≤ d by omega) h (fun o1 e2 => tX9_peek (d := d - 1) (by omega) e2) (fun o1 e2 h => ?_)
  refine zv_lstore_n (L' := [(2, .long o1.2), (0, .ref l0), (1, .int l1)]) dX9_doFetch_5 rfl (Nat.le_of_ble_eq_true rfl) rfl ?_
  refine zv_aload_n (n := 1) dX9_doFetch_6 rfl rfl ?_
  refine zv_iconst (v := 1) dX9_doFetch_7 (by decide) ?_
  refine zr_cVl (ci := 9) (st := []) dX9_doFetch_8 mw_X9_peek wd_1678 wd_1680 wd_69 rfl rfl [.int (1 : Int32)] rfl rfl (Nat.le_of_ble_eq_true rfl) (show d - 1 + 1 ≤ d by omega) h (fun o3 e4 => tX9_peek (d := d - 1) (by omega) e4) (fun o3 e4 h => ?_)
  refine zv_lstore (L' := [(4, .long o3.2), (2, .long o1.2), (0, .ref l0), (1, .int l1)]) dX9_doFetch_11 (Nat.le_of_ble_eq_true rfl) rfl ?_
  refine zv_aload_n (n := 2) dX9_doFetch_13 rfl rfl ?_
  refine zv_iload_n (n := 3) dX9_doFetch_14 rfl rfl ?_
  refine zv_lload (n := 0) dX9_doFetch_15 rfl ?_
  refine zv_lload_n (n := 1) dX9_doFetch_17 rfl rfl ?_
  refine zr_cVi (ci := 9) (st := []) dX9_doFetch_18 mw_X9_wrong wd_1682 wd_1684 wd_70 rfl rfl [.int l1, .long o3.2, .long o1.2] rfl rfl (Nat.le_of_ble_eq_true rfl) (show d - 1 + 1 ≤ d by omega) h (fun o5 e6 => tX9_wrong (d := d - 1) (by omega) e6) (fun o5 e6 h => ?_)
  refine zv_istore (L' := [(6, .int o5.2), (4, .long o3.2), (2, .long o1.2), (0, .ref l0), (1, .int l1)]) dX9_doFetch_21 (Nat.le_of_ble_eq_true rfl) rfl ?_
  refine zv_iload (n := 0) dX9_doFetch_23 rfl ?_
  refine zr_if_le (tgt := 35) dX9_doFetch_25 (by decide) h (fun c25 h => ?_) (fun c25 h => ?_)
  · refine zv_aload_n (n := 3) dX9_doFetch_35 rfl rfl ?_
    refine zr_cVl (ci := 9) (st := []) dX9_doFetch_36 mw_X9_popValue wd_1727 wd_1729 wd_79 rfl rfl [] rfl rfl (Nat.le_of_ble_eq_true rfl) (show d - 1 + 1 ≤ d by omega) h (fun o7 e8 => tX9_popValue (d := d - 1) (by omega) e8) (fun o7 e8 h => ?_)
    refine zv_pop2_2 dX9_doFetch_39 rfl ?_
    refine zv_aload_n (n := 3) dX9_doFetch_40 rfl rfl ?_
    refine zr_cVl (ci := 9) (st := []) dX9_doFetch_41 mw_X9_popValue wd_1727 wd_1729 wd_79 rfl rfl [] rfl rfl (Nat.le_of_ble_eq_true rfl) (show d - 1 + 1 ≤ d by omega) h (fun o9 e10 => tX9_popValue (d := d - 1) (by omega) e10) (fun o9 e10 h => ?_)
    refine zv_pop2_2 dX9_doFetch_44 rfl ?_
    refine zv_aload_n (n := 3) dX9_doFetch_45 rfl rfl ?_
    refine zv_iload_n (n := 4) dX9_doFetch_46 rfl rfl ?_
    refine zr_cSi (st := [.ref l0]) dX9_doFetch_47 mw_X9_arrayKind wd_1624 wd_1625 [.int l1] rfl rfl (Nat.le_of_ble_eq_true rfl) (show d - 1 + 1 ≤ d by omega) h (fun o11 e12 => tX9_arrayKind (d := d - 1) (by omega) e12) (fun o11 e12 h => ?_)
    refine zv_aload_n (n := 3) dX9_doFetch_50 rfl rfl ?_
    refine zr_gR dX9_doFetch_51 fg_1440 h (fun v13 e14 h => ?_)
    refine zv_aload_n (n := 3) dX9_doFetch_54 rfl rfl ?_
    refine zr_gR dX9_doFetch_55 fg_1437 h (fun v15 e16 h => ?_)
    refine zv_lload (n := 1) dX9_doFetch_58 rfl ?_
    refine zv_l2i dX9_doFetch_60 ?_
    refine zv_iconst (v := 1) dX9_doFetch_61 (by decide) ?_
    refine zv_isub dX9_doFetch_62 ?_
    refine zr_aI dX9_doFetch_63 h (fun v17 e18 h => ?_)
    refine zv_lload_n (n := 2) dX9_doFetch_64 rfl rfl ?_
    refine zv_l2i dX9_doFetch_65 ?_
    refine zv_iadd dX9_doFetch_66 ?_
    refine zr_aL dX9_doFetch_67 h (fun v19 e20 h => ?_)
    refine zr_cVv (ci := 9) (st := []) dX9_doFetch_68 mw_X9_pushValue wd_1670 wd_1672 wd_67 rfl rfl [.int o11.2, .long v19] rfl rfl (Nat.le_of_ble_eq_true rfl) (show d - 1 + 1 ≤ d by omega) h (fun o21 e22 => tX9_pushValue (d := d - 1) (by omega) e22) (fun o21 e22 h => ?_)
    cases h
    exact zv_vret dX9_doFetch_71 rfl
  · refine zv_aload_n (n := 3) dX9_doFetch_28 rfl rfl ?_
    refine zv_iload (n := 0) dX9_doFetch_29 rfl ?_
    refine zr_cVv (ci := 9) (st := []) dX9_doFetch_31 mw_X9_fail wd_1689 wd_1691 wd_71 rfl rfl [.int o5.2] rfl rfl (Nat.le_of_ble_eq_true rfl) (show d - 1 + 1 ≤ d by omega) h (fun o23 e24 => tX9_fail (d := d - 1) (by omega) e24) (fun o23 e24 h => ?_)
    cases h
    exact zv_vret dX9_doFetch_34 rfl
def mX9_doFetch (N : Nat) (a0 : Nat) (a1 : Int32) (x : zv_X) : Option zv_X := mX9_doFetch_0 N a0 a1 x
theorem tX9_doFetch {d : Nat} (hd : 5 ≤ d) {N : Nat} {x : zv_X} {a0 : Nat} {a1 : Int32} {o : zv_X} (h : mX9_doFetch N a0 a1 x = some o) : zv_T d yX9_doFetch cX9_doFetch 7 (none) [.ref a0, .int a1] x o none := by
  unfold mX9_doFetch at h
  exact zv_enter (by decide) (Nat.le_of_ble_eq_true rfl) (kX9_doFetch_0 hd _ _ _ h)

abbrev fX9_doLoad (d : Nat) (x0 : zv_X) (o : zv_X) : zv_G := (d, RX9, cX9_doLoad, 5, none, ("doLoad", []), x0, o, zv_fin x0 o none)
def mX9_doLoad_139 (N : Nat)  (x : zv_X) : Option zv_X := some x
theorem kX9_doLoad_139 {d : Nat} {x0 : zv_X} {o : zv_X} (hd : 1 ≤ d) {N : Nat}  (x : zv_X) (h : mX9_doLoad_139 N  x = some o) : zv_V (fX9_doLoad d x0 o) 139 [] [] x := by
  unfold mX9_doLoad_139 at h
  cases h
  exact zv_vret dX9_doLoad_139 rfl
def mX9_doLoad_49 (N : Nat) (l0 : Nat) (l2 : Int32) (x : zv_X) : Option zv_X := if zm_k x l0 9 = true then ((mX9_pushValue N l0 (2 : Int32) (Int32.toInt64 (l2 - (9 : Int32))) x).bind fun o1 => mX9_doLoad_139 N o1) else none
theorem kX9_doLoad_49 {d : Nat} {x0 : zv_X} {o : zv_X} (hd : 1 ≤ d) {N : Nat} (l0 : Nat) (l2 : Int32) (x : zv_X) (h : mX9_doLoad_49 N l0 l2 x = some o) : zv_V (fX9_doLoad d x0 o) 49 [(0, .ref l0), (2, .int l2)] [] x := by
  unfold mX9_doLoad_49 at h
  refine zv_aload_n (n := 0) dX9_doLoad_49 rfl rfl ?_
  refine zv_iconst (v := 2) dX9_doLoad_50 (by decide) ?_
  refine zv_iload_n (n := 1) dX9_doLoad_51 rfl rfl ?_
  refine zv_bipush (v := 9) dX9_doLoad_52 (by decide) ?_
  refine zv_isub dX9_doLoad_54 ?_
  refine zv_i2l dX9_doLoad_55 ?_
  refine zr_cVv (ci := 9) (st := []) dX9_doLoad_56 mw_X9_pushValue wd_1670 wd_1672 wd_67 rfl rfl [.int (2 : Int32), .long (Int32.toInt64 (l2 - (9 : Int32)))] rfl rfl (Nat.le_of_ble_eq_true rfl) (show d - 1 + 1 ≤ d by omega) h (fun o1 e2 => tX9_pushValue (d := d - 1) (by omega) e2) (fun o1 e2 h => ?_)
  refine zv_goto (tgt := 139) dX9_doLoad_59 (by decide) ?_
  exact zv_fewer [] rfl (kX9_doLoad_139 hd _ h)
def mX9_doLoad_37 (N : Nat) (l0 : Nat) (l1 : Int32) (l2 : Int32) (l3 : Int32) (l4 : Int32) (x : zv_X) : Option zv_X := if l2 = (9 : Int32) then (mX9_doLoad_49 N l0 l2 x) else (if l2 = (10 : Int32) then (mX9_doLoad_49 N l0 l2 x) else (if l2 = (16 : Int32) then ((mX9_signed N l3 x).bind fun o17 => if zm_k o17.1 l0 9 = true then ((mX9_pushValue N l0 (1 : Int32) (Int32.toInt64 o17.2) o17.1).bind fun o19 => mX9_doLoad_139 N o19) else none) else (if l2 = (17 : Int32) then ((mX9_signed N l3 x).bind fun o12 => if zm_k o12.1 l0 9 = true then ((mX9_pushValue N l0 (1 : Int32) (Int32.toInt64 ((o12.2 * (256 : Int32)) + l4)) o12.1).bind fun o14 => mX9_doLoad_139 N o14) else none) else (if l2 ≤ (17 : Int32) then (mX9_doLoad_139 N x) else ((zm_R x l0 9 44).bind fun v1 => (zm_aI x v1 (((16 : Int32) * l1) + l3)).bind fun v3 => (zm_R x l0 9 43).bind fun v5 => (zm_aL x v5 (((16 : Int32) * l1) + l3)).bind fun v7 => if zm_k x l0 9 = true then ((mX9_pushValue N l0 v3 v7 x).bind fun o9 => mX9_doLoad_139 N o9) else none)))))
theorem kX9_doLoad_37 {d : Nat} {x0 : zv_X} {o : zv_X} (hd : 1 ≤ d) {N : Nat} (l0 : Nat) (l1 : Int32) (l2 : Int32) (l3 : Int32) (l4 : Int32) (x : zv_X) (h : mX9_doLoad_37 N l0 l1 l2 l3 l4 x = some o) : zv_V (fX9_doLoad d x0 o) 37 [(0, .ref l0), (1, .int l1), (2, .int l2), (3, .int l3), (4, .int l4)] [] x := by
  unfold mX9_doLoad_37 at h
  refine zv_iload_n (n := 2) dX9_doLoad_37 rfl rfl ?_
  refine zv_bipush (v := 9) dX9_doLoad_38 (by decide) ?_
  refine zr_icmp_eq (tgt := 49) dX9_doLoad_40 (by decide) h (fun c23 h => ?_) (fun c23 h => ?_)
  · exact zv_fewer [0, 2] rfl (kX9_doLoad_49 hd _ _ _ h)
  · refine zv_iload_n (n := 2) dX9_doLoad_43 rfl rfl ?_
    refine zv_bipush (v := 10) dX9_doLoad_44 (by decide) ?_
    refine zr_icmp_ne (tgt := 62) dX9_doLoad_46 (by decide) h (fun c22 h => ?_) (fun c22 h => ?_)
    · refine zv_iload_n (n := 2) dX9_doLoad_62 rfl rfl ?_
      refine zv_bipush (v := 16) dX9_doLoad_63 (by decide) ?_
      refine zr_icmp_ne (tgt := 81) dX9_doLoad_65 (by decide) h (fun c21 h => ?_) (fun c21 h => ?_)
      · refine zv_iload_n (n := 2) dX9_doLoad_81 rfl rfl ?_
        refine zv_bipush (v := 17) dX9_doLoad_82 (by decide) ?_
        refine zr_icmp_ne (tgt := 107) dX9_doLoad_84 (by decide) h (fun c16 h => ?_) (fun c16 h => ?_)
        · refine zv_iload_n (n := 2) dX9_doLoad_107 rfl rfl ?_
          refine zv_bipush (v := 17) dX9_doLoad_108 (by decide) ?_
          refine zr_icmp_le (tgt := 139) dX9_doLoad_110 (by decide) h (fun c11 h => ?_) (fun c11 h => ?_)
          · exact zv_fewer [] rfl (kX9_doLoad_139 hd _ h)
          · refine zv_aload_n (n := 0) dX9_doLoad_113 rfl rfl ?_
            refine zv_aload_n (n := 0) dX9_doLoad_114 rfl rfl ?_
            refine zr_gR dX9_doLoad_115 fg_1447 h (fun v1 e2 h => ?_)
            refine zv_bipush (v := 16) dX9_doLoad_118 (by decide) ?_
            refine zv_iload_n (n := 1) dX9_doLoad_120 rfl rfl ?_
            refine zv_imul dX9_doLoad_121 ?_
            refine zv_iload_n (n := 3) dX9_doLoad_122 rfl rfl ?_
            refine zv_iadd dX9_doLoad_123 ?_
            refine zr_aI dX9_doLoad_124 h (fun v3 e4 h => ?_)
            refine zv_aload_n (n := 0) dX9_doLoad_125 rfl rfl ?_
            refine zr_gR dX9_doLoad_126 fg_1446 h (fun v5 e6 h => ?_)
            refine zv_bipush (v := 16) dX9_doLoad_129 (by decide) ?_
            refine zv_iload_n (n := 1) dX9_doLoad_131 rfl rfl ?_
            refine zv_imul dX9_doLoad_132 ?_
            refine zv_iload_n (n := 3) dX9_doLoad_133 rfl rfl ?_
            refine zv_iadd dX9_doLoad_134 ?_
            refine zr_aL dX9_doLoad_135 h (fun v7 e8 h => ?_)
            refine zr_cVv (ci := 9) (st := []) dX9_doLoad_136 mw_X9_pushValue wd_1670 wd_1672 wd_67 rfl rfl [.int v3, .long v7] rfl rfl (Nat.le_of_ble_eq_true rfl) (show d - 1 + 1 ≤ d by omega) h (fun o9 e10 => tX9_pushValue (d := d - 1) (by omega) e10) (fun o9 e10 h => ?_)
            exact zv_fewer [] rfl (kX9_doLoad_139 hd _ h)
        · refine zv_aload_n (n := 0) dX9_doLoad_87 rfl rfl ?_
          refine zv_iconst (v := 1) dX9_doLoad_88 (by decide) ?_
          refine zv_iload_n (n := 3) dX9_doLoad_89 rfl rfl ?_
          refine zr_cSi (st := [.int (1 : Int32), .ref l0]) dX9_doLoad_90 mw_X9_signed wd_1647 wd_1648 [.int l3] rfl rfl (Nat.le_of_ble_eq_true rfl) (show d - 1 + 1 ≤ d by omega) h (fun o12 e13 => tX9_signed (d := d - 1) (by omega) e13) (fun o12 e13 h => ?_)
          refine zv_sipush (v := 256) dX9_doLoad_93 (by decide) ?_
          refine zv_imul dX9_doLoad_96 ?_
          refine zv_iload (n := 4) dX9_doLoad_97 rfl ?_
          refine zv_iadd dX9_doLoad_99 ?_
          refine zv_i2l dX9_doLoad_100 ?_
          refine zr_cVv (ci := 9) (st := []) dX9_doLoad_101 mw_X9_pushValue wd_1670 wd_1672 wd_67 rfl rfl [.int (1 : Int32), .long (Int32.toInt64 ((o12.2 * (256 : Int32)) + l4))] rfl rfl (Nat.le_of_ble_eq_true rfl) (show d - 1 + 1 ≤ d by omega) h (fun o14 e15 => tX9_pushValue (d := d - 1) (by omega) e15) (fun o14 e15 h => ?_)
          refine zv_goto (tgt := 139) dX9_doLoad_104 (by decide) ?_
          exact zv_fewer [] rfl (kX9_doLoad_139 hd _ h)
      · refine zv_aload_n (n := 0) dX9_doLoad_68 rfl rfl ?_
        refine zv_iconst (v := 1) dX9_doLoad_69 (by decide) ?_
        refine zv_iload_n (n := 3) dX9_doLoad_70 rfl rfl ?_
        refine zr_cSi (st := [.int (1 : Int32), .ref l0]) dX9_doLoad_71 mw_X9_signed wd_1647 wd_1648 [.int l3] rfl rfl (Nat.le_of_ble_eq_true rfl) (show d - 1 + 1 ≤ d by omega) h (fun o17 e18 => tX9_signed (d := d - 1) (by omega) e18) (fun o17 e18 h => ?_)
        refine zv_i2l dX9_doLoad_74 ?_
        refine zr_cVv (ci := 9) (st := []) dX9_doLoad_75 mw_X9_pushValue wd_1670 wd_1672 wd_67 rfl rfl [.int (1 : Int32), .long (Int32.toInt64 o17.2)] rfl rfl (Nat.le_of_ble_eq_true rfl) (show d - 1 + 1 ≤ d by omega) h (fun o19 e20 => tX9_pushValue (d := d - 1) (by omega) e20) (fun o19 e20 h => ?_)
        refine zv_goto (tgt := 139) dX9_doLoad_78 (by decide) ?_
        exact zv_fewer [] rfl (kX9_doLoad_139 hd _ h)
    · exact zv_fewer [0, 2] rfl (kX9_doLoad_49 hd _ _ _ h)
def mX9_doLoad_0 (N : Nat) (l0 : Nat) (l1 : Int32) (l2 : Int32) (l3 : Int32) (l4 : Int32) (x : zv_X) : Option zv_X := if l2 = (1 : Int32) then (if zm_k x l0 9 = true then ((mX9_pushValue N l0 (3 : Int32) (0 : Int64) x).bind fun o5 => mX9_doLoad_139 N o5) else none) else (if l2 ≤ (1 : Int32) then (mX9_doLoad_37 N l0 l1 l2 l3 l4 x) else (if (9 : Int32) ≤ l2 then (mX9_doLoad_37 N l0 l1 l2 l3 l4 x) else (if zm_k x l0 9 = true then ((mX9_pushValue N l0 (1 : Int32) (Int32.toInt64 (l2 - (3 : Int32))) x).bind fun o1 => mX9_doLoad_139 N o1) else none)))
theorem kX9_doLoad_0 {d : Nat} {x0 : zv_X} {o : zv_X} (hd : 1 ≤ d) {N : Nat} (l0 : Nat) (l1 : Int32) (l2 : Int32) (l3 : Int32) (l4 : Int32) (x : zv_X) (h : mX9_doLoad_0 N l0 l1 l2 l3 l4 x = some o) : zv_V (fX9_doLoad d x0 o) 0 [(0, .ref l0), (1, .int l1), (2, .int l2), (3, .int l3), (4, .int l4)] [] x := by
  unfold mX9_doLoad_0 at h
  refine zv_iload_n (n := 2) dX9_doLoad_0 rfl rfl ?_
  refine zv_iconst (v := 1) dX9_doLoad_1 (by decide) ?_
  refine zr_icmp_ne (tgt := 14) dX9_doLoad_2 (by decide) h (fun c7 h => ?_) (fun c7 h => ?_)
  · refine zv_iload_n (n := 2) dX9_doLoad_14 rfl rfl ?_
    refine zv_iconst (v := 1) dX9_doLoad_15 (by decide) ?_
    refine zr_icmp_le (tgt := 37) dX9_doLoad_16 (by decide) h (fun c4 h => ?_) (fun c4 h => ?_)
    · exact kX9_doLoad_37 hd _ _ _ _ _ _ h
    · refine zv_iload_n (n := 2) dX9_doLoad_19 rfl rfl ?_
      refine zv_bipush (v := 9) dX9_doLoad_20 (by decide) ?_
      refine zr_icmp_ge (tgt := 37) dX9_doLoad_22 (by decide) h (fun c3 h => ?_) (fun c3 h => ?_)
      · exact kX9_doLoad_37 hd _ _ _ _ _ _ h
      · refine zv_aload_n (n := 0) dX9_doLoad_25 rfl rfl ?_
        refine zv_iconst (v := 1) dX9_doLoad_26 (by decide) ?_
        refine zv_iload_n (n := 2) dX9_doLoad_27 rfl rfl ?_
        refine zv_iconst (v := 3) dX9_doLoad_28 (by decide) ?_
        refine zv_isub dX9_doLoad_29 ?_
        refine zv_i2l dX9_doLoad_30 ?_
        refine zr_cVv (ci := 9) (st := []) dX9_doLoad_31 mw_X9_pushValue wd_1670 wd_1672 wd_67 rfl rfl [.int (1 : Int32), .long (Int32.toInt64 (l2 - (3 : Int32)))] rfl rfl (Nat.le_of_ble_eq_true rfl) (show d - 1 + 1 ≤ d by omega) h (fun o1 e2 => tX9_pushValue (d := d - 1) (by omega) e2) (fun o1 e2 h => ?_)
        refine zv_goto (tgt := 139) dX9_doLoad_34 (by decide) ?_
        exact zv_fewer [] rfl (kX9_doLoad_139 hd _ h)
  · refine zv_aload_n (n := 0) dX9_doLoad_5 rfl rfl ?_
    refine zv_iconst (v := 3) dX9_doLoad_6 (by decide) ?_
    refine zv_lconst (v := 0) dX9_doLoad_7 (by decide) ?_
    refine zr_cVv (ci := 9) (st := []) dX9_doLoad_8 mw_X9_pushValue wd_1670 wd_1672 wd_67 rfl rfl [.int (3 : Int32), .long (0 : Int64)] rfl rfl (Nat.le_of_ble_eq_true rfl) (show d - 1 + 1 ≤ d by omega) h (fun o5 e6 => tX9_pushValue (d := d - 1) (by omega) e6) (fun o5 e6 h => ?_)
    refine zv_goto (tgt := 139) dX9_doLoad_11 (by decide) ?_
    exact zv_fewer [] rfl (kX9_doLoad_139 hd _ h)
def mX9_doLoad (N : Nat) (a0 : Nat) (a1 : Int32) (a2 : Int32) (a3 : Int32) (a4 : Int32) (x : zv_X) : Option zv_X := mX9_doLoad_0 N a0 a1 a2 a3 a4 x
theorem tX9_doLoad {d : Nat} (hd : 1 ≤ d) {N : Nat} {x : zv_X} {a0 : Nat} {a1 : Int32} {a2 : Int32} {a3 : Int32} {a4 : Int32} {o : zv_X} (h : mX9_doLoad N a0 a1 a2 a3 a4 x = some o) : zv_T d yX9_doLoad cX9_doLoad 5 (none) [.ref a0, .int a1, .int a2, .int a3, .int a4] x o none := by
  unfold mX9_doLoad at h
  exact zv_enter (by decide) (Nat.le_of_ble_eq_true rfl) (kX9_doLoad_0 hd _ _ _ _ _ _ h)

abbrev fX9_ofInts (d : Nat) (x0 : zv_X) (o : (zv_X × Int32)) : zv_G := (d, RX9, cX9_ofInts, 3, (some .int), ("ofInts", []), x0, o.1, zv_fin x0 o.1 (some (.int o.2)))
def mX9_ofInts_188 (N : Nat) (l1 : Int32) (l2 : Int32) (x : zv_X) : Option (zv_X × Int32) := some (x, l1 ^^^ l2)
theorem kX9_ofInts_188 {d : Nat} {x0 : zv_X} {o : (zv_X × Int32)} (hd : 0 ≤ d) {N : Nat} (l1 : Int32) (l2 : Int32) (x : zv_X) (h : mX9_ofInts_188 N l1 l2 x = some o) : zv_V (fX9_ofInts d x0 o) 188 [(1, .int l1), (2, .int l2)] [] x := by
  unfold mX9_ofInts_188 at h
  refine zv_iload_n (n := 0) dX9_ofInts_188 rfl rfl ?_
  refine zv_iload_n (n := 1) dX9_ofInts_189 rfl rfl ?_
  refine zv_ixor dX9_ofInts_190 ?_
  cases h
  exact zv_iret dX9_ofInts_191 rfl
def mX9_ofInts_0 (N : Nat) (l0 : Int32) (l1 : Int32) (l2 : Int32) (x : zv_X) : Option (zv_X × Int32) := if l0 = (96 : Int32) then (some (x, l1 + l2)) else if l0 = (97 : Int32) then (mX9_ofInts_188 N l1 l2 x) else if l0 = (98 : Int32) then (mX9_ofInts_188 N l1 l2 x) else if l0 = (99 : Int32) then (mX9_ofInts_188 N l1 l2 x) else if l0 = (100 : Int32) then (some (x, l1 - l2)) else if l0 = (101 : Int32) then (mX9_ofInts_188 N l1 l2 x) else if l0 = (102 : Int32) then (mX9_ofInts_188 N l1 l2 x) else if l0 = (103 : Int32) then (mX9_ofInts_188 N l1 l2 x) else if l0 = (104 : Int32) then (some (x, l1 * l2)) else if l0 = (105 : Int32) then (mX9_ofInts_188 N l1 l2 x) else if l0 = (106 : Int32) then (mX9_ofInts_188 N l1 l2 x) else if l0 = (107 : Int32) then (mX9_ofInts_188 N l1 l2 x) else if l0 = (108 : Int32) then (if l2 = 0 then none else (some (x, l1 / l2))) else if l0 = (109 : Int32) then (mX9_ofInts_188 N l1 l2 x) else if l0 = (110 : Int32) then (mX9_ofInts_188 N l1 l2 x) else if l0 = (111 : Int32) then (mX9_ofInts_188 N l1 l2 x) else if l0 = (112 : Int32) then (if l2 = 0 then none else (some (x, l1 - l1 / l2 * l2))) else if l0 = (113 : Int32) then (mX9_ofInts_188 N l1 l2 x) else if l0 = (114 : Int32) then (mX9_ofInts_188 N l1 l2 x) else if l0 = (115 : Int32) then (mX9_ofInts_188 N l1 l2 x) else if l0 = (116 : Int32) then (mX9_ofInts_188 N l1 l2 x) else if l0 = (117 : Int32) then (mX9_ofInts_188 N l1 l2 x) else if l0 = (118 : Int32) then (mX9_ofInts_188 N l1 l2 x) else if l0 = (119 : Int32) then (mX9_ofInts_188 N l1 l2 x) else if l0 = (120 : Int32) then (some (x, l1 <<< (l2 &&& 31))) else if l0 = (121 : Int32) then (mX9_ofInts_188 N l1 l2 x) else if l0 = (122 : Int32) then (some (x, l1 >>> (l2 &&& 31))) else if l0 = (123 : Int32) then (mX9_ofInts_188 N l1 l2 x) else if l0 = (124 : Int32) then (some (x, (Int32.toUInt32 l1 >>> (Int32.toUInt32 l2 &&& Int32.toUInt32 31)).toInt32)) else if l0 = (125 : Int32) then (mX9_ofInts_188 N l1 l2 x) else if l0 = (126 : Int32) then (some (x, l1 &&& l2)) else if l0 = (127 : Int32) then (mX9_ofInts_188 N l1 l2 x) else if l0 = (128 : Int32) then (some (x, l1 ||| l2)) else (mX9_ofInts_188 N l1 l2 x)
theorem kX9_ofInts_0 {d : Nat} {x0 : zv_X} {o : (zv_X × Int32)} (hd : 0 ≤ d) {N : Nat} (l0 : Int32) (l1 : Int32) (l2 : Int32) (x : zv_X) (h : mX9_ofInts_0 N l0 l1 l2 x = some o) : zv_V (fX9_ofInts d x0 o) 0 [(0, .int l0), (1, .int l1), (2, .int l2)] [] x := by
  unfold mX9_ofInts_0 at h
  refine zv_iload_n (n := 0) dX9_ofInts_0 rfl rfl ?_
  rcases zif h with ⟨c1, h⟩ | ⟨c1, h⟩
  · refine zr_tabIn (tgt := 148) (off := 147) c1 dX9_ofInts_1 (by decide) (by decide) (by decide) (by decide) ?_
    refine zv_iload_n (n := 1) dX9_ofInts_148 rfl rfl ?_
    refine zv_iload_n (n := 2) dX9_ofInts_149 rfl rfl ?_
    refine zv_iadd dX9_ofInts_150 ?_
    cases h
    exact zv_iret dX9_ofInts_151 rfl
  rcases zif h with ⟨c2, h⟩ | ⟨c2, h⟩
  · refine zr_tabIn (tgt := 188) (off := 187) c2 dX9_ofInts_1 (by decide) (by decide) (by decide) (by decide) ?_
    exact zv_fewer [1, 2] rfl (kX9_ofInts_188 hd _ _ _ h)
  rcases zif h with ⟨c3, h⟩ | ⟨c3, h⟩
  · refine zr_tabIn (tgt := 188) (off := 187) c3 dX9_ofInts_1 (by decide) (by decide) (by decide) (by decide) ?_
    exact zv_fewer [1, 2] rfl (kX9_ofInts_188 hd _ _ _ h)
  rcases zif h with ⟨c4, h⟩ | ⟨c4, h⟩
  · refine zr_tabIn (tgt := 188) (off := 187) c4 dX9_ofInts_1 (by decide) (by decide) (by decide) (by decide) ?_
    exact zv_fewer [1, 2] rfl (kX9_ofInts_188 hd _ _ _ h)
  rcases zif h with ⟨c5, h⟩ | ⟨c5, h⟩
  · refine zr_tabIn (tgt := 152) (off := 151) c5 dX9_ofInts_1 (by decide) (by decide) (by decide) (by decide) ?_
    refine zv_iload_n (n := 1) dX9_ofInts_152 rfl rfl ?_
    refine zv_iload_n (n := 2) dX9_ofInts_153 rfl rfl ?_
    refine zv_isub dX9_ofInts_154 ?_
    cases h
    exact zv_iret dX9_ofInts_155 rfl
  rcases zif h with ⟨c6, h⟩ | ⟨c6, h⟩
  · refine zr_tabIn (tgt := 188) (off := 187) c6 dX9_ofInts_1 (by decide) (by decide) (by decide) (by decide) ?_
    exact zv_fewer [1, 2] rfl (kX9_ofInts_188 hd _ _ _ h)
  rcases zif h with ⟨c7, h⟩ | ⟨c7, h⟩
  · refine zr_tabIn (tgt := 188) (off := 187) c7 dX9_ofInts_1 (by decide) (by decide) (by decide) (by decide) ?_
    exact zv_fewer [1, 2] rfl (kX9_ofInts_188 hd _ _ _ h)
  rcases zif h with ⟨c8, h⟩ | ⟨c8, h⟩
  · refine zr_tabIn (tgt := 188) (off := 187) c8 dX9_ofInts_1 (by decide) (by decide) (by decide) (by decide) ?_
    exact zv_fewer [1, 2] rfl (kX9_ofInts_188 hd _ _ _ h)
  rcases zif h with ⟨c9, h⟩ | ⟨c9, h⟩
  · refine zr_tabIn (tgt := 156) (off := 155) c9 dX9_ofInts_1 (by decide) (by decide) (by decide) (by decide) ?_
    refine zv_iload_n (n := 1) dX9_ofInts_156 rfl rfl ?_
    refine zv_iload_n (n := 2) dX9_ofInts_157 rfl rfl ?_
    refine zv_imul dX9_ofInts_158 ?_
    cases h
    exact zv_iret dX9_ofInts_159 rfl
  rcases zif h with ⟨c10, h⟩ | ⟨c10, h⟩
  · refine zr_tabIn (tgt := 188) (off := 187) c10 dX9_ofInts_1 (by decide) (by decide) (by decide) (by decide) ?_
    exact zv_fewer [1, 2] rfl (kX9_ofInts_188 hd _ _ _ h)
  rcases zif h with ⟨c11, h⟩ | ⟨c11, h⟩
  · refine zr_tabIn (tgt := 188) (off := 187) c11 dX9_ofInts_1 (by decide) (by decide) (by decide) (by decide) ?_
    exact zv_fewer [1, 2] rfl (kX9_ofInts_188 hd _ _ _ h)
  rcases zif h with ⟨c12, h⟩ | ⟨c12, h⟩
  · refine zr_tabIn (tgt := 188) (off := 187) c12 dX9_ofInts_1 (by decide) (by decide) (by decide) (by decide) ?_
    exact zv_fewer [1, 2] rfl (kX9_ofInts_188 hd _ _ _ h)
  rcases zif h with ⟨c14, h⟩ | ⟨c14, h⟩
  · refine zr_tabIn (tgt := 160) (off := 159) c14 dX9_ofInts_1 (by decide) (by decide) (by decide) (by decide) ?_
    refine zv_iload_n (n := 1) dX9_ofInts_160 rfl rfl ?_
    refine zv_iload_n (n := 2) dX9_ofInts_161 rfl rfl ?_
    refine zr_idiv dX9_ofInts_162 h (fun c13 h => ?_)
    cases h
    exact zv_iret dX9_ofInts_163 rfl
  rcases zif h with ⟨c15, h⟩ | ⟨c15, h⟩
  · refine zr_tabIn (tgt := 188) (off := 187) c15 dX9_ofInts_1 (by decide) (by decide) (by decide) (by decide) ?_
    exact zv_fewer [1, 2] rfl (kX9_ofInts_188 hd _ _ _ h)
  rcases zif h with ⟨c16, h⟩ | ⟨c16, h⟩
  · refine zr_tabIn (tgt := 188) (off := 187) c16 dX9_ofInts_1 (by decide) (by decide) (by decide) (by decide) ?_
    exact zv_fewer [1, 2] rfl (kX9_ofInts_188 hd _ _ _ h)
  rcases zif h with ⟨c17, h⟩ | ⟨c17, h⟩
  · refine zr_tabIn (tgt := 188) (off := 187) c17 dX9_ofInts_1 (by decide) (by decide) (by decide) (by decide) ?_
    exact zv_fewer [1, 2] rfl (kX9_ofInts_188 hd _ _ _ h)
  rcases zif h with ⟨c19, h⟩ | ⟨c19, h⟩
  · refine zr_tabIn (tgt := 164) (off := 163) c19 dX9_ofInts_1 (by decide) (by decide) (by decide) (by decide) ?_
    refine zv_iload_n (n := 1) dX9_ofInts_164 rfl rfl ?_
    refine zv_iload_n (n := 2) dX9_ofInts_165 rfl rfl ?_
    refine zr_irem dX9_ofInts_166 h (fun c18 h => ?_)
    cases h
    exact zv_iret dX9_ofInts_167 rfl
  rcases zif h with ⟨c20, h⟩ | ⟨c20, h⟩
  · refine zr_tabIn (tgt := 188) (off := 187) c20 dX9_ofInts_1 (by decide) (by decide) (by decide) (by decide) ?_
    exact zv_fewer [1, 2] rfl (kX9_ofInts_188 hd _ _ _ h)
  rcases zif h with ⟨c21, h⟩ | ⟨c21, h⟩
  · refine zr_tabIn (tgt := 188) (off := 187) c21 dX9_ofInts_1 (by decide) (by decide) (by decide) (by decide) ?_
    exact zv_fewer [1, 2] rfl (kX9_ofInts_188 hd _ _ _ h)
  rcases zif h with ⟨c22, h⟩ | ⟨c22, h⟩
  · refine zr_tabIn (tgt := 188) (off := 187) c22 dX9_ofInts_1 (by decide) (by decide) (by decide) (by decide) ?_
    exact zv_fewer [1, 2] rfl (kX9_ofInts_188 hd _ _ _ h)
  rcases zif h with ⟨c23, h⟩ | ⟨c23, h⟩
  · refine zr_tabIn (tgt := 188) (off := 187) c23 dX9_ofInts_1 (by decide) (by decide) (by decide) (by decide) ?_
    exact zv_fewer [1, 2] rfl (kX9_ofInts_188 hd _ _ _ h)
  rcases zif h with ⟨c24, h⟩ | ⟨c24, h⟩
  · refine zr_tabIn (tgt := 188) (off := 187) c24 dX9_ofInts_1 (by decide) (by decide) (by decide) (by decide) ?_
    exact zv_fewer [1, 2] rfl (kX9_ofInts_188 hd _ _ _ h)
  rcases zif h with ⟨c25, h⟩ | ⟨c25, h⟩
  · refine zr_tabIn (tgt := 188) (off := 187) c25 dX9_ofInts_1 (by decide) (by decide) (by decide) (by decide) ?_
    exact zv_fewer [1, 2] rfl (kX9_ofInts_188 hd _ _ _ h)
  rcases zif h with ⟨c26, h⟩ | ⟨c26, h⟩
  · refine zr_tabIn (tgt := 188) (off := 187) c26 dX9_ofInts_1 (by decide) (by decide) (by decide) (by decide) ?_
    exact zv_fewer [1, 2] rfl (kX9_ofInts_188 hd _ _ _ h)
  rcases zif h with ⟨c27, h⟩ | ⟨c27, h⟩
  · refine zr_tabIn (tgt := 168) (off := 167) c27 dX9_ofInts_1 (by decide) (by decide) (by decide) (by decide) ?_
    refine zv_iload_n (n := 1) dX9_ofInts_168 rfl rfl ?_
    refine zv_iload_n (n := 2) dX9_ofInts_169 rfl rfl ?_
    refine zv_ishl dX9_ofInts_170 ?_
    cases h
    exact zv_iret dX9_ofInts_171 rfl
  rcases zif h with ⟨c28, h⟩ | ⟨c28, h⟩
  · refine zr_tabIn (tgt := 188) (off := 187) c28 dX9_ofInts_1 (by decide) (by decide) (by decide) (by decide) ?_
    exact zv_fewer [1, 2] rfl (kX9_ofInts_188 hd _ _ _ h)
  rcases zif h with ⟨c29, h⟩ | ⟨c29, h⟩
  · refine zr_tabIn (tgt := 172) (off := 171) c29 dX9_ofInts_1 (by decide) (by decide) (by decide) (by decide) ?_
    refine zv_iload_n (n := 1) dX9_ofInts_172 rfl rfl ?_
    refine zv_iload_n (n := 2) dX9_ofInts_173 rfl rfl ?_
    refine zv_ishr dX9_ofInts_174 ?_
    cases h
    exact zv_iret dX9_ofInts_175 rfl
  rcases zif h with ⟨c30, h⟩ | ⟨c30, h⟩
  · refine zr_tabIn (tgt := 188) (off := 187) c30 dX9_ofInts_1 (by decide) (by decide) (by decide) (by decide) ?_
    exact zv_fewer [1, 2] rfl (kX9_ofInts_188 hd _ _ _ h)
  rcases zif h with ⟨c31, h⟩ | ⟨c31, h⟩
  · refine zr_tabIn (tgt := 176) (off := 175) c31 dX9_ofInts_1 (by decide) (by decide) (by decide) (by decide) ?_
    refine zv_iload_n (n := 1) dX9_ofInts_176 rfl rfl ?_
    refine zv_iload_n (n := 2) dX9_ofInts_177 rfl rfl ?_
    refine zv_iushr dX9_ofInts_178 ?_
    cases h
    exact zv_iret dX9_ofInts_179 rfl
  rcases zif h with ⟨c32, h⟩ | ⟨c32, h⟩
  · refine zr_tabIn (tgt := 188) (off := 187) c32 dX9_ofInts_1 (by decide) (by decide) (by decide) (by decide) ?_
    exact zv_fewer [1, 2] rfl (kX9_ofInts_188 hd _ _ _ h)
  rcases zif h with ⟨c33, h⟩ | ⟨c33, h⟩
  · refine zr_tabIn (tgt := 180) (off := 179) c33 dX9_ofInts_1 (by decide) (by decide) (by decide) (by decide) ?_
    refine zv_iload_n (n := 1) dX9_ofInts_180 rfl rfl ?_
    refine zv_iload_n (n := 2) dX9_ofInts_181 rfl rfl ?_
    refine zv_iand dX9_ofInts_182 ?_
    cases h
    exact zv_iret dX9_ofInts_183 rfl
  rcases zif h with ⟨c34, h⟩ | ⟨c34, h⟩
  · refine zr_tabIn (tgt := 188) (off := 187) c34 dX9_ofInts_1 (by decide) (by decide) (by decide) (by decide) ?_
    exact zv_fewer [1, 2] rfl (kX9_ofInts_188 hd _ _ _ h)
  rcases zif h with ⟨c35, h⟩ | ⟨c35, h⟩
  · refine zr_tabIn (tgt := 184) (off := 183) c35 dX9_ofInts_1 (by decide) (by decide) (by decide) (by decide) ?_
    refine zv_iload_n (n := 1) dX9_ofInts_184 rfl rfl ?_
    refine zv_iload_n (n := 2) dX9_ofInts_185 rfl rfl ?_
    refine zv_ior dX9_ofInts_186 ?_
    cases h
    exact zv_iret dX9_ofInts_187 rfl
  refine zv_tableOut (tgt := 188) dX9_ofInts_1 (by have := lv_neT c1 (show (96 : Int32).toInt = 96 by decide); have := lv_neT c2 (show (97 : Int32).toInt = 97 by decide); have := lv_neT c3 (show (98 : Int32).toInt = 98 by decide); have := lv_neT c4 (show (99 : Int32).toInt = 99 by decide); have := lv_neT c5 (show (100 : Int32).toInt = 100 by decide); have := lv_neT c6 (show (101 : Int32).toInt = 101 by decide); have := lv_neT c7 (show (102 : Int32).toInt = 102 by decide); have := lv_neT c8 (show (103 : Int32).toInt = 103 by decide); have := lv_neT c9 (show (104 : Int32).toInt = 104 by decide); have := lv_neT c10 (show (105 : Int32).toInt = 105 by decide); have := lv_neT c11 (show (106 : Int32).toInt = 106 by decide); have := lv_neT c12 (show (107 : Int32).toInt = 107 by decide); have := lv_neT c14 (show (108 : Int32).toInt = 108 by decide); have := lv_neT c15 (show (109 : Int32).toInt = 109 by decide); have := lv_neT c16 (show (110 : Int32).toInt = 110 by decide); have := lv_neT c17 (show (111 : Int32).toInt = 111 by decide); have := lv_neT c19 (show (112 : Int32).toInt = 112 by decide); have := lv_neT c20 (show (113 : Int32).toInt = 113 by decide); have := lv_neT c21 (show (114 : Int32).toInt = 114 by decide); have := lv_neT c22 (show (115 : Int32).toInt = 115 by decide); have := lv_neT c23 (show (116 : Int32).toInt = 116 by decide); have := lv_neT c24 (show (117 : Int32).toInt = 117 by decide); have := lv_neT c25 (show (118 : Int32).toInt = 118 by decide); have := lv_neT c26 (show (119 : Int32).toInt = 119 by decide); have := lv_neT c27 (show (120 : Int32).toInt = 120 by decide); have := lv_neT c28 (show (121 : Int32).toInt = 121 by decide); have := lv_neT c29 (show (122 : Int32).toInt = 122 by decide); have := lv_neT c30 (show (123 : Int32).toInt = 123 by decide); have := lv_neT c31 (show (124 : Int32).toInt = 124 by decide); have := lv_neT c32 (show (125 : Int32).toInt = 125 by decide); have := lv_neT c33 (show (126 : Int32).toInt = 126 by decide); have := lv_neT c34 (show (127 : Int32).toInt = 127 by decide); have := lv_neT c35 (show (128 : Int32).toInt = 128 by decide); omega) (by decide) ?_
  exact zv_fewer [1, 2] rfl (kX9_ofInts_188 hd _ _ _ h)
def mX9_ofInts (N : Nat) (a0 : Int32) (a1 : Int32) (a2 : Int32) (x : zv_X) : Option (zv_X × Int32) := mX9_ofInts_0 N a0 a1 a2 x
theorem tX9_ofInts {d : Nat} (hd : 0 ≤ d) {N : Nat} {x : zv_X} {a0 : Int32} {a1 : Int32} {a2 : Int32} {o : (zv_X × Int32)} (h : mX9_ofInts N a0 a1 a2 x = some o) : zv_T d yX9_ofInts cX9_ofInts 3 ((some .int)) [.int a0, .int a1, .int a2] x o.1 (some (.int o.2)) := by
  unfold mX9_ofInts at h
  exact zv_enter (by decide) (Nat.le_of_ble_eq_true rfl) (kX9_ofInts_0 hd _ _ _ _ h)

abbrev fX9_ofLongs (d : Nat) (x0 : zv_X) (o : (zv_X × Int64)) : zv_G := (d, RX9, cX9_ofLongs, 5, (some .long), ("ofLongs", []), x0, o.1, zv_fin x0 o.1 (some (.long o.2)))
def mX9_ofLongs_191 (N : Nat) (l1 : Int64) (l3 : Int64) (x : zv_X) : Option (zv_X × Int64) := some (x, l1 ^^^ l3)
theorem kX9_ofLongs_191 {d : Nat} {x0 : zv_X} {o : (zv_X × Int64)} (hd : 0 ≤ d) {N : Nat} (l1 : Int64) (l3 : Int64) (x : zv_X) (h : mX9_ofLongs_191 N l1 l3 x = some o) : zv_V (fX9_ofLongs d x0 o) 191 [(1, .long l1), (3, .long l3)] [] x := by
  unfold mX9_ofLongs_191 at h
  refine zv_lload_n (n := 0) dX9_ofLongs_191 rfl rfl ?_
  refine zv_lload_n (n := 1) dX9_ofLongs_192 rfl rfl ?_
  refine zv_lxor dX9_ofLongs_193 ?_
  cases h
  exact zv_lret dX9_ofLongs_194 rfl
def mX9_ofLongs_0 (N : Nat) (l0 : Int32) (l1 : Int64) (l3 : Int64) (x : zv_X) : Option (zv_X × Int64) := if l0 = (97 : Int32) then (some (x, l1 + l3)) else if l0 = (98 : Int32) then (mX9_ofLongs_191 N l1 l3 x) else if l0 = (99 : Int32) then (mX9_ofLongs_191 N l1 l3 x) else if l0 = (100 : Int32) then (mX9_ofLongs_191 N l1 l3 x) else if l0 = (101 : Int32) then (some (x, l1 - l3)) else if l0 = (102 : Int32) then (mX9_ofLongs_191 N l1 l3 x) else if l0 = (103 : Int32) then (mX9_ofLongs_191 N l1 l3 x) else if l0 = (104 : Int32) then (mX9_ofLongs_191 N l1 l3 x) else if l0 = (105 : Int32) then (some (x, l1 * l3)) else if l0 = (106 : Int32) then (mX9_ofLongs_191 N l1 l3 x) else if l0 = (107 : Int32) then (mX9_ofLongs_191 N l1 l3 x) else if l0 = (108 : Int32) then (mX9_ofLongs_191 N l1 l3 x) else if l0 = (109 : Int32) then (if l3 = 0 then none else (some (x, l1 / l3))) else if l0 = (110 : Int32) then (mX9_ofLongs_191 N l1 l3 x) else if l0 = (111 : Int32) then (mX9_ofLongs_191 N l1 l3 x) else if l0 = (112 : Int32) then (mX9_ofLongs_191 N l1 l3 x) else if l0 = (113 : Int32) then (if l3 = 0 then none else (some (x, l1 - l1 / l3 * l3))) else if l0 = (114 : Int32) then (mX9_ofLongs_191 N l1 l3 x) else if l0 = (115 : Int32) then (mX9_ofLongs_191 N l1 l3 x) else if l0 = (116 : Int32) then (mX9_ofLongs_191 N l1 l3 x) else if l0 = (117 : Int32) then (mX9_ofLongs_191 N l1 l3 x) else if l0 = (118 : Int32) then (mX9_ofLongs_191 N l1 l3 x) else if l0 = (119 : Int32) then (mX9_ofLongs_191 N l1 l3 x) else if l0 = (120 : Int32) then (mX9_ofLongs_191 N l1 l3 x) else if l0 = (121 : Int32) then (some (x, l1 <<< (Int32.toInt64 (Int64.toInt32 l3) &&& 63))) else if l0 = (122 : Int32) then (mX9_ofLongs_191 N l1 l3 x) else if l0 = (123 : Int32) then (some (x, l1 >>> (Int32.toInt64 (Int64.toInt32 l3) &&& 63))) else if l0 = (124 : Int32) then (mX9_ofLongs_191 N l1 l3 x) else if l0 = (125 : Int32) then (some (x, (Int64.toUInt64 l1 >>> ((Int32.toInt64 (Int64.toInt32 l3)).toUInt64 &&& Int64.toUInt64 63)).toInt64)) else if l0 = (126 : Int32) then (mX9_ofLongs_191 N l1 l3 x) else if l0 = (127 : Int32) then (some (x, l1 &&& l3)) else if l0 = (128 : Int32) then (mX9_ofLongs_191 N l1 l3 x) else if l0 = (129 : Int32) then (some (x, l1 ||| l3)) else (mX9_ofLongs_191 N l1 l3 x)
theorem kX9_ofLongs_0 {d : Nat} {x0 : zv_X} {o : (zv_X × Int64)} (hd : 0 ≤ d) {N : Nat} (l0 : Int32) (l1 : Int64) (l3 : Int64) (x : zv_X) (h : mX9_ofLongs_0 N l0 l1 l3 x = some o) : zv_V (fX9_ofLongs d x0 o) 0 [(0, .int l0), (1, .long l1), (3, .long l3)] [] x := by
  unfold mX9_ofLongs_0 at h
  refine zv_iload_n (n := 0) dX9_ofLongs_0 rfl rfl ?_
  rcases zif h with ⟨c1, h⟩ | ⟨c1, h⟩
  · refine zr_tabIn (tgt := 148) (off := 147) c1 dX9_ofLongs_1 (by decide) (by decide) (by decide) (by decide) ?_
    refine zv_lload_n (n := 1) dX9_ofLongs_148 rfl rfl ?_
    refine zv_lload_n (n := 2) dX9_ofLongs_149 rfl rfl ?_
    refine zv_ladd dX9_ofLongs_150 ?_
    cases h
    exact zv_lret dX9_ofLongs_151 rfl
  rcases zif h with ⟨c2, h⟩ | ⟨c2, h⟩
  · refine zr_tabIn (tgt := 191) (off := 190) c2 dX9_ofLongs_1 (by decide) (by decide) (by decide) (by decide) ?_
    exact zv_fewer [1, 2] rfl (kX9_ofLongs_191 hd _ _ _ h)
  rcases zif h with ⟨c3, h⟩ | ⟨c3, h⟩
  · refine zr_tabIn (tgt := 191) (off := 190) c3 dX9_ofLongs_1 (by decide) (by decide) (by decide) (by decide) ?_
    exact zv_fewer [1, 2] rfl (kX9_ofLongs_191 hd _ _ _ h)
  rcases zif h with ⟨c4, h⟩ | ⟨c4, h⟩
  · refine zr_tabIn (tgt := 191) (off := 190) c4 dX9_ofLongs_1 (by decide) (by decide) (by decide) (by decide) ?_
    exact zv_fewer [1, 2] rfl (kX9_ofLongs_191 hd _ _ _ h)
  rcases zif h with ⟨c5, h⟩ | ⟨c5, h⟩
  · refine zr_tabIn (tgt := 152) (off := 151) c5 dX9_ofLongs_1 (by decide) (by decide) (by decide) (by decide) ?_
    refine zv_lload_n (n := 1) dX9_ofLongs_152 rfl rfl ?_
    refine zv_lload_n (n := 2) dX9_ofLongs_153 rfl rfl ?_
    refine zv_lsub dX9_ofLongs_154 ?_
    cases h
    exact zv_lret dX9_ofLongs_155 rfl
  rcases zif h with ⟨c6, h⟩ | ⟨c6, h⟩
  · refine zr_tabIn (tgt := 191) (off := 190) c6 dX9_ofLongs_1 (by decide) (by decide) (by decide) (by decide) ?_
    exact zv_fewer [1, 2] rfl (kX9_ofLongs_191 hd _ _ _ h)
  rcases zif h with ⟨c7, h⟩ | ⟨c7, h⟩
  · refine zr_tabIn (tgt := 191) (off := 190) c7 dX9_ofLongs_1 (by decide) (by decide) (by decide) (by decide) ?_
    exact zv_fewer [1, 2] rfl (kX9_ofLongs_191 hd _ _ _ h)
  rcases zif h with ⟨c8, h⟩ | ⟨c8, h⟩
  · refine zr_tabIn (tgt := 191) (off := 190) c8 dX9_ofLongs_1 (by decide) (by decide) (by decide) (by decide) ?_
    exact zv_fewer [1, 2] rfl (kX9_ofLongs_191 hd _ _ _ h)
  rcases zif h with ⟨c9, h⟩ | ⟨c9, h⟩
  · refine zr_tabIn (tgt := 156) (off := 155) c9 dX9_ofLongs_1 (by decide) (by decide) (by decide) (by decide) ?_
    refine zv_lload_n (n := 1) dX9_ofLongs_156 rfl rfl ?_
    refine zv_lload_n (n := 2) dX9_ofLongs_157 rfl rfl ?_
    refine zv_lmul dX9_ofLongs_158 ?_
    cases h
    exact zv_lret dX9_ofLongs_159 rfl
  rcases zif h with ⟨c10, h⟩ | ⟨c10, h⟩
  · refine zr_tabIn (tgt := 191) (off := 190) c10 dX9_ofLongs_1 (by decide) (by decide) (by decide) (by decide) ?_
    exact zv_fewer [1, 2] rfl (kX9_ofLongs_191 hd _ _ _ h)
  rcases zif h with ⟨c11, h⟩ | ⟨c11, h⟩
  · refine zr_tabIn (tgt := 191) (off := 190) c11 dX9_ofLongs_1 (by decide) (by decide) (by decide) (by decide) ?_
    exact zv_fewer [1, 2] rfl (kX9_ofLongs_191 hd _ _ _ h)
  rcases zif h with ⟨c12, h⟩ | ⟨c12, h⟩
  · refine zr_tabIn (tgt := 191) (off := 190) c12 dX9_ofLongs_1 (by decide) (by decide) (by decide) (by decide) ?_
    exact zv_fewer [1, 2] rfl (kX9_ofLongs_191 hd _ _ _ h)
  rcases zif h with ⟨c14, h⟩ | ⟨c14, h⟩
  · refine zr_tabIn (tgt := 160) (off := 159) c14 dX9_ofLongs_1 (by decide) (by decide) (by decide) (by decide) ?_
    refine zv_lload_n (n := 1) dX9_ofLongs_160 rfl rfl ?_
    refine zv_lload_n (n := 2) dX9_ofLongs_161 rfl rfl ?_
    refine zr_ldiv dX9_ofLongs_162 h (fun c13 h => ?_)
    cases h
    exact zv_lret dX9_ofLongs_163 rfl
  rcases zif h with ⟨c15, h⟩ | ⟨c15, h⟩
  · refine zr_tabIn (tgt := 191) (off := 190) c15 dX9_ofLongs_1 (by decide) (by decide) (by decide) (by decide) ?_
    exact zv_fewer [1, 2] rfl (kX9_ofLongs_191 hd _ _ _ h)
  rcases zif h with ⟨c16, h⟩ | ⟨c16, h⟩
  · refine zr_tabIn (tgt := 191) (off := 190) c16 dX9_ofLongs_1 (by decide) (by decide) (by decide) (by decide) ?_
    exact zv_fewer [1, 2] rfl (kX9_ofLongs_191 hd _ _ _ h)
  rcases zif h with ⟨c17, h⟩ | ⟨c17, h⟩
  · refine zr_tabIn (tgt := 191) (off := 190) c17 dX9_ofLongs_1 (by decide) (by decide) (by decide) (by decide) ?_
    exact zv_fewer [1, 2] rfl (kX9_ofLongs_191 hd _ _ _ h)
  rcases zif h with ⟨c19, h⟩ | ⟨c19, h⟩
  · refine zr_tabIn (tgt := 164) (off := 163) c19 dX9_ofLongs_1 (by decide) (by decide) (by decide) (by decide) ?_
    refine zv_lload_n (n := 1) dX9_ofLongs_164 rfl rfl ?_
    refine zv_lload_n (n := 2) dX9_ofLongs_165 rfl rfl ?_
    refine zr_lrem dX9_ofLongs_166 h (fun c18 h => ?_)
    cases h
    exact zv_lret dX9_ofLongs_167 rfl
  rcases zif h with ⟨c20, h⟩ | ⟨c20, h⟩
  · refine zr_tabIn (tgt := 191) (off := 190) c20 dX9_ofLongs_1 (by decide) (by decide) (by decide) (by decide) ?_
    exact zv_fewer [1, 2] rfl (kX9_ofLongs_191 hd _ _ _ h)
  rcases zif h with ⟨c21, h⟩ | ⟨c21, h⟩
  · refine zr_tabIn (tgt := 191) (off := 190) c21 dX9_ofLongs_1 (by decide) (by decide) (by decide) (by decide) ?_
    exact zv_fewer [1, 2] rfl (kX9_ofLongs_191 hd _ _ _ h)
  rcases zif h with ⟨c22, h⟩ | ⟨c22, h⟩
  · refine zr_tabIn (tgt := 191) (off := 190) c22 dX9_ofLongs_1 (by decide) (by decide) (by decide) (by decide) ?_
    exact zv_fewer [1, 2] rfl (kX9_ofLongs_191 hd _ _ _ h)
  rcases zif h with ⟨c23, h⟩ | ⟨c23, h⟩
  · refine zr_tabIn (tgt := 191) (off := 190) c23 dX9_ofLongs_1 (by decide) (by decide) (by decide) (by decide) ?_
    exact zv_fewer [1, 2] rfl (kX9_ofLongs_191 hd _ _ _ h)
  rcases zif h with ⟨c24, h⟩ | ⟨c24, h⟩
  · refine zr_tabIn (tgt := 191) (off := 190) c24 dX9_ofLongs_1 (by decide) (by decide) (by decide) (by decide) ?_
    exact zv_fewer [1, 2] rfl (kX9_ofLongs_191 hd _ _ _ h)
  rcases zif h with ⟨c25, h⟩ | ⟨c25, h⟩
  · refine zr_tabIn (tgt := 191) (off := 190) c25 dX9_ofLongs_1 (by decide) (by decide) (by decide) (by decide) ?_
    exact zv_fewer [1, 2] rfl (kX9_ofLongs_191 hd _ _ _ h)
  rcases zif h with ⟨c26, h⟩ | ⟨c26, h⟩
  · refine zr_tabIn (tgt := 191) (off := 190) c26 dX9_ofLongs_1 (by decide) (by decide) (by decide) (by decide) ?_
    exact zv_fewer [1, 2] rfl (kX9_ofLongs_191 hd _ _ _ h)
  rcases zif h with ⟨c27, h⟩ | ⟨c27, h⟩
  · refine zr_tabIn (tgt := 168) (off := 167) c27 dX9_ofLongs_1 (by decide) (by decide) (by decide) (by decide) ?_
    refine zv_lload_n (n := 1) dX9_ofLongs_168 rfl rfl ?_
    refine zv_lload_n (n := 2) dX9_ofLongs_169 rfl rfl ?_
    refine zv_l2i dX9_ofLongs_170 ?_
    refine zv_lshl dX9_ofLongs_171 ?_
    cases h
    exact zv_lret dX9_ofLongs_172 rfl
  rcases zif h with ⟨c28, h⟩ | ⟨c28, h⟩
  · refine zr_tabIn (tgt := 191) (off := 190) c28 dX9_ofLongs_1 (by decide) (by decide) (by decide) (by decide) ?_
    exact zv_fewer [1, 2] rfl (kX9_ofLongs_191 hd _ _ _ h)
  rcases zif h with ⟨c29, h⟩ | ⟨c29, h⟩
  · refine zr_tabIn (tgt := 173) (off := 172) c29 dX9_ofLongs_1 (by decide) (by decide) (by decide) (by decide) ?_
    refine zv_lload_n (n := 1) dX9_ofLongs_173 rfl rfl ?_
    refine zv_lload_n (n := 2) dX9_ofLongs_174 rfl rfl ?_
    refine zv_l2i dX9_ofLongs_175 ?_
    refine zv_lshr dX9_ofLongs_176 ?_
    cases h
    exact zv_lret dX9_ofLongs_177 rfl
  rcases zif h with ⟨c30, h⟩ | ⟨c30, h⟩
  · refine zr_tabIn (tgt := 191) (off := 190) c30 dX9_ofLongs_1 (by decide) (by decide) (by decide) (by decide) ?_
    exact zv_fewer [1, 2] rfl (kX9_ofLongs_191 hd _ _ _ h)
  rcases zif h with ⟨c31, h⟩ | ⟨c31, h⟩
  · refine zr_tabIn (tgt := 178) (off := 177) c31 dX9_ofLongs_1 (by decide) (by decide) (by decide) (by decide) ?_
    refine zv_lload_n (n := 1) dX9_ofLongs_178 rfl rfl ?_
    refine zv_lload_n (n := 2) dX9_ofLongs_179 rfl rfl ?_
    refine zv_l2i dX9_ofLongs_180 ?_
    refine zv_lushr dX9_ofLongs_181 ?_
    cases h
    exact zv_lret dX9_ofLongs_182 rfl
  rcases zif h with ⟨c32, h⟩ | ⟨c32, h⟩
  · refine zr_tabIn (tgt := 191) (off := 190) c32 dX9_ofLongs_1 (by decide) (by decide) (by decide) (by decide) ?_
    exact zv_fewer [1, 2] rfl (kX9_ofLongs_191 hd _ _ _ h)
  rcases zif h with ⟨c33, h⟩ | ⟨c33, h⟩
  · refine zr_tabIn (tgt := 183) (off := 182) c33 dX9_ofLongs_1 (by decide) (by decide) (by decide) (by decide) ?_
    refine zv_lload_n (n := 1) dX9_ofLongs_183 rfl rfl ?_
    refine zv_lload_n (n := 2) dX9_ofLongs_184 rfl rfl ?_
    refine zv_land dX9_ofLongs_185 ?_
    cases h
    exact zv_lret dX9_ofLongs_186 rfl
  rcases zif h with ⟨c34, h⟩ | ⟨c34, h⟩
  · refine zr_tabIn (tgt := 191) (off := 190) c34 dX9_ofLongs_1 (by decide) (by decide) (by decide) (by decide) ?_
    exact zv_fewer [1, 2] rfl (kX9_ofLongs_191 hd _ _ _ h)
  rcases zif h with ⟨c35, h⟩ | ⟨c35, h⟩
  · refine zr_tabIn (tgt := 187) (off := 186) c35 dX9_ofLongs_1 (by decide) (by decide) (by decide) (by decide) ?_
    refine zv_lload_n (n := 1) dX9_ofLongs_187 rfl rfl ?_
    refine zv_lload_n (n := 2) dX9_ofLongs_188 rfl rfl ?_
    refine zv_lor dX9_ofLongs_189 ?_
    cases h
    exact zv_lret dX9_ofLongs_190 rfl
  refine zv_tableOut (tgt := 191) dX9_ofLongs_1 (by have := lv_neT c1 (show (97 : Int32).toInt = 97 by decide); have := lv_neT c2 (show (98 : Int32).toInt = 98 by decide); have := lv_neT c3 (show (99 : Int32).toInt = 99 by decide); have := lv_neT c4 (show (100 : Int32).toInt = 100 by decide); have := lv_neT c5 (show (101 : Int32).toInt = 101 by decide); have := lv_neT c6 (show (102 : Int32).toInt = 102 by decide); have := lv_neT c7 (show (103 : Int32).toInt = 103 by decide); have := lv_neT c8 (show (104 : Int32).toInt = 104 by decide); have := lv_neT c9 (show (105 : Int32).toInt = 105 by decide); have := lv_neT c10 (show (106 : Int32).toInt = 106 by decide); have := lv_neT c11 (show (107 : Int32).toInt = 107 by decide); have := lv_neT c12 (show (108 : Int32).toInt = 108 by decide); have := lv_neT c14 (show (109 : Int32).toInt = 109 by decide); have := lv_neT c15 (show (110 : Int32).toInt = 110 by decide); have := lv_neT c16 (show (111 : Int32).toInt = 111 by decide); have := lv_neT c17 (show (112 : Int32).toInt = 112 by decide); have := lv_neT c19 (show (113 : Int32).toInt = 113 by decide); have := lv_neT c20 (show (114 : Int32).toInt = 114 by decide); have := lv_neT c21 (show (115 : Int32).toInt = 115 by decide); have := lv_neT c22 (show (116 : Int32).toInt = 116 by decide); have := lv_neT c23 (show (117 : Int32).toInt = 117 by decide); have := lv_neT c24 (show (118 : Int32).toInt = 118 by decide); have := lv_neT c25 (show (119 : Int32).toInt = 119 by decide); have := lv_neT c26 (show (120 : Int32).toInt = 120 by decide); have := lv_neT c27 (show (121 : Int32).toInt = 121 by decide); have := lv_neT c28 (show (122 : Int32).toInt = 122 by decide); have := lv_neT c29 (show (123 : Int32).toInt = 123 by decide); have := lv_neT c30 (show (124 : Int32).toInt = 124 by decide); have := lv_neT c31 (show (125 : Int32).toInt = 125 by decide); have := lv_neT c32 (show (126 : Int32).toInt = 126 by decide); have := lv_neT c33 (show (127 : Int32).toInt = 127 by decide); have := lv_neT c34 (show (128 : Int32).toInt = 128 by decide); have := lv_neT c35 (show (129 : Int32).toInt = 129 by decide); omega) (by decide) ?_
  exact zv_fewer [1, 2] rfl (kX9_ofLongs_191 hd _ _ _ h)
def mX9_ofLongs (N : Nat) (a0 : Int32) (a1 : Int64) (a2 : Int64) (x : zv_X) : Option (zv_X × Int64) := mX9_ofLongs_0 N a0 a1 a2 x
theorem tX9_ofLongs {d : Nat} (hd : 0 ≤ d) {N : Nat} {x : zv_X} {a0 : Int32} {a1 : Int64} {a2 : Int64} {o : (zv_X × Int64)} (h : mX9_ofLongs N a0 a1 a2 x = some o) : zv_T d yX9_ofLongs cX9_ofLongs 5 ((some .long)) [.int a0, .long a1, .long a2] x o.1 (some (.long o.2)) := by
  unfold mX9_ofLongs at h
  exact zv_enter (by decide) (Nat.le_of_ble_eq_true rfl) (kX9_ofLongs_0 hd _ _ _ _ h)

abbrev fX9_doReckoning (d : Nat) (x0 : zv_X) (o : zv_X) : zv_G := (d, RX9, cX9_doReckoning, 10, none, ("doReckoning", []), x0, o, zv_fin x0 o none)
def mX9_doReckoning_352 (N : Nat)  (x : zv_X) : Option zv_X := some x
theorem kX9_doReckoning_352 {d : Nat} {x0 : zv_X} {o : zv_X} (hd : 5 ≤ d) {N : Nat}  (x : zv_X) (h : mX9_doReckoning_352 N  x = some o) : zv_V (fX9_doReckoning d x0 o) 352 [] [] x := by
  unfold mX9_doReckoning_352 at h
  cases h
  exact zv_vret dX9_doReckoning_352 rfl
def mX9_doReckoning_244 (N : Nat) (s0 : Int64) (s1 : Int32) (s2 : Nat) (x : zv_X) : Option zv_X := if zm_k x s2 9 = true then ((mX9_pushValue N s2 s1 s0 x).bind fun o1 => mX9_doReckoning_352 N o1) else none
theorem kX9_doReckoning_244 {d : Nat} {x0 : zv_X} {o : zv_X} (hd : 5 ≤ d) {N : Nat} (s0 : Int64) (s1 : Int32) (s2 : Nat) (x : zv_X) (h : mX9_doReckoning_244 N s0 s1 s2 x = some o) : zv_V (fX9_doReckoning d x0 o) 244 [] [.long s0, .int s1, .ref s2] x := by
  unfold mX9_doReckoning_244 at h
  refine zr_cVv (ci := 9) (st := []) dX9_doReckoning_244 mw_X9_pushValue wd_1670 wd_1672 wd_67 rfl rfl [.int s1, .long s0] rfl rfl (Nat.le_of_ble_eq_true rfl) (show d - 1 + 1 ≤ d by omega) h (fun o1 e2 => tX9_pushValue (d := d - 1) (by omega) e2) (fun o1 e2 h => ?_)
  refine zv_goto (tgt := 352) dX9_doReckoning_247 (by decide) ?_
  exact kX9_doReckoning_352 hd _ h
def mX9_doReckoning_229 (N : Nat) (l2 : Int32) (l5 : Int64) (s0 : Int32) (s1 : Nat) (x : zv_X) : Option zv_X := if l2 = (116 : Int32) then (mX9_doReckoning_244 N (Int32.toInt64 (Int64.toInt32 l5)) s0 s1 x) else (mX9_doReckoning_244 N l5 s0 s1 x)
theorem kX9_doReckoning_229 {d : Nat} {x0 : zv_X} {o : zv_X} (hd : 5 ≤ d) {N : Nat} (l2 : Int32) (l5 : Int64) (s0 : Int32) (s1 : Nat) (x : zv_X) (h : mX9_doReckoning_229 N l2 l5 s0 s1 x = some o) : zv_V (fX9_doReckoning d x0 o) 229 [(2, .int l2), (5, .long l5)] [.int s0, .ref s1] x := by
  unfold mX9_doReckoning_229 at h
  refine zv_iload_n (n := 0) dX9_doReckoning_229 rfl rfl ?_
  refine zv_bipush (v := 116) dX9_doReckoning_230 (by decide) ?_
  refine zr_icmp_ne (tgt := 242) dX9_doReckoning_232 (by decide) h (fun c1 h => ?_) (fun c1 h => ?_)
  · refine zv_lload (n := 1) dX9_doReckoning_242 rfl ?_
    exact zv_fewer [] rfl (kX9_doReckoning_244 hd _ _ _ _ h)
  · refine zv_lload (n := 1) dX9_doReckoning_235 rfl ?_
    refine zv_l2i dX9_doReckoning_237 ?_
    refine zv_i2l dX9_doReckoning_238 ?_
    refine zv_goto (tgt := 244) dX9_doReckoning_239 (by decide) ?_
    exact zv_fewer [] rfl (kX9_doReckoning_244 hd _ _ _ _ h)
def mX9_doReckoning_210 (N : Nat) (l0 : Nat) (l2 : Int32) (x : zv_X) : Option zv_X := if zm_k x l0 9 = true then ((mX9_popValue N l0 x).bind fun o1 => if l2 = (116 : Int32) then (mX9_doReckoning_229 N l2 (-o1.2) (1 : Int32) l0 o1.1) else (mX9_doReckoning_229 N l2 (-o1.2) (2 : Int32) l0 o1.1)) else none
theorem kX9_doReckoning_210 {d : Nat} {x0 : zv_X} {o : zv_X} (hd : 5 ≤ d) {N : Nat} (l0 : Nat) (l2 : Int32) (x : zv_X) (h : mX9_doReckoning_210 N l0 l2 x = some o) : zv_V (fX9_doReckoning d x0 o) 210 [(0, .ref l0), (2, .int l2)] [] x := by
  unfold mX9_doReckoning_210 at h
  refine zv_aload_n (n := 0) dX9_doReckoning_210 rfl rfl ?_
  refine zr_cVl (ci := 9) (st := []) dX9_doReckoning_211 mw_X9_popValue wd_1727 wd_1729 wd_79 rfl rfl [] rfl rfl (Nat.le_of_ble_eq_true rfl) (show d - 1 + 1 ≤ d by omega) h (fun o1 e2 => tX9_popValue (d := d - 1) (by omega) e2) (fun o1 e2 h => ?_)
  refine zv_lneg dX9_doReckoning_214 ?_
  refine zv_lstore (L' := [(5, .long (-o1.2)), (0, .ref l0), (2, .int l2)]) dX9_doReckoning_215 (Nat.le_of_ble_eq_true rfl) rfl ?_
  refine zv_aload_n (n := 1) dX9_doReckoning_217 rfl rfl ?_
  refine zv_iload_n (n := 2) dX9_doReckoning_218 rfl rfl ?_
  refine zv_bipush (v := 116) dX9_doReckoning_219 (by decide) ?_
  refine zr_icmp_ne (tgt := 228) dX9_doReckoning_221 (by decide) h (fun c3 h => ?_) (fun c3 h => ?_)
  · refine zv_iconst (v := 2) dX9_doReckoning_228 (by decide) ?_
    exact zv_fewer [2, 0] rfl (kX9_doReckoning_229 hd _ _ _ _ _ h)
  · refine zv_iconst (v := 1) dX9_doReckoning_224 (by decide) ?_
    refine zv_goto (tgt := 229) dX9_doReckoning_225 (by decide) ?_
    exact zv_fewer [2, 0] rfl (kX9_doReckoning_229 hd _ _ _ _ _ h)
def mX9_doReckoning_302 (N : Nat) (l0 : Nat) (l2 : Int32) (x : zv_X) : Option zv_X := if zm_k x l0 9 = true then ((mX9_popValue N l0 x).bind fun o1 => if zm_k o1.1 l0 9 = true then ((mX9_popValue N l0 o1.1).bind fun o3 => if (l2 - l2 / (2 : Int32) * (2 : Int32)) = 0 then ((mX9_ofInts N l2 (Int64.toInt32 o3.2) (Int64.toInt32 o1.2) o3.1).bind fun o9 => if zm_k o9.1 l0 9 = true then ((mX9_pushValue N l0 (1 : Int32) (Int32.toInt64 o9.2) o9.1).bind fun o11 => mX9_doReckoning_352 N o11) else none) else ((mX9_ofLongs N l2 o3.2 o1.2 o3.1).bind fun o5 => if zm_k o5.1 l0 9 = true then ((mX9_pushValue N l0 (2 : Int32) o5.2 o5.1).bind fun o7 => mX9_doReckoning_352 N o7) else none)) else none) else none
theorem kX9_doReckoning_302 {d : Nat} {x0 : zv_X} {o : zv_X} (hd : 5 ≤ d) {N : Nat} (l0 : Nat) (l2 : Int32) (x : zv_X) (h : mX9_doReckoning_302 N l0 l2 x = some o) : zv_V (fX9_doReckoning d x0 o) 302 [(0, .ref l0), (2, .int l2)] [] x := by
  unfold mX9_doReckoning_302 at h
  refine zv_aload_n (n := 0) dX9_doReckoning_302 rfl rfl ?_
  refine zr_cVl (ci := 9) (st := []) dX9_doReckoning_303 mw_X9_popValue wd_1727 wd_1729 wd_79 rfl rfl [] rfl rfl (Nat.le_of_ble_eq_true rfl) (show d - 1 + 1 ≤ d by omega) h (fun o1 e2 => tX9_popValue (d := d - 1) (by omega) e2) (fun o1 e2 h => ?_)
  refine zv_lstore (L' := [(6, .long o1.2), (0, .ref l0), (2, .int l2)]) dX9_doReckoning_306 (Nat.le_of_ble_eq_true rfl) rfl ?_
  refine zv_aload_n (n := 1) dX9_doReckoning_308 rfl rfl ?_
  refine zr_cVl (ci := 9) (st := []) dX9_doReckoning_309 mw_X9_popValue wd_1727 wd_1729 wd_79 rfl rfl [] rfl rfl (Nat.le_of_ble_eq_true rfl) (show d - 1 + 1 ≤ d by omega) h (fun o3 e4 => tX9_popValue (d := d - 1) (by omega) e4) (fun o3 e4 h => ?_)
  refine zv_lstore (L' := [(8, .long o3.2), (6, .long o1.2), (0, .ref l0), (2, .int l2)]) dX9_doReckoning_312 (Nat.le_of_ble_eq_true rfl) rfl ?_
  refine zv_iload_n (n := 3) dX9_doReckoning_314 rfl rfl ?_
  refine zv_iconst (v := 2) dX9_doReckoning_315 (by decide) ?_
  refine zv_irem dX9_doReckoning_316 (by decide) ?_
  refine zr_if_ne (tgt := 339) dX9_doReckoning_317 (by decide) h (fun c13 h => ?_) (fun c13 h => ?_)
  · refine zv_aload_n (n := 2) dX9_doReckoning_339 rfl rfl ?_
    refine zv_iconst (v := 2) dX9_doReckoning_340 (by decide) ?_
    refine zv_iload_n (n := 3) dX9_doReckoning_341 rfl rfl ?_
    refine zv_lload (n := 0) dX9_doReckoning_342 rfl ?_
    refine zv_lload (n := 1) dX9_doReckoning_344 rfl ?_
    refine zr_cSl (st := [.int (2 : Int32), .ref l0]) dX9_doReckoning_346 mw_X9_ofLongs wd_1747 wd_1748 [.int l2, .long o3.2, .long o1.2] rfl rfl (Nat.le_of_ble_eq_true rfl) (show d - 1 + 1 ≤ d by omega) h (fun o5 e6 => tX9_ofLongs (d := d - 1) (by omega) e6) (fun o5 e6 h => ?_)
    refine zr_cVv (ci := 9) (st := []) dX9_doReckoning_349 mw_X9_pushValue wd_1670 wd_1672 wd_67 rfl rfl [.int (2 : Int32), .long o5.2] rfl rfl (Nat.le_of_ble_eq_true rfl) (show d - 1 + 1 ≤ d by omega) h (fun o7 e8 => tX9_pushValue (d := d - 1) (by omega) e8) (fun o7 e8 h => ?_)
    exact zv_fewer [] rfl (kX9_doReckoning_352 hd _ h)
  · refine zv_aload_n (n := 2) dX9_doReckoning_320 rfl rfl ?_
    refine zv_iconst (v := 1) dX9_doReckoning_321 (by decide) ?_
    refine zv_iload_n (n := 3) dX9_doReckoning_322 rfl rfl ?_
    refine zv_lload (n := 0) dX9_doReckoning_323 rfl ?_
    refine zv_l2i dX9_doReckoning_325 ?_
    refine zv_lload (n := 1) dX9_doReckoning_326 rfl ?_
    refine zv_l2i dX9_doReckoning_328 ?_
    refine zr_cSi (st := [.int (1 : Int32), .ref l0]) dX9_doReckoning_329 mw_X9_ofInts wd_1744 wd_1745 [.int l2, .int (Int64.toInt32 o3.2), .int (Int64.toInt32 o1.2)] rfl rfl (Nat.le_of_ble_eq_true rfl) (show d - 1 + 1 ≤ d by omega) h (fun o9 e10 => tX9_ofInts (d := d - 1) (by omega) e10) (fun o9 e10 h => ?_)
    refine zv_i2l dX9_doReckoning_332 ?_
    refine zr_cVv (ci := 9) (st := []) dX9_doReckoning_333 mw_X9_pushValue wd_1670 wd_1672 wd_67 rfl rfl [.int (1 : Int32), .long (Int32.toInt64 o9.2)] rfl rfl (Nat.le_of_ble_eq_true rfl) (show d - 1 + 1 ≤ d by omega) h (fun o11 e12 => tX9_pushValue (d := d - 1) (by omega) e12) (fun o11 e12 h => ?_)
    refine zv_goto (tgt := 352) dX9_doReckoning_336 (by decide) ?_
    exact zv_fewer [] rfl (kX9_doReckoning_352 hd _ h)
def mX9_doReckoning_279 (N : Nat) (l0 : Nat) (l2 : Int32) (s0 : Int32) (x : zv_X) : Option zv_X := if s0 = 0 then (mX9_doReckoning_302 N l0 l2 x) else (if zm_k x l0 9 = true then ((mX9_peek N l0 (0 : Int32) x).bind fun o1 => if (lg_cmp o1.2 (0 : Int64)) = 0 then (if zm_k o1.1 l0 9 = true then ((mX9_fail N l0 (1 : Int32) o1.1).bind fun o3 => some o3) else none) else (mX9_doReckoning_302 N l0 l2 o1.1)) else none)
theorem kX9_doReckoning_279 {d : Nat} {x0 : zv_X} {o : zv_X} (hd : 5 ≤ d) {N : Nat} (l0 : Nat) (l2 : Int32) (s0 : Int32) (x : zv_X) (h : mX9_doReckoning_279 N l0 l2 s0 x = some o) : zv_V (fX9_doReckoning d x0 o) 279 [(0, .ref l0), (2, .int l2)] [.int s0] x := by
  unfold mX9_doReckoning_279 at h
  refine zv_istore (L' := [(5, .int s0), (0, .ref l0), (2, .int l2)]) dX9_doReckoning_279 (Nat.le_of_ble_eq_true rfl) rfl ?_
  refine zv_iload (n := 0) dX9_doReckoning_281 rfl ?_
  refine zr_if_eq (tgt := 302) dX9_doReckoning_283 (by decide) h (fun c6 h => ?_) (fun c6 h => ?_)
  · exact zv_fewer [1, 2] rfl (kX9_doReckoning_302 hd _ _ _ h)
  · refine zv_aload_n (n := 1) dX9_doReckoning_286 rfl rfl ?_
    refine zv_iconst (v := 0) dX9_doReckoning_287 (by decide) ?_
    refine zr_cVl (ci := 9) (st := []) dX9_doReckoning_288 mw_X9_peek wd_1678 wd_1680 wd_69 rfl rfl [.int (0 : Int32)] rfl rfl (Nat.le_of_ble_eq_true rfl) (show d - 1 + 1 ≤ d by omega) h (fun o1 e2 => tX9_peek (d := d - 1) (by omega) e2) (fun o1 e2 h => ?_)
    refine zv_lconst (v := 0) dX9_doReckoning_291 (by decide) ?_
    refine zv_lcmp dX9_doReckoning_292 ?_
    refine zr_if_ne (tgt := 302) dX9_doReckoning_293 (by decide) h (fun c5 h => ?_) (fun c5 h => ?_)
    · exact zv_fewer [1, 2] rfl (kX9_doReckoning_302 hd _ _ _ h)
    · refine zv_aload_n (n := 1) dX9_doReckoning_296 rfl rfl ?_
      refine zv_iconst (v := 1) dX9_doReckoning_297 (by decide) ?_
      refine zr_cVv (ci := 9) (st := []) dX9_doReckoning_298 mw_X9_fail wd_1689 wd_1691 wd_71 rfl rfl [.int (1 : Int32)] rfl rfl (Nat.le_of_ble_eq_true rfl) (show d - 1 + 1 ≤ d by omega) h (fun o3 e4 => tX9_fail (d := d - 1) (by omega) e4) (fun o3 e4 h => ?_)
      cases h
      exact zv_vret dX9_doReckoning_301 rfl
def mX9_doReckoning_274 (N : Nat) (l0 : Nat) (l2 : Int32) (x : zv_X) : Option zv_X := mX9_doReckoning_279 N l0 l2 (1 : Int32) x
theorem kX9_doReckoning_274 {d : Nat} {x0 : zv_X} {o : zv_X} (hd : 5 ≤ d) {N : Nat} (l0 : Nat) (l2 : Int32) (x : zv_X) (h : mX9_doReckoning_274 N l0 l2 x = some o) : zv_V (fX9_doReckoning d x0 o) 274 [(0, .ref l0), (2, .int l2)] [] x := by
  unfold mX9_doReckoning_274 at h
  refine zv_iconst (v := 1) dX9_doReckoning_274 (by decide) ?_
  refine zv_goto (tgt := 279) dX9_doReckoning_275 (by decide) ?_
  exact kX9_doReckoning_279 hd _ _ _ _ h
def mX9_doReckoning_192 (N : Nat) (s0 : Int64) (s1 : Int32) (s2 : Nat) (x : zv_X) : Option zv_X := if zm_k x s2 9 = true then ((mX9_pushValue N s2 s1 s0 x).bind fun o1 => mX9_doReckoning_352 N o1) else none
theorem kX9_doReckoning_192 {d : Nat} {x0 : zv_X} {o : zv_X} (hd : 5 ≤ d) {N : Nat} (s0 : Int64) (s1 : Int32) (s2 : Nat) (x : zv_X) (h : mX9_doReckoning_192 N s0 s1 s2 x = some o) : zv_V (fX9_doReckoning d x0 o) 192 [] [.long s0, .int s1, .ref s2] x := by
  unfold mX9_doReckoning_192 at h
  refine zr_cVv (ci := 9) (st := []) dX9_doReckoning_192 mw_X9_pushValue wd_1670 wd_1672 wd_67 rfl rfl [.int s1, .long s0] rfl rfl (Nat.le_of_ble_eq_true rfl) (show d - 1 + 1 ≤ d by omega) h (fun o1 e2 => tX9_pushValue (d := d - 1) (by omega) e2) (fun o1 e2 h => ?_)
  refine zv_goto (tgt := 352) dX9_doReckoning_195 (by decide) ?_
  exact kX9_doReckoning_352 hd _ h
def mX9_doReckoning_144 (N : Nat) (l0 : Nat) (l2 : Int32) (x : zv_X) : Option zv_X := if l2 = (148 : Int32) then (if zm_k x l0 9 = true then ((mX9_popValue N l0 x).bind fun o7 => if zm_k o7.1 l0 9 = true then ((mX9_popValue N l0 o7.1).bind fun o9 => if 0 ≤ (lg_cmp o9.2 o7.2) then (if (lg_cmp o9.2 o7.2) = 0 then (mX9_doReckoning_192 N (0 : Int64) (1 : Int32) l0 o9.1) else (mX9_doReckoning_192 N (1 : Int64) (1 : Int32) l0 o9.1)) else (mX9_doReckoning_192 N (-1 : Int64) (1 : Int32) l0 o9.1)) else none) else none) else (if l2 = (116 : Int32) then (mX9_doReckoning_210 N l0 l2 x) else (if l2 = (117 : Int32) then (mX9_doReckoning_210 N l0 l2 x) else (if l2 = (108 : Int32) then (mX9_doReckoning_274 N l0 l2 x) else (if l2 = (109 : Int32) then (mX9_doReckoning_274 N l0 l2 x) else (if l2 = (112 : Int32) then (mX9_doReckoning_274 N l0 l2 x) else (if l2 = (113 : Int32) then (mX9_doReckoning_274 N l0 l2 x) else (mX9_doReckoning_279 N l0 l2 (0 : Int32) x)))))))
theorem kX9_doReckoning_144 {d : Nat} {x0 : zv_X} {o : zv_X} (hd : 5 ≤ d) {N : Nat} (l0 : Nat) (l2 : Int32) (x : zv_X) (h : mX9_doReckoning_144 N l0 l2 x = some o) : zv_V (fX9_doReckoning d x0 o) 144 [(0, .ref l0), (2, .int l2)] [] x := by
  unfold mX9_doReckoning_144 at h
  refine zv_iload_n (n := 1) dX9_doReckoning_144 rfl rfl ?_
  refine zv_sipush (v := 148) dX9_doReckoning_145 (by decide) ?_
  refine zr_icmp_ne (tgt := 198) dX9_doReckoning_148 (by decide) h (fun c13 h => ?_) (fun c13 h => ?_)
  · refine zv_iload_n (n := 1) dX9_doReckoning_198 rfl rfl ?_
    refine zv_bipush (v := 116) dX9_doReckoning_199 (by decide) ?_
    refine zr_icmp_eq (tgt := 210) dX9_doReckoning_201 (by decide) h (fun c6 h => ?_) (fun c6 h => ?_)
    · exact kX9_doReckoning_210 hd _ _ _ h
    · refine zv_iload_n (n := 1) dX9_doReckoning_204 rfl rfl ?_
      refine zv_bipush (v := 117) dX9_doReckoning_205 (by decide) ?_
      refine zr_icmp_ne (tgt := 250) dX9_doReckoning_207 (by decide) h (fun c5 h => ?_) (fun c5 h => ?_)
      · refine zv_iload_n (n := 1) dX9_doReckoning_250 rfl rfl ?_
        refine zv_bipush (v := 108) dX9_doReckoning_251 (by decide) ?_
        refine zr_icmp_eq (tgt := 274) dX9_doReckoning_253 (by decide) h (fun c4 h => ?_) (fun c4 h => ?_)
        · exact kX9_doReckoning_274 hd _ _ _ h
        · refine zv_iload_n (n := 1) dX9_doReckoning_256 rfl rfl ?_
          refine zv_bipush (v := 109) dX9_doReckoning_257 (by decide) ?_
          refine zr_icmp_eq (tgt := 274) dX9_doReckoning_259 (by decide) h (fun c3 h => ?_) (fun c3 h => ?_)
          · exact kX9_doReckoning_274 hd _ _ _ h
          · refine zv_iload_n (n := 1) dX9_doReckoning_262 rfl rfl ?_
            refine zv_bipush (v := 112) dX9_doReckoning_263 (by decide) ?_
            refine zr_icmp_eq (tgt := 274) dX9_doReckoning_265 (by decide) h (fun c2 h => ?_) (fun c2 h => ?_)
            · exact kX9_doReckoning_274 hd _ _ _ h
            · refine zv_iload_n (n := 1) dX9_doReckoning_268 rfl rfl ?_
              refine zv_bipush (v := 113) dX9_doReckoning_269 (by decide) ?_
              refine zr_icmp_ne (tgt := 278) dX9_doReckoning_271 (by decide) h (fun c1 h => ?_) (fun c1 h => ?_)
              · refine zv_iconst (v := 0) dX9_doReckoning_278 (by decide) ?_
                exact kX9_doReckoning_279 hd _ _ _ _ h
              · exact kX9_doReckoning_274 hd _ _ _ h
      · exact kX9_doReckoning_210 hd _ _ _ h
  · refine zv_aload_n (n := 0) dX9_doReckoning_151 rfl rfl ?_
    refine zr_cVl (ci := 9) (st := []) dX9_doReckoning_152 mw_X9_popValue wd_1727 wd_1729 wd_79 rfl rfl [] rfl rfl (Nat.le_of_ble_eq_true rfl) (show d - 1 + 1 ≤ d by omega) h (fun o7 e8 => tX9_popValue (d := d - 1) (by omega) e8) (fun o7 e8 h => ?_)
    refine zv_lstore (L' := [(5, .long o7.2), (0, .ref l0), (2, .int l2)]) dX9_doReckoning_155 (Nat.le_of_ble_eq_true rfl) rfl ?_
    refine zv_aload_n (n := 1) dX9_doReckoning_157 rfl rfl ?_
    refine zr_cVl (ci := 9) (st := []) dX9_doReckoning_158 mw_X9_popValue wd_1727 wd_1729 wd_79 rfl rfl [] rfl rfl (Nat.le_of_ble_eq_true rfl) (show d - 1 + 1 ≤ d by omega) h (fun o9 e10 => tX9_popValue (d := d - 1) (by omega) e10) (fun o9 e10 h => ?_)
    refine zv_lstore (L' := [(7, .long o9.2), (5, .long o7.2), (0, .ref l0), (2, .int l2)]) dX9_doReckoning_161 (Nat.le_of_ble_eq_true rfl) rfl ?_
    refine zv_aload_n (n := 2) dX9_doReckoning_163 rfl rfl ?_
    refine zv_iconst (v := 1) dX9_doReckoning_164 (by decide) ?_
    refine zv_lload (n := 0) dX9_doReckoning_165 rfl ?_
    refine zv_lload (n := 1) dX9_doReckoning_167 rfl ?_
    refine zv_lcmp dX9_doReckoning_169 ?_
    refine zr_if_ge (tgt := 179) dX9_doReckoning_170 (by decide) h (fun c12 h => ?_) (fun c12 h => ?_)
    · refine zv_lload (n := 0) dX9_doReckoning_179 rfl ?_
      refine zv_lload (n := 1) dX9_doReckoning_181 rfl ?_
      refine zv_lcmp dX9_doReckoning_183 ?_
      refine zr_if_ne (tgt := 191) dX9_doReckoning_184 (by decide) h (fun c11 h => ?_) (fun c11 h => ?_)
      · refine zv_lconst (v := 1) dX9_doReckoning_191 (by decide) ?_
        exact zv_fewer [] rfl (kX9_doReckoning_192 hd _ _ _ _ h)
      · refine zv_lconst (v := 0) dX9_doReckoning_187 (by decide) ?_
        refine zv_goto (tgt := 192) dX9_doReckoning_188 (by decide) ?_
        exact zv_fewer [] rfl (kX9_doReckoning_192 hd _ _ _ _ h)
    · refine zv_ldc2 dX9_doReckoning_173 wd_1743 ?_
      refine zv_goto (tgt := 192) dX9_doReckoning_176 (by decide) ?_
      exact zv_fewer [] rfl (kX9_doReckoning_192 hd _ _ _ _ h)
def mX9_doReckoning_138 (N : Nat) (s0 : Int64) (s1 : Int32) (s2 : Nat) (x : zv_X) : Option zv_X := if zm_k x s2 9 = true then ((mX9_pushValue N s2 s1 s0 x).bind fun o1 => mX9_doReckoning_352 N o1) else none
theorem kX9_doReckoning_138 {d : Nat} {x0 : zv_X} {o : zv_X} (hd : 5 ≤ d) {N : Nat} (s0 : Int64) (s1 : Int32) (s2 : Nat) (x : zv_X) (h : mX9_doReckoning_138 N s0 s1 s2 x = some o) : zv_V (fX9_doReckoning d x0 o) 138 [] [.long s0, .int s1, .ref s2] x := by
  unfold mX9_doReckoning_138 at h
  refine zr_cVv (ci := 9) (st := []) dX9_doReckoning_138 mw_X9_pushValue wd_1670 wd_1672 wd_67 rfl rfl [.int s1, .long s0] rfl rfl (Nat.le_of_ble_eq_true rfl) (show d - 1 + 1 ≤ d by omega) h (fun o1 e2 => tX9_pushValue (d := d - 1) (by omega) e2) (fun o1 e2 h => ?_)
  refine zv_goto (tgt := 352) dX9_doReckoning_141 (by decide) ?_
  exact kX9_doReckoning_352 hd _ h
def mX9_doReckoning_0 (N : Nat) (l0 : Nat) (l1 : Int32) (l2 : Int32) (l3 : Int32) (l4 : Int32) (x : zv_X) : Option zv_X := if l2 = (132 : Int32) then ((zm_R x l0 9 43).bind fun v17 => (zm_R x l0 9 43).bind fun v19 => (zm_aL x v19 (((16 : Int32) * l1) + l3)).bind fun v21 => (mX9_signed N l4 x).bind fun o23 => (zm_sL o23.1 v17 (((16 : Int32) * l1) + l3) (Int32.toInt64 (Int64.toInt32 (v21 + (Int32.toInt64 o23.2))))).bind fun x25 => mX9_doReckoning_352 N x25) else (if l2 = (133 : Int32) then (if zm_k x l0 9 = true then ((mX9_popValue N l0 x).bind fun o12 => if zm_k o12.1 l0 9 = true then ((mX9_pushValue N l0 (2 : Int32) o12.2 o12.1).bind fun o14 => mX9_doReckoning_352 N o14) else none) else none) else (if l2 = (136 : Int32) then (if zm_k x l0 9 = true then ((mX9_popValue N l0 x).bind fun o7 => if zm_k o7.1 l0 9 = true then ((mX9_pushValue N l0 (1 : Int32) (Int32.toInt64 (Int64.toInt32 o7.2)) o7.1).bind fun o9 => mX9_doReckoning_352 N o9) else none) else none) else (if l2 ≤ (144 : Int32) then (mX9_doReckoning_144 N l0 l2 x) else (if (148 : Int32) ≤ l2 then (mX9_doReckoning_144 N l0 l2 x) else (if zm_k x l0 9 = true then ((mX9_popValue N l0 x).bind fun o1 => if l2 = (145 : Int32) then (mX9_doReckoning_138 N (Int32.toInt64 ((Int32.toInt8 (Int64.toInt32 o1.2)).toInt32)) (1 : Int32) l0 o1.1) else (if l2 = (146 : Int32) then (mX9_doReckoning_138 N (Int32.toInt64 ((Int32.toUInt32 (Int64.toInt32 o1.2) % 65536).toInt32)) (1 : Int32) l0 o1.1) else (mX9_doReckoning_138 N (Int32.toInt64 ((Int32.toInt16 (Int64.toInt32 o1.2)).toInt32)) (1 : Int32) l0 o1.1))) else none)))))
theorem kX9_doReckoning_0 {d : Nat} {x0 : zv_X} {o : zv_X} (hd : 5 ≤ d) {N : Nat} (l0 : Nat) (l1 : Int32) (l2 : Int32) (l3 : Int32) (l4 : Int32) (x : zv_X) (h : mX9_doReckoning_0 N l0 l1 l2 l3 l4 x = some o) : zv_V (fX9_doReckoning d x0 o) 0 [(0, .ref l0), (1, .int l1), (2, .int l2), (3, .int l3), (4, .int l4)] [] x := by
  unfold mX9_doReckoning_0 at h
  refine zv_iload_n (n := 2) dX9_doReckoning_0 rfl rfl ?_
  refine zv_sipush (v := 132) dX9_doReckoning_1 (by decide) ?_
  refine zr_icmp_ne (tgt := 41) dX9_doReckoning_4 (by decide) h (fun c27 h => ?_) (fun c27 h => ?_)
  · refine zv_iload_n (n := 2) dX9_doReckoning_41 rfl rfl ?_
    refine zv_sipush (v := 133) dX9_doReckoning_42 (by decide) ?_
    refine zr_icmp_ne (tgt := 60) dX9_doReckoning_45 (by decide) h (fun c16 h => ?_) (fun c16 h => ?_)
    · refine zv_iload_n (n := 2) dX9_doReckoning_60 rfl rfl ?_
      refine zv_sipush (v := 136) dX9_doReckoning_61 (by decide) ?_
      refine zr_icmp_ne (tgt := 81) dX9_doReckoning_64 (by decide) h (fun c11 h => ?_) (fun c11 h => ?_)
      · refine zv_iload_n (n := 2) dX9_doReckoning_81 rfl rfl ?_
        refine zv_sipush (v := 144) dX9_doReckoning_82 (by decide) ?_
        refine zr_icmp_le (tgt := 144) dX9_doReckoning_85 (by decide) h (fun c6 h => ?_) (fun c6 h => ?_)
        · exact zv_fewer [0, 2] rfl (kX9_doReckoning_144 hd _ _ _ h)
        · refine zv_iload_n (n := 2) dX9_doReckoning_88 rfl rfl ?_
          refine zv_sipush (v := 148) dX9_doReckoning_89 (by decide) ?_
          refine zr_icmp_ge (tgt := 144) dX9_doReckoning_92 (by decide) h (fun c5 h => ?_) (fun c5 h => ?_)
          · exact zv_fewer [0, 2] rfl (kX9_doReckoning_144 hd _ _ _ h)
          · refine zv_aload_n (n := 0) dX9_doReckoning_95 rfl rfl ?_
            refine zr_cVl (ci := 9) (st := []) dX9_doReckoning_96 mw_X9_popValue wd_1727 wd_1729 wd_79 rfl rfl [] rfl rfl (Nat.le_of_ble_eq_true rfl) (show d - 1 + 1 ≤ d by omega) h (fun o1 e2 => tX9_popValue (d := d - 1) (by omega) e2) (fun o1 e2 h => ?_)
            refine zv_lstore (L' := [(5, .long o1.2), (0, .ref l0), (1, .int l1), (2, .int l2), (3, .int l3), (4, .int l4)]) dX9_doReckoning_99 (Nat.le_of_ble_eq_true rfl) rfl ?_
            refine zv_aload_n (n := 1) dX9_doReckoning_101 rfl rfl ?_
            refine zv_iconst (v := 1) dX9_doReckoning_102 (by decide) ?_
            refine zv_iload_n (n := 3) dX9_doReckoning_103 rfl rfl ?_
            refine zv_sipush (v := 145) dX9_doReckoning_104 (by decide) ?_
            refine zr_icmp_ne (tgt := 118) dX9_doReckoning_107 (by decide) h (fun c4 h => ?_) (fun c4 h => ?_)
            · refine zv_iload_n (n := 3) dX9_doReckoning_118 rfl rfl ?_
              refine zv_sipush (v := 146) dX9_doReckoning_119 (by decide) ?_
              refine zr_icmp_ne (tgt := 133) dX9_doReckoning_122 (by decide) h (fun c3 h => ?_) (fun c3 h => ?_)
              · refine zv_lload (n := 0) dX9_doReckoning_133 rfl ?_
                refine zv_l2i dX9_doReckoning_135 ?_
                refine zv_i2s dX9_doReckoning_136 ?_
                refine zv_i2l dX9_doReckoning_137 ?_
                exact zv_fewer [] rfl (kX9_doReckoning_138 hd _ _ _ _ h)
              · refine zv_lload (n := 0) dX9_doReckoning_125 rfl ?_
                refine zv_l2i dX9_doReckoning_127 ?_
                refine zv_i2c dX9_doReckoning_128 ?_
                refine zv_i2l dX9_doReckoning_129 ?_
                refine zv_goto (tgt := 138) dX9_doReckoning_130 (by decide) ?_
                exact zv_fewer [] rfl (kX9_doReckoning_138 hd _ _ _ _ h)
            · refine zv_lload (n := 0) dX9_doReckoning_110 rfl ?_
              refine zv_l2i dX9_doReckoning_112 ?_
              refine zv_i2b dX9_doReckoning_113 ?_
              refine zv_i2l dX9_doReckoning_114 ?_
              refine zv_goto (tgt := 138) dX9_doReckoning_115 (by decide) ?_
              exact zv_fewer [] rfl (kX9_doReckoning_138 hd _ _ _ _ h)
      · refine zv_aload_n (n := 0) dX9_doReckoning_67 rfl rfl ?_
        refine zv_iconst (v := 1) dX9_doReckoning_68 (by decide) ?_
        refine zv_aload_n (n := 0) dX9_doReckoning_69 rfl rfl ?_
        refine zr_cVl (ci := 9) (st := [.int (1 : Int32), .ref l0]) dX9_doReckoning_70 mw_X9_popValue wd_1727 wd_1729 wd_79 rfl rfl [] rfl rfl (Nat.le_of_ble_eq_true rfl) (show d - 1 + 1 ≤ d by omega) h (fun o7 e8 => tX9_popValue (d := d - 1) (by omega) e8) (fun o7 e8 h => ?_)
        refine zv_l2i dX9_doReckoning_73 ?_
        refine zv_i2l dX9_doReckoning_74 ?_
        refine zr_cVv (ci := 9) (st := []) dX9_doReckoning_75 mw_X9_pushValue wd_1670 wd_1672 wd_67 rfl rfl [.int (1 : Int32), .long (Int32.toInt64 (Int64.toInt32 o7.2))] rfl rfl (Nat.le_of_ble_eq_true rfl) (show d - 1 + 1 ≤ d by omega) h (fun o9 e10 => tX9_pushValue (d := d - 1) (by omega) e10) (fun o9 e10 h => ?_)
        refine zv_goto (tgt := 352) dX9_doReckoning_78 (by decide) ?_
        exact zv_fewer [] rfl (kX9_doReckoning_352 hd _ h)
    · refine zv_aload_n (n := 0) dX9_doReckoning_48 rfl rfl ?_
      refine zv_iconst (v := 2) dX9_doReckoning_49 (by decide) ?_
      refine zv_aload_n (n := 0) dX9_doReckoning_50 rfl rfl ?_
      refine zr_cVl (ci := 9) (st := [.int (2 : Int32), .ref l0]) dX9_doReckoning_51 mw_X9_popValue wd_1727 wd_1729 wd_79 rfl rfl [] rfl rfl (Nat.le_of_ble_eq_true rfl) (show d - 1 + 1 ≤ d by omega) h (fun o12 e13 => tX9_popValue (d := d - 1) (by omega) e13) (fun o12 e13 h => ?_)
      refine zr_cVv (ci := 9) (st := []) dX9_doReckoning_54 mw_X9_pushValue wd_1670 wd_1672 wd_67 rfl rfl [.int (2 : Int32), .long o12.2] rfl rfl (Nat.le_of_ble_eq_true rfl) (show d - 1 + 1 ≤ d by omega) h (fun o14 e15 => tX9_pushValue (d := d - 1) (by omega) e15) (fun o14 e15 h => ?_)
      refine zv_goto (tgt := 352) dX9_doReckoning_57 (by decide) ?_
      exact zv_fewer [] rfl (kX9_doReckoning_352 hd _ h)
  · refine zv_aload_n (n := 0) dX9_doReckoning_7 rfl rfl ?_
    refine zr_gR dX9_doReckoning_8 fg_1446 h (fun v17 e18 h => ?_)
    refine zv_bipush (v := 16) dX9_doReckoning_11 (by decide) ?_
    refine zv_iload_n (n := 1) dX9_doReckoning_13 rfl rfl ?_
    refine zv_imul dX9_doReckoning_14 ?_
    refine zv_iload_n (n := 3) dX9_doReckoning_15 rfl rfl ?_
    refine zv_iadd dX9_doReckoning_16 ?_
    refine zv_aload_n (n := 0) dX9_doReckoning_17 rfl rfl ?_
    refine zr_gR dX9_doReckoning_18 fg_1446 h (fun v19 e20 h => ?_)
    refine zv_bipush (v := 16) dX9_doReckoning_21 (by decide) ?_
    refine zv_iload_n (n := 1) dX9_doReckoning_23 rfl rfl ?_
    refine zv_imul dX9_doReckoning_24 ?_
    refine zv_iload_n (n := 3) dX9_doReckoning_25 rfl rfl ?_
    refine zv_iadd dX9_doReckoning_26 ?_
    refine zr_aL dX9_doReckoning_27 h (fun v21 e22 h => ?_)
    refine zv_iload (n := 4) dX9_doReckoning_28 rfl ?_
    refine zr_cSi (st := [.long v21, .int (((16 : Int32) * l1) + l3), .ref v17]) dX9_doReckoning_30 mw_X9_signed wd_1647 wd_1648 [.int l4] rfl rfl (Nat.le_of_ble_eq_true rfl) (show d - 1 + 1 ≤ d by omega) h (fun o23 e24 => tX9_signed (d := d - 1) (by omega) e24) (fun o23 e24 h => ?_)
    refine zv_i2l dX9_doReckoning_33 ?_
    refine zv_ladd dX9_doReckoning_34 ?_
    refine zv_l2i dX9_doReckoning_35 ?_
    refine zv_i2l dX9_doReckoning_36 ?_
    refine zr_sL dX9_doReckoning_37 h (fun x25 e26 h => ?_)
    refine zv_goto (tgt := 352) dX9_doReckoning_38 (by decide) ?_
    exact zv_fewer [] rfl (kX9_doReckoning_352 hd _ h)
def mX9_doReckoning (N : Nat) (a0 : Nat) (a1 : Int32) (a2 : Int32) (a3 : Int32) (a4 : Int32) (x : zv_X) : Option zv_X := mX9_doReckoning_0 N a0 a1 a2 a3 a4 x
theorem tX9_doReckoning {d : Nat} (hd : 5 ≤ d) {N : Nat} {x : zv_X} {a0 : Nat} {a1 : Int32} {a2 : Int32} {a3 : Int32} {a4 : Int32} {o : zv_X} (h : mX9_doReckoning N a0 a1 a2 a3 a4 x = some o) : zv_T d yX9_doReckoning cX9_doReckoning 10 (none) [.ref a0, .int a1, .int a2, .int a3, .int a4] x o none := by
  unfold mX9_doReckoning at h
  exact zv_enter (by decide) (Nat.le_of_ble_eq_true rfl) (kX9_doReckoning_0 hd _ _ _ _ _ _ h)
