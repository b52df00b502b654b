abbrev fX8_handler (d : Nat) (x0 : zv_X) (o : (zv_X × (Int32 ⊕ String))) : zv_G := (d, RX8, cX8_handler, 5, (some .int), ("handler", []), x0, o.1, zv_finX x0 o)
def mX8_handler_16 (N : Nat)  (x : zv_X) : Option (zv_X × (Int32 ⊕ String)) := some (zv_pad x, .inr "java/lang/IllegalArgumentException")
theorem kX8_handler_16 {d : Nat} {x0 : zv_X} {o : (zv_X × (Int32 ⊕ String))} (hd : 6 ≤ d) {N : Nat}  (x : zv_X) (h : mX8_handler_16 N  x = some o) : zv_V (fX8_handler d x0 o) 16 [] [] x := by
  unfold mX8_handler_16 at h
  cases h
  exact zx_throw (text := "no such range") tw_57 (by decide) dX8_handler_16 dX8_handler_19 dX8_handler_20 dX8_handler_22 dX8_handler_25 (show 6 ≤ d by omega) (Nat.le_of_ble_eq_true rfl)
def mX8_handler_37 (N : Nat)  (x : zv_X) : Option (zv_X × (Int32 ⊕ String)) := some (zv_pad x, .inr "java/lang/IllegalArgumentException")
theorem kX8_handler_37 {d : Nat} {x0 : zv_X} {o : (zv_X × (Int32 ⊕ String))} (hd : 6 ≤ d) {N : Nat}  (x : zv_X) (h : mX8_handler_37 N  x = some o) : zv_V (fX8_handler d x0 o) 37 [] [] x := by
  unfold mX8_handler_37 at h
  cases h
  exact zx_throw (text := "no such place") tw_57 (by decide) dX8_handler_37 dX8_handler_40 dX8_handler_41 dX8_handler_43 dX8_handler_46 (show 6 ≤ d by omega) (Nat.le_of_ble_eq_true rfl)
def mX8_handler_0 (N : Nat) (l0 : Nat) (l1 : Int32) (l2 : Int32) (l3 : Int32) (l4 : Int32) (x : zv_X) : Option (zv_X × (Int32 ⊕ String)) := if l1 < 0 then (mX8_handler_16 N x) else (if l2 ≤ l1 then (mX8_handler_16 N x) else (if l2 ≤ (200 : Int32) then (if l3 < 0 then (mX8_handler_37 N x) else (if l3 ≤ (200 : Int32) then ((zm_R x l0 8 0).bind fun v1 => if zm_k x v1 7 = true then ((mX7_has N v1 l4 x).bind fun o3 => if o3.2 = 0 then (some (zv_pad o3.1, .inr "java/lang/IllegalArgumentException")) else ((zm_R o3.1 l0 8 1).bind fun v5 => (zm_I o3.1 v5 0 3).bind fun v7 => if v7 = (8 : Int32) then (some (zv_pad o3.1, .inr "java/lang/UnsupportedOperationException")) else ((zm_R o3.1 l0 8 1).bind fun v9 => if zm_k o3.1 v9 0 = true then ((mX0_appendHandler N v9 l1 l2 l3 l4 o3.1).bind fun o11 => (zm_R o11 l0 8 1).bind fun v13 => (zm_I o11 v13 0 3).bind fun v15 => some (o11, .inl v15)) else none))) else none) else (mX8_handler_37 N x))) else (mX8_handler_16 N x)))
theorem kX8_handler_0 {d : Nat} {x0 : zv_X} {o : (zv_X × (Int32 ⊕ String))} (hd : 6 ≤ d) {N : Nat} (l0 : Nat) (l1 : Int32) (l2 : Int32) (l3 : Int32) (l4 : Int32) (x : zv_X) (h : mX8_handler_0 N l0 l1 l2 l3 l4 x = some o) : zv_V (fX8_handler d x0 o) 0 [(0, .ref l0), (1, .int l1), (2, .int l2), (3, .int l3), (4, .int l4)] [] x := by
  unfold mX8_handler_0 at h
  refine zv_iload_n (n := 1) dX8_handler_0 rfl rfl ?_
  refine zr_if_lt (tgt := 16) dX8_handler_1 (by decide) h (fun c23 h => ?_) (fun c23 h => ?_)
  · exact zv_fewer [] rfl (kX8_handler_16 hd _ h)
  · refine zv_iload_n (n := 2) dX8_handler_4 rfl rfl ?_
    refine zv_iload_n (n := 1) dX8_handler_5 rfl rfl ?_
    refine zr_icmp_le (tgt := 16) dX8_handler_6 (by decide) h (fun c22 h => ?_) (fun c22 h => ?_)
    · exact zv_fewer [] rfl (kX8_handler_16 hd _ h)
    · refine zv_iload_n (n := 2) dX8_handler_9 rfl rfl ?_
      refine zv_sipush (v := 200) dX8_handler_10 (by decide) ?_
      refine zr_icmp_le (tgt := 26) dX8_handler_13 (by decide) h (fun c21 h => ?_) (fun c21 h => ?_)
      · refine zv_iload_n (n := 3) dX8_handler_26 rfl rfl ?_
        refine zr_if_lt (tgt := 37) dX8_handler_27 (by decide) h (fun c20 h => ?_) (fun c20 h => ?_)
        · exact zv_fewer [] rfl (kX8_handler_37 hd _ h)
        · refine zv_iload_n (n := 3) dX8_handler_30 rfl rfl ?_
          refine zv_sipush (v := 200) dX8_handler_31 (by decide) ?_
          refine zr_icmp_le (tgt := 47) dX8_handler_34 (by decide) h (fun c19 h => ?_) (fun c19 h => ?_)
          · refine zv_aload_n (n := 0) dX8_handler_47 rfl rfl ?_
            refine zr_gR dX8_handler_48 fg_407 h (fun v1 e2 h => ?_)
            refine zv_iload (n := 4) dX8_handler_51 rfl ?_
            refine zr_cVi (ci := 7) (st := []) dX8_handler_53 mw_X7_has wd_540 wd_541 wd_542 rfl rfl [.int l4] rfl rfl (Nat.le_of_ble_eq_true rfl) (show d - 1 + 1 ≤ d by omega) h (fun o3 e4 => tX7_has (d := d - 1) (by omega) e4) (fun o3 e4 h => ?_)
            refine zr_if_ne (tgt := 69) dX8_handler_56 (by decide) h (fun c18 h => ?_) (fun c18 h => ?_)
            · refine zv_aload_n (n := 0) dX8_handler_69 rfl rfl ?_
              refine zr_gR dX8_handler_70 fg_408 h (fun v5 e6 h => ?_)
              refine zr_gI dX8_handler_73 fg_168 h (fun v7 e8 h => ?_)
              refine zv_bipush (v := 8) dX8_handler_76 (by decide) ?_
              refine zr_icmp_ne (tgt := 91) dX8_handler_78 (by decide) h (fun c17 h => ?_) (fun c17 h => ?_)
              · refine zv_aload_n (n := 0) dX8_handler_91 rfl rfl ?_
                refine zr_gR dX8_handler_92 fg_408 h (fun v9 e10 h => ?_)
                refine zv_iload_n (n := 1) dX8_handler_95 rfl rfl ?_
                refine zv_iload_n (n := 2) dX8_handler_96 rfl rfl ?_
                refine zv_iload_n (n := 3) dX8_handler_97 rfl rfl ?_
                refine zv_iload (n := 4) dX8_handler_98 rfl ?_
                refine zr_cVv (ci := 0) (st := []) dX8_handler_100 mw_X0_appendHandler wd_577 wd_578 wd_579 rfl rfl [.int l1, .int l2, .int l3, .int l4] rfl rfl (Nat.le_of_ble_eq_true rfl) (show d - 1 + 1 ≤ d by omega) h (fun o11 e12 => tX0_appendHandler (d := d - 1) (by omega) e12) (fun o11 e12 h => ?_)
                refine zv_aload_n (n := 0) dX8_handler_103 rfl rfl ?_
                refine zr_gR dX8_handler_104 fg_408 h (fun v13 e14 h => ?_)
                refine zr_gI dX8_handler_107 fg_168 h (fun v15 e16 h => ?_)
                cases h
                exact zx_iret dX8_handler_110 rfl
              · cases h
                exact zx_throw (text := "there are 8 handlers") tw_68 (by decide) dX8_handler_81 dX8_handler_84 dX8_handler_85 dX8_handler_87 dX8_handler_90 (show 6 ≤ d by omega) (Nat.le_of_ble_eq_true rfl)
            · cases h
              exact zx_throw (text := "no such class") tw_57 (by decide) dX8_handler_59 dX8_handler_62 dX8_handler_63 dX8_handler_65 dX8_handler_68 (show 6 ≤ d by omega) (Nat.le_of_ble_eq_true rfl)
          · exact zv_fewer [] rfl (kX8_handler_37 hd _ h)
      · exact zv_fewer [] rfl (kX8_handler_16 hd _ h)
def mX8_handler (N : Nat) (a0 : Nat) (a1 : Int32) (a2 : Int32) (a3 : Int32) (a4 : Int32) (x : zv_X) : Option (zv_X × (Int32 ⊕ String)) := mX8_handler_0 N a0 a1 a2 a3 a4 x
theorem tX8_handler {d : Nat} (hd : 6 ≤ d) {N : Nat} {x : zv_X} {a0 : Nat} {a1 : Int32} {a2 : Int32} {a3 : Int32} {a4 : Int32} {o : (zv_X × (Int32 ⊕ String))} (h : mX8_handler N a0 a1 a2 a3 a4 x = some o) : zv_TX d yX8_handler cX8_handler 5 ((some .int)) [.ref a0, .int a1, .int a2, .int a3, .int a4] x o := by
  unfold mX8_handler at h
  exact zx_enter (by decide) (Nat.le_of_ble_eq_true rfl) (kX8_handler_0 hd _ _ _ _ _ _ h)

abbrev fJ7_copyOf_6403c (d : Nat) (x0 : zv_X) (o : (zv_X × Nat)) : zv_G := (d, RJ7, cJ7_copyOf_6403c, 4, (some (.array (.object "java/lang/Object"))), ("copyOf", []), x0, o.1, zv_fin x0 o.1 (some (.ref o.2)))
def mJ7_copyOf_6403c_0 (N : Nat) (l0 : Nat) (l1 : Int32) (l2 : Nat) (x : zv_X) : Option (zv_X × Nat) := if l2 = x.2.2.2.2 then ((zm_nR 4 x l1).bind fun x1 => (zm_n x1 l0).bind fun v3 => (zm_cp x1 l0 (0 : Int32) x.2.1 (0 : Int32) (zm_min v3 l1)).bind fun x5 => some (x5, x.2.1)) else (none)
theorem kJ7_copyOf_6403c_0 {d : Nat} {x0 : zv_X} {o : (zv_X × Nat)} (hd : 1 ≤ d) {N : Nat} (l0 : Nat) (l1 : Int32) (l2 : Nat) (x : zv_X) (h : mJ7_copyOf_6403c_0 N l0 l1 l2 x = some o) : zv_V (fJ7_copyOf_6403c d x0 o) 0 [(0, .ref l0), (1, .int l1), (2, .ref l2)] [] x := by
  unfold mJ7_copyOf_6403c_0 at h
  refine zv_aload_n (n := 2) dJ7_copyOf_6403c_0 rfl rfl ?_
  refine zv_ldcM dJ7_copyOf_6403c_1 wd_825 ?_
  refine zr_acmp_ne (tgt := 13) dJ7_copyOf_6403c_3 (by decide) h (fun c7 h => ?_) (fun c7 h => ?_)
  · refine zv_aload_n (n := 2) dJ7_copyOf_6403c_13 rfl rfl ?_
    cases h
  · refine zv_iload_n (n := 1) dJ7_copyOf_6403c_6 rfl rfl ?_
    refine zr_nR dJ7_copyOf_6403c_7 wd_827 (Or.inl ⟨rfl, rfl⟩) h (fun x1 e2 h => ?_)
    refine zv_goto (tgt := 24) dJ7_copyOf_6403c_10 (by decide) ?_
    refine zv_astore_n (L' := [(3, .ref x.2.1), (0, .ref l0), (1, .int l1), (2, .ref l2)]) dJ7_copyOf_6403c_24 rfl (Nat.le_of_ble_eq_true rfl) rfl ?_
    refine zv_aload_n (n := 1) dJ7_copyOf_6403c_25 rfl rfl ?_
    refine zv_iconst (v := 0) dJ7_copyOf_6403c_26 (by decide) ?_
    refine zv_aload_n (n := 0) dJ7_copyOf_6403c_27 rfl rfl ?_
    refine zv_iconst (v := 0) dJ7_copyOf_6403c_28 (by decide) ?_
    refine zv_aload_n (n := 1) dJ7_copyOf_6403c_29 rfl rfl ?_
    refine zr_n dJ7_copyOf_6403c_30 h (fun v3 e4 h => ?_)
    refine zv_iload_n (n := 2) dJ7_copyOf_6403c_31 rfl rfl ?_
    refine zv_min dJ7_copyOf_6403c_32 wd_613 wd_252 wd_99 wd_253 (show 1 ≤ d by omega) (Nat.le_of_ble_eq_true rfl) ?_
    refine zr_cp dJ7_copyOf_6403c_35 wd_614 wd_616 wd_615 wd_111 (show 1 ≤ d by omega) (Nat.le_of_ble_eq_true rfl) h (fun x5 e6 h => ?_)
    refine zv_aload_n (n := 0) dJ7_copyOf_6403c_38 rfl rfl ?_
    cases h
    exact zv_aret dJ7_copyOf_6403c_39 rfl (Or.inr ⟨_, rfl⟩)
def mJ7_copyOf_6403c (N : Nat) (a0 : Nat) (a1 : Int32) (a2 : Nat) (x : zv_X) : Option (zv_X × Nat) := mJ7_copyOf_6403c_0 N a0 a1 a2 x
theorem tJ7_copyOf_6403c {d : Nat} (hd : 1 ≤ d) {N : Nat} {x : zv_X} {a0 : Nat} {a1 : Int32} {a2 : Nat} {o : (zv_X × Nat)} (h : mJ7_copyOf_6403c N a0 a1 a2 x = some o) : zv_T d yJ7_copyOf_6403c cJ7_copyOf_6403c 4 ((some (.array (.object "java/lang/Object")))) [.ref a0, .int a1, .ref a2] x o.1 (some (.ref o.2)) := by
  unfold mJ7_copyOf_6403c at h
  exact zv_enter (by decide) (Nat.le_of_ble_eq_true rfl) (kJ7_copyOf_6403c_0 hd _ _ _ _ h)

abbrev fJ7_copyOf_1904c (d : Nat) (x0 : zv_X) (o : (zv_X × Nat)) : zv_G := (d, RJ7, cJ7_copyOf_1904c, 2, (some (.array (.object "java/lang/Object"))), ("copyOf", []), x0, o.1, zv_fin x0 o.1 (some (.ref o.2)))
def mJ7_copyOf_1904c_0 (N : Nat) (l0 : Nat) (l1 : Int32) (x : zv_X) : Option (zv_X × Nat) := if zm_kq x l0 = true then ((mJ7_copyOf_6403c N l0 l1 x.2.2.2.2 x).bind fun o1 => some (o1.1, o1.2)) else none
theorem kJ7_copyOf_1904c_0 {d : Nat} {x0 : zv_X} {o : (zv_X × Nat)} (hd : 2 ≤ d) {N : Nat} (l0 : Nat) (l1 : Int32) (x : zv_X) (h : mJ7_copyOf_1904c_0 N l0 l1 x = some o) : zv_V (fJ7_copyOf_1904c d x0 o) 0 [(0, .ref l0), (1, .int l1)] [] x := by
  unfold mJ7_copyOf_1904c_0 at h
  refine zv_aload_n (n := 0) dJ7_copyOf_1904c_0 rfl rfl ?_
  refine zv_iload_n (n := 1) dJ7_copyOf_1904c_1 rfl rfl ?_
  refine zv_aload_n (n := 0) dJ7_copyOf_1904c_2 rfl rfl ?_
  refine zr_getC dJ7_copyOf_1904c_3 wd_802 wd_1806 wd_803 wd_821 (show 1 ≤ d by omega) (Nat.le_of_ble_eq_true rfl) h (fun h => ?_)
  refine zr_cSr (st := []) dJ7_copyOf_1904c_6 mw_J7_copyOf_6403c wd_822 wd_823 [.ref l0, .int l1, .ref x.2.2.2.2] rfl rfl (Nat.le_of_ble_eq_true rfl) (show d - 1 + 1 ≤ d by omega) h (fun o1 e2 => tJ7_copyOf_6403c (d := d - 1) (by omega) e2) (fun o1 e2 h => ?_)
  cases h
  exact zv_aret dJ7_copyOf_1904c_9 rfl (Or.inr ⟨_, rfl⟩)
def mJ7_copyOf_1904c (N : Nat) (a0 : Nat) (a1 : Int32) (x : zv_X) : Option (zv_X × Nat) := mJ7_copyOf_1904c_0 N a0 a1 x
theorem tJ7_copyOf_1904c {d : Nat} (hd : 2 ≤ d) {N : Nat} {x : zv_X} {a0 : Nat} {a1 : Int32} {o : (zv_X × Nat)} (h : mJ7_copyOf_1904c N a0 a1 x = some o) : zv_T d yJ7_copyOf_1904c cJ7_copyOf_1904c 2 ((some (.array (.object "java/lang/Object")))) [.ref a0, .int a1] x o.1 (some (.ref o.2)) := by
  unfold mJ7_copyOf_1904c at h
  exact zv_enter (by decide) (Nat.le_of_ble_eq_true rfl) (kJ7_copyOf_1904c_0 hd _ _ _ h)

abbrev fJ8_hugeLength_7cf53 (d : Nat) (x0 : zv_X) (o : (zv_X × Int32)) : zv_G := (d, RJ8, cJ8_hugeLength_7cf53, 3, (some .int), ("hugeLength", []), x0, o.1, zv_fin x0 o.1 (some (.int o.2)))
def mJ8_hugeLength_7cf53_0 (N : Nat) (l0 : Int32) (l1 : Int32) (x : zv_X) : Option (zv_X × Int32) := if 0 ≤ (l0 + l1) then (if (2147483639 : Int32) < (l0 + l1) then (some (x, l0 + l1)) else (some (x, (2147483639 : Int32)))) else (none)
theorem kJ8_hugeLength_7cf53_0 {d : Nat} {x0 : zv_X} {o : (zv_X × Int32)} (hd : 0 ≤ d) {N : Nat} (l0 : Int32) (l1 : Int32) (x : zv_X) (h : mJ8_hugeLength_7cf53_0 N l0 l1 x = some o) : zv_V (fJ8_hugeLength_7cf53 d x0 o) 0 [(0, .int l0), (1, .int l1)] [] x := by
  unfold mJ8_hugeLength_7cf53_0 at h
  refine zv_iload_n (n := 0) dJ8_hugeLength_7cf53_0 rfl rfl ?_
  refine zv_iload_n (n := 1) dJ8_hugeLength_7cf53_1 rfl rfl ?_
  refine zv_iadd dJ8_hugeLength_7cf53_2 ?_
  refine zv_istore_n (L' := [(2, .int (l0 + l1)), (0, .int l0), (1, .int l1)]) dJ8_hugeLength_7cf53_3 rfl (Nat.le_of_ble_eq_true rfl) rfl ?_
  refine zv_iload_n (n := 0) dJ8_hugeLength_7cf53_4 rfl rfl ?_
  refine zr_if_ge (tgt := 49) dJ8_hugeLength_7cf53_5 (by decide) h (fun c2 h => ?_) (fun c2 h => ?_)
  · refine zv_iload_n (n := 0) dJ8_hugeLength_7cf53_49 rfl rfl ?_
    refine zv_ldc dJ8_hugeLength_7cf53_50 wd_795 ?_
    refine zr_icmp_gt (tgt := 58) dJ8_hugeLength_7cf53_52 (by decide) h (fun c1 h => ?_) (fun c1 h => ?_)
    · refine zv_iload_n (n := 0) dJ8_hugeLength_7cf53_58 rfl rfl ?_
      cases h
      exact zv_iret dJ8_hugeLength_7cf53_59 rfl
    · refine zv_ldc dJ8_hugeLength_7cf53_55 wd_795 ?_
      cases h
      exact zv_iret dJ8_hugeLength_7cf53_57 rfl
  · cases h
def mJ8_hugeLength_7cf53 (N : Nat) (a0 : Int32) (a1 : Int32) (x : zv_X) : Option (zv_X × Int32) := mJ8_hugeLength_7cf53_0 N a0 a1 x
theorem tJ8_hugeLength_7cf53 {d : Nat} (hd : 0 ≤ d) {N : Nat} {x : zv_X} {a0 : Int32} {a1 : Int32} {o : (zv_X × Int32)} (h : mJ8_hugeLength_7cf53 N a0 a1 x = some o) : zv_T d yJ8_hugeLength_7cf53 cJ8_hugeLength_7cf53 3 ((some .int)) [.int a0, .int a1] x o.1 (some (.int o.2)) := by
  unfold mJ8_hugeLength_7cf53 at h
  exact zv_enter (by decide) (Nat.le_of_ble_eq_true rfl) (kJ8_hugeLength_7cf53_0 hd _ _ _ h)

abbrev fJ8_newLength_cabcc (d : Nat) (x0 : zv_X) (o : (zv_X × Int32)) : zv_G := (d, RJ8, cJ8_newLength_cabcc, 4, (some .int), ("newLength", []), x0, o.1, zv_fin x0 o.1 (some (.int o.2)))
def mJ8_newLength_cabcc_21 (N : Nat) (l0 : Int32) (l1 : Int32) (x : zv_X) : Option (zv_X × Int32) := (mJ8_hugeLength_7cf53 N l0 l1 x).bind fun o1 => some (o1.1, o1.2)
theorem kJ8_newLength_cabcc_21 {d : Nat} {x0 : zv_X} {o : (zv_X × Int32)} (hd : 1 ≤ d) {N : Nat} (l0 : Int32) (l1 : Int32) (x : zv_X) (h : mJ8_newLength_cabcc_21 N l0 l1 x = some o) : zv_V (fJ8_newLength_cabcc d x0 o) 21 [(0, .int l0), (1, .int l1)] [] x := by
  unfold mJ8_newLength_cabcc_21 at h
  refine zv_iload_n (n := 0) dJ8_newLength_cabcc_21 rfl rfl ?_
  refine zv_iload_n (n := 1) dJ8_newLength_cabcc_22 rfl rfl ?_
  refine zr_cSi (st := []) dJ8_newLength_cabcc_23 mw_J8_hugeLength_7cf53 wd_796 wd_797 [.int l0, .int l1] rfl rfl (Nat.le_of_ble_eq_true rfl) (show d - 1 + 1 ≤ d by omega) h (fun o1 e2 => tJ8_hugeLength_7cf53 (d := d - 1) (by omega) e2) (fun o1 e2 h => ?_)
  cases h
  exact zv_iret dJ8_newLength_cabcc_26 rfl
def mJ8_newLength_cabcc_0 (N : Nat) (l0 : Int32) (l1 : Int32) (l2 : Int32) (x : zv_X) : Option (zv_X × Int32) := if (l0 + (zm_max l1 l2)) ≤ (0 : Int32) then (mJ8_newLength_cabcc_21 N l0 l1 x) else (if (2147483639 : Int32) < (l0 + (zm_max l1 l2)) then (mJ8_newLength_cabcc_21 N l0 l1 x) else (some (x, l0 + (zm_max l1 l2))))
theorem kJ8_newLength_cabcc_0 {d : Nat} {x0 : zv_X} {o : (zv_X × Int32)} (hd : 1 ≤ d) {N : Nat} (l0 : Int32) (l1 : Int32) (l2 : Int32) (x : zv_X) (h : mJ8_newLength_cabcc_0 N l0 l1 l2 x = some o) : zv_V (fJ8_newLength_cabcc d x0 o) 0 [(0, .int l0), (1, .int l1), (2, .int l2)] [] x := by
  unfold mJ8_newLength_cabcc_0 at h
  refine zv_iload_n (n := 0) dJ8_newLength_cabcc_0 rfl rfl ?_
  refine zv_iload_n (n := 1) dJ8_newLength_cabcc_1 rfl rfl ?_
  refine zv_iload_n (n := 2) dJ8_newLength_cabcc_2 rfl rfl ?_
  refine zv_max dJ8_newLength_cabcc_3 wd_794 wd_255 wd_99 wd_256 (show 1 ≤ d by omega) (Nat.le_of_ble_eq_true rfl) ?_
  refine zv_iadd dJ8_newLength_cabcc_6 ?_
  refine zv_istore_n (L' := [(3, .int (l0 + (zm_max l1 l2))), (0, .int l0), (1, .int l1), (2, .int l2)]) dJ8_newLength_cabcc_7 rfl (Nat.le_of_ble_eq_true rfl) rfl ?_
  refine zv_iconst (v := 0) dJ8_newLength_cabcc_8 (by decide) ?_
  refine zv_iload_n (n := 0) dJ8_newLength_cabcc_9 rfl rfl ?_
  refine zr_icmp_ge (tgt := 21) dJ8_newLength_cabcc_10 (by decide) h (fun c2 h => ?_) (fun c2 h => ?_)
  · exact zv_fewer [1, 2] rfl (kJ8_newLength_cabcc_21 hd _ _ _ h)
  · refine zv_iload_n (n := 0) dJ8_newLength_cabcc_13 rfl rfl ?_
    refine zv_ldc dJ8_newLength_cabcc_14 wd_795 ?_
    refine zr_icmp_gt (tgt := 21) dJ8_newLength_cabcc_16 (by decide) h (fun c1 h => ?_) (fun c1 h => ?_)
    · exact zv_fewer [1, 2] rfl (kJ8_newLength_cabcc_21 hd _ _ _ h)
    · refine zv_iload_n (n := 0) dJ8_newLength_cabcc_19 rfl rfl ?_
      cases h
      exact zv_iret dJ8_newLength_cabcc_20 rfl
def mJ8_newLength_cabcc (N : Nat) (a0 : Int32) (a1 : Int32) (a2 : Int32) (x : zv_X) : Option (zv_X × Int32) := mJ8_newLength_cabcc_0 N a0 a1 a2 x
theorem tJ8_newLength_cabcc {d : Nat} (hd : 1 ≤ d) {N : Nat} {x : zv_X} {a0 : Int32} {a1 : Int32} {a2 : Int32} {o : (zv_X × Int32)} (h : mJ8_newLength_cabcc N a0 a1 a2 x = some o) : zv_T d yJ8_newLength_cabcc cJ8_newLength_cabcc 4 ((some .int)) [.int a0, .int a1, .int a2] x o.1 (some (.int o.2)) := by
  unfold mJ8_newLength_cabcc at h
  exact zv_enter (by decide) (Nat.le_of_ble_eq_true rfl) (kJ8_newLength_cabcc_0 hd _ _ _ _ h)

abbrev fJx4a65c_grow_92f84 (d : Nat) (x0 : zv_X) (o : (zv_X × Nat)) : zv_G := (d, RJx4a65c, cJx4a65c_grow_92f84, 4, (some (.array (.object "java/lang/Object"))), ("grow", []), x0, o.1, zv_fin x0 o.1 (some (.ref o.2)))
def mJx4a65c_grow_92f84_20 (N : Nat) (l0 : Nat) (l1 : Int32) (l2 : Int32) (x : zv_X) : Option (zv_X × Nat) := (mJ8_newLength_cabcc N l2 (l1 - l2) (l2 >>> ((1 : Int32) &&& 31)) x).bind fun o1 => (zm_R o1.1 l0 5 1).bind fun v3 => (mJ7_copyOf_1904c N v3 o1.2 o1.1).bind fun o5 => (zm_p o5.1 l0 5 1 (.ref o5.2)).bind fun x7 => some (x7, o5.2)
theorem kJx4a65c_grow_92f84_20 {d : Nat} {x0 : zv_X} {o : (zv_X × Nat)} (hd : 3 ≤ d) {N : Nat} (l0 : Nat) (l1 : Int32) (l2 : Int32) (x : zv_X) (h : mJx4a65c_grow_92f84_20 N l0 l1 l2 x = some o) : zv_V (fJx4a65c_grow_92f84 d x0 o) 20 [(0, .ref l0), (1, .int l1), (2, .int l2)] [] x := by
  unfold mJx4a65c_grow_92f84_20 at h
  refine zv_iload_n (n := 2) dJx4a65c_grow_92f84_20 rfl rfl ?_
  refine zv_iload_n (n := 1) dJx4a65c_grow_92f84_21 rfl rfl ?_
  refine zv_iload_n (n := 2) dJx4a65c_grow_92f84_22 rfl rfl ?_
  refine zv_isub dJx4a65c_grow_92f84_23 ?_
  refine zv_iload_n (n := 2) dJx4a65c_grow_92f84_24 rfl rfl ?_
  refine zv_iconst (v := 1) dJx4a65c_grow_92f84_25 (by decide) ?_
  refine zv_ishr dJx4a65c_grow_92f84_26 ?_
  refine zr_cSi (st := []) dJx4a65c_grow_92f84_27 mw_J8_newLength_cabcc wd_791 wd_792 [.int l2, .int (l1 - l2), .int (l2 >>> ((1 : Int32) &&& 31))] rfl rfl (Nat.le_of_ble_eq_true rfl) (show d - 1 + 1 ≤ d by omega) h (fun o1 e2 => tJ8_newLength_cabcc (d := d - 1) (by omega) e2) (fun o1 e2 h => ?_)
  refine zv_istore_n (L' := [(3, .int o1.2), (0, .ref l0), (1, .int l1), (2, .int l2)]) dJx4a65c_grow_92f84_30 rfl (Nat.le_of_ble_eq_true rfl) rfl ?_
  refine zv_aload_n (n := 1) dJx4a65c_grow_92f84_31 rfl rfl ?_
  refine zv_aload_n (n := 1) dJx4a65c_grow_92f84_32 rfl rfl ?_
  refine zr_gR dJx4a65c_grow_92f84_33 fg_193 h (fun v3 e4 h => ?_)
  refine zv_iload_n (n := 0) dJx4a65c_grow_92f84_36 rfl rfl ?_
  refine zr_cSr (st := [.ref l0]) dJx4a65c_grow_92f84_37 mw_J7_copyOf_1904c wd_799 wd_800 [.ref v3, .int o1.2] rfl rfl (Nat.le_of_ble_eq_true rfl) (show d - 1 + 1 ≤ d by omega) h (fun o5 e6 => tJ7_copyOf_1904c (d := d - 1) (by omega) e6) (fun o5 e6 h => ?_)
  refine zv_dup_x1 dJx4a65c_grow_92f84_40 rfl rfl ?_
  refine zr_p dJx4a65c_grow_92f84_41 fl_193 (fun q => nomatch q) rfl rfl h (fun x7 e8 h => ?_)
  cases h
  exact zv_aret dJx4a65c_grow_92f84_44 rfl (Or.inr ⟨_, rfl⟩)
def mJx4a65c_grow_92f84_0 (N : Nat) (l0 : Nat) (l1 : Int32) (x : zv_X) : Option (zv_X × Nat) := (zm_R x l0 5 1).bind fun v1 => (zm_n x v1).bind fun v3 => if 0 < v3 then (mJx4a65c_grow_92f84_20 N l0 l1 v3 x) else ((zm_R x l0 5 1).bind fun v5 => if v5 = x.2.2.2.1 then ((zm_nR 4 x (zm_max (10 : Int32) l1)).bind fun x7 => (zm_p x7 l0 5 1 (.ref x.2.1)).bind fun x9 => some (x9, x.2.1)) else (mJx4a65c_grow_92f84_20 N l0 l1 v3 x))
theorem kJx4a65c_grow_92f84_0 {d : Nat} {x0 : zv_X} {o : (zv_X × Nat)} (hd : 3 ≤ d) {N : Nat} (l0 : Nat) (l1 : Int32) (x : zv_X) (h : mJx4a65c_grow_92f84_0 N l0 l1 x = some o) : zv_V (fJx4a65c_grow_92f84 d x0 o) 0 [(0, .ref l0), (1, .int l1)] [] x := by
  unfold mJx4a65c_grow_92f84_0 at h
  refine zv_aload_n (n := 0) dJx4a65c_grow_92f84_0 rfl rfl ?_
  refine zr_gR dJx4a65c_grow_92f84_1 fg_193 h (fun v1 e2 h => ?_)
  refine zr_n dJx4a65c_grow_92f84_4 h (fun v3 e4 h => ?_)
  refine zv_istore_n (L' := [(2, .int v3), (0, .ref l0), (1, .int l1)]) dJx4a65c_grow_92f84_5 rfl (Nat.le_of_ble_eq_true rfl) rfl ?_
  refine zv_iload_n (n := 0) dJx4a65c_grow_92f84_6 rfl rfl ?_
  refine zr_if_gt (tgt := 20) dJx4a65c_grow_92f84_7 (by decide) h (fun c12 h => ?_) (fun c12 h => ?_)
  · exact zv_fewer [1, 2, 0] rfl (kJx4a65c_grow_92f84_20 hd _ _ _ _ h)
  · refine zv_aload_n (n := 1) dJx4a65c_grow_92f84_10 rfl rfl ?_
    refine zr_gR dJx4a65c_grow_92f84_11 fg_193 h (fun v5 e6 h => ?_)
    refine zv_gets dJx4a65c_grow_92f84_14 wd_191 ?_
    refine zr_acmp_eq (tgt := 45) dJx4a65c_grow_92f84_17 (by decide) h (fun c11 h => ?_) (fun c11 h => ?_)
    · refine zv_aload_n (n := 1) dJx4a65c_grow_92f84_45 rfl rfl ?_
      refine zv_bipush (v := 10) dJx4a65c_grow_92f84_46 (by decide) ?_
      refine zv_iload_n (n := 2) dJx4a65c_grow_92f84_48 rfl rfl ?_
      refine zv_max dJx4a65c_grow_92f84_49 wd_828 wd_255 wd_99 wd_256 (show 1 ≤ d by omega) (Nat.le_of_ble_eq_true rfl) ?_
      refine zr_nR dJx4a65c_grow_92f84_52 wd_829 (Or.inl ⟨rfl, rfl⟩) h (fun x7 e8 h => ?_)
      refine zv_dup_x1 dJx4a65c_grow_92f84_55 rfl rfl ?_
      refine zr_p dJx4a65c_grow_92f84_56 fl_193 (fun q => nomatch q) rfl rfl h (fun x9 e10 h => ?_)
      cases h
      exact zv_aret dJx4a65c_grow_92f84_59 rfl (Or.inr ⟨_, rfl⟩)
    · exact zv_fewer [1, 2, 0] rfl (kJx4a65c_grow_92f84_20 hd _ _ _ _ h)
def mJx4a65c_grow_92f84 (N : Nat) (a0 : Nat) (a1 : Int32) (x : zv_X) : Option (zv_X × Nat) := mJx4a65c_grow_92f84_0 N a0 a1 x
theorem tJx4a65c_grow_92f84 {d : Nat} (hd : 3 ≤ d) {N : Nat} {x : zv_X} {a0 : Nat} {a1 : Int32} {o : (zv_X × Nat)} (h : mJx4a65c_grow_92f84 N a0 a1 x = some o) : zv_T d yJx4a65c_grow_92f84 cJx4a65c_grow_92f84 4 ((some (.array (.object "java/lang/Object")))) [.ref a0, .int a1] x o.1 (some (.ref o.2)) := by
  unfold mJx4a65c_grow_92f84 at h
  exact zv_enter (by decide) (Nat.le_of_ble_eq_true rfl) (kJx4a65c_grow_92f84_0 hd _ _ _ h)

abbrev fJx4a65c_grow_d5877 (d : Nat) (x0 : zv_X) (o : (zv_X × Nat)) : zv_G := (d, RJx4a65c, cJx4a65c_grow_d5877, 1, (some (.array (.object "java/lang/Object"))), ("grow", []), x0, o.1, zv_fin x0 o.1 (some (.ref o.2)))
def mJx4a65c_grow_d5877_0 (N : Nat) (l0 : Nat) (x : zv_X) : Option (zv_X × Nat) := (zm_I x l0 5 2).bind fun v1 => if zm_k x l0 5 = true then ((mJx4a65c_grow_92f84 N l0 (v1 + (1 : Int32)) x).bind fun o3 => some (o3.1, o3.2)) else none
theorem kJx4a65c_grow_d5877_0 {d : Nat} {x0 : zv_X} {o : (zv_X × Nat)} (hd : 4 ≤ d) {N : Nat} (l0 : Nat) (x : zv_X) (h : mJx4a65c_grow_d5877_0 N l0 x = some o) : zv_V (fJx4a65c_grow_d5877 d x0 o) 0 [(0, .ref l0)] [] x := by
  unfold mJx4a65c_grow_d5877_0 at h
  refine zv_aload_n (n := 0) dJx4a65c_grow_d5877_0 rfl rfl ?_
  refine zv_aload_n (n := 0) dJx4a65c_grow_d5877_1 rfl rfl ?_
  refine zr_gI dJx4a65c_grow_d5877_2 fg_194 h (fun v1 e2 h => ?_)
  refine zv_iconst (v := 1) dJx4a65c_grow_d5877_5 (by decide) ?_
  refine zv_iadd dJx4a65c_grow_d5877_6 ?_
  refine zr_cVr (ci := 5) (st := []) dJx4a65c_grow_d5877_7 mw_Jx4a65c_grow_92f84 wd_787 wd_789 wd_18 rfl rfl [.int (v1 + (1 : Int32))] rfl rfl (Nat.le_of_ble_eq_true rfl) (show d - 1 + 1 ≤ d by omega) h (fun o3 e4 => tJx4a65c_grow_92f84 (d := d - 1) (by omega) e4) (fun o3 e4 h => ?_)
  cases h
  exact zv_aret dJx4a65c_grow_d5877_10 rfl (Or.inr ⟨_, rfl⟩)
def mJx4a65c_grow_d5877 (N : Nat) (a0 : Nat) (x : zv_X) : Option (zv_X × Nat) := mJx4a65c_grow_d5877_0 N a0 x
theorem tJx4a65c_grow_d5877 {d : Nat} (hd : 4 ≤ d) {N : Nat} {x : zv_X} {a0 : Nat} {o : (zv_X × Nat)} (h : mJx4a65c_grow_d5877 N a0 x = some o) : zv_T d yJx4a65c_grow_d5877 cJx4a65c_grow_d5877 1 ((some (.array (.object "java/lang/Object")))) [.ref a0] x o.1 (some (.ref o.2)) := by
  unfold mJx4a65c_grow_d5877 at h
  exact zv_enter (by decide) (Nat.le_of_ble_eq_true rfl) (kJx4a65c_grow_d5877_0 hd _ _ h)

abbrev fJx4a65c_add_72be8 (d : Nat) (x0 : zv_X) (o : zv_X) : zv_G := (d, RJx4a65c, cJx4a65c_add_72be8, 4, none, ("add", []), x0, o, zv_fin x0 o none)
def mJx4a65c_add_72be8_11 (N : Nat) (l0 : Nat) (l1 : Nat) (l2 : Nat) (l3 : Int32) (x : zv_X) : Option zv_X := (zm_sR x l2 l3 l1).bind fun x1 => (zm_p x1 l0 5 2 (.int (l3 + (1 : Int32)))).bind fun x3 => some x3
theorem kJx4a65c_add_72be8_11 {d : Nat} {x0 : zv_X} {o : zv_X} (hd : 5 ≤ d) {N : Nat} (l0 : Nat) (l1 : Nat) (l2 : Nat) (l3 : Int32) (x : zv_X) (h : mJx4a65c_add_72be8_11 N l0 l1 l2 l3 x = some o) : zv_V (fJx4a65c_add_72be8 d x0 o) 11 [(0, .ref l0), (1, .ref l1), (2, .ref l2), (3, .int l3)] [] x := by
  unfold mJx4a65c_add_72be8_11 at h
  refine zv_aload_n (n := 2) dJx4a65c_add_72be8_11 rfl rfl ?_
  refine zv_iload_n (n := 3) dJx4a65c_add_72be8_12 rfl rfl ?_
  refine zv_aload_n (n := 1) dJx4a65c_add_72be8_13 rfl rfl ?_
  refine zr_sR dJx4a65c_add_72be8_14 h (fun x1 e2 h => ?_)
  refine zv_aload_n (n := 0) dJx4a65c_add_72be8_15 rfl rfl ?_
  refine zv_iload_n (n := 3) dJx4a65c_add_72be8_16 rfl rfl ?_
  refine zv_iconst (v := 1) dJx4a65c_add_72be8_17 (by decide) ?_
  refine zv_iadd dJx4a65c_add_72be8_18 ?_
  refine zr_p dJx4a65c_add_72be8_19 fl_194 (fun q => nomatch q) rfl rfl h (fun x3 e4 h => ?_)
  cases h
  exact zv_vret dJx4a65c_add_72be8_22 rfl
def mJx4a65c_add_72be8_0 (N : Nat) (l0 : Nat) (l1 : Nat) (l2 : Nat) (l3 : Int32) (x : zv_X) : Option zv_X := (zm_n x l2).bind fun v1 => if l3 = v1 then (if zm_k x l0 5 = true then ((mJx4a65c_grow_d5877 N l0 x).bind fun o3 => mJx4a65c_add_72be8_11 N l0 l1 o3.2 l3 o3.1) else none) else (mJx4a65c_add_72be8_11 N l0 l1 l2 l3 x)
theorem kJx4a65c_add_72be8_0 {d : Nat} {x0 : zv_X} {o : zv_X} (hd : 5 ≤ d) {N : Nat} (l0 : Nat) (l1 : Nat) (l2 : Nat) (l3 : Int32) (x : zv_X) (h : mJx4a65c_add_72be8_0 N l0 l1 l2 l3 x = some o) : zv_V (fJx4a65c_add_72be8 d x0 o) 0 [(0, .ref l0), (1, .ref l1), (2, .ref l2), (3, .int l3)] [] x := by
  unfold mJx4a65c_add_72be8_0 at h
  refine zv_iload_n (n := 3) dJx4a65c_add_72be8_0 rfl rfl ?_
  refine zv_aload_n (n := 2) dJx4a65c_add_72be8_1 rfl rfl ?_
  refine zr_n dJx4a65c_add_72be8_2 h (fun v1 e2 h => ?_)
  refine zr_icmp_ne (tgt := 11) dJx4a65c_add_72be8_3 (by decide) h (fun c5 h => ?_) (fun c5 h => ?_)
  · exact kJx4a65c_add_72be8_11 hd _ _ _ _ _ h
  · refine zv_aload_n (n := 0) dJx4a65c_add_72be8_6 rfl rfl ?_
    refine zr_cVr (ci := 5) (st := []) dJx4a65c_add_72be8_7 mw_Jx4a65c_grow_d5877 wd_783 wd_785 wd_17 rfl rfl [] rfl rfl (Nat.le_of_ble_eq_true rfl) (show d - 1 + 1 ≤ d by omega) h (fun o3 e4 => tJx4a65c_grow_d5877 (d := d - 1) (by omega) e4) (fun o3 e4 h => ?_)
    refine zv_astore_n (L' := [(2, .ref o3.2), (0, .ref l0), (1, .ref l1), (3, .int l3)]) dJx4a65c_add_72be8_10 rfl (Nat.le_of_ble_eq_true rfl) rfl ?_
    exact zv_fewer [1, 2, 0, 3] rfl (kJx4a65c_add_72be8_11 hd _ _ _ _ _ h)
def mJx4a65c_add_72be8 (N : Nat) (a0 : Nat) (a1 : Nat) (a2 : Nat) (a3 : Int32) (x : zv_X) : Option zv_X := mJx4a65c_add_72be8_0 N a0 a1 a2 a3 x
theorem tJx4a65c_add_72be8 {d : Nat} (hd : 5 ≤ d) {N : Nat} {x : zv_X} {a0 : Nat} {a1 : Nat} {a2 : Nat} {a3 : Int32} {o : zv_X} (h : mJx4a65c_add_72be8 N a0 a1 a2 a3 x = some o) : zv_T d yJx4a65c_add_72be8 cJx4a65c_add_72be8 4 (none) [.ref a0, .ref a1, .ref a2, .int a3] x o none := by
  unfold mJx4a65c_add_72be8 at h
  exact zv_enter (by decide) (Nat.le_of_ble_eq_true rfl) (kJx4a65c_add_72be8_0 hd _ _ _ _ _ h)

abbrev fJx4a65c_add_9ea2d (d : Nat) (x0 : zv_X) (o : (zv_X × Int32)) : zv_G := (d, RJx4a65c, cJx4a65c_add_9ea2d, 2, (some .boolean), ("add", []), x0, o.1, zv_fin x0 o.1 (some (.int o.2)))
def mJx4a65c_add_9ea2d_0 (N : Nat) (l0 : Nat) (l1 : Nat) (x : zv_X) : Option (zv_X × Int32) := (zm_I x l0 5 0).bind fun v1 => (zm_p x l0 5 0 (.int (v1 + (1 : Int32)))).bind fun x3 => (zm_R x3 l0 5 1).bind fun v5 => (zm_I x3 l0 5 2).bind fun v7 => if zm_k x3 l0 5 = true then ((mJx4a65c_add_72be8 N l0 l1 v5 v7 x3).bind fun o9 => some (o9, (1 : Int32))) else none
theorem kJx4a65c_add_9ea2d_0 {d : Nat} {x0 : zv_X} {o : (zv_X × Int32)} (hd : 6 ≤ d) {N : Nat} (l0 : Nat) (l1 : Nat) (x : zv_X) (h : mJx4a65c_add_9ea2d_0 N l0 l1 x = some o) : zv_V (fJx4a65c_add_9ea2d d x0 o) 0 [(0, .ref l0), (1, .ref l1)] [] x := by
  unfold mJx4a65c_add_9ea2d_0 at h
  refine zv_aload_n (n := 0) dJx4a65c_add_9ea2d_0 rfl rfl ?_
  refine zv_dup dJx4a65c_add_9ea2d_1 rfl ?_
  refine zr_gI dJx4a65c_add_9ea2d_2 fg_196 h (fun v1 e2 h => ?_)
  refine zv_iconst (v := 1) dJx4a65c_add_9ea2d_5 (by decide) ?_
  refine zv_iadd dJx4a65c_add_9ea2d_6 ?_
  refine zr_p dJx4a65c_add_9ea2d_7 fl_196 (fun q => nomatch q) rfl rfl h (fun x3 e4 h => ?_)
  refine zv_aload_n (n := 0) dJx4a65c_add_9ea2d_10 rfl rfl ?_
  refine zv_aload_n (n := 1) dJx4a65c_add_9ea2d_11 rfl rfl ?_
  refine zv_aload_n (n := 0) dJx4a65c_add_9ea2d_12 rfl rfl ?_
  refine zr_gR dJx4a65c_add_9ea2d_13 fg_193 h (fun v5 e6 h => ?_)
  refine zv_aload_n (n := 0) dJx4a65c_add_9ea2d_16 rfl rfl ?_
  refine zr_gI dJx4a65c_add_9ea2d_17 fg_194 h (fun v7 e8 h => ?_)
  refine zr_cVv (ci := 5) (st := []) dJx4a65c_add_9ea2d_20 mw_Jx4a65c_add_72be8 wd_779 wd_781 wd_16 rfl rfl [.ref l1, .ref v5, .int v7] rfl rfl (Nat.le_of_ble_eq_true rfl) (show d - 1 + 1 ≤ d by omega) h (fun o9 e10 => tJx4a65c_add_72be8 (d := d - 1) (by omega) e10) (fun o9 e10 h => ?_)
  refine zv_iconst (v := 1) dJx4a65c_add_9ea2d_23 (by decide) ?_
  cases h
  exact zv_zret dJx4a65c_add_9ea2d_24 rfl (Or.inr rfl)
def mJx4a65c_add_9ea2d (N : Nat) (a0 : Nat) (a1 : Nat) (x : zv_X) : Option (zv_X × Int32) := mJx4a65c_add_9ea2d_0 N a0 a1 x
theorem tJx4a65c_add_9ea2d {d : Nat} (hd : 6 ≤ d) {N : Nat} {x : zv_X} {a0 : Nat} {a1 : Nat} {o : (zv_X × Int32)} (h : mJx4a65c_add_9ea2d N a0 a1 x = some o) : zv_T d yJx4a65c_add_9ea2d cJx4a65c_add_9ea2d 2 ((some .boolean)) [.ref a0, .ref a1] x o.1 (some (.int o.2)) := by
  unfold mJx4a65c_add_9ea2d at h
  exact zv_enter (by decide) (Nat.le_of_ble_eq_true rfl) (kJx4a65c_add_9ea2d_0 hd _ _ _ h)

abbrev fJx4a65c_size_8abf5 (d : Nat) (x0 : zv_X) (o : (zv_X × Int32)) : zv_G := (d, RJx4a65c, cJx4a65c_size_8abf5, 1, (some .int), ("size", []), x0, o.1, zv_fin x0 o.1 (some (.int o.2)))
def mJx4a65c_size_8abf5_0 (N : Nat) (l0 : Nat) (x : zv_X) : Option (zv_X × Int32) := (zm_I x l0 5 2).bind fun v1 => some (x, v1)
theorem kJx4a65c_size_8abf5_0 {d : Nat} {x0 : zv_X} {o : (zv_X × Int32)} (hd : 0 ≤ d) {N : Nat} (l0 : Nat) (x : zv_X) (h : mJx4a65c_size_8abf5_0 N l0 x = some o) : zv_V (fJx4a65c_size_8abf5 d x0 o) 0 [(0, .ref l0)] [] x := by
  unfold mJx4a65c_size_8abf5_0 at h
  refine zv_aload_n (n := 0) dJx4a65c_size_8abf5_0 rfl rfl ?_
  refine zr_gI dJx4a65c_size_8abf5_1 fg_194 h (fun v1 e2 h => ?_)
  cases h
  exact zv_iret dJx4a65c_size_8abf5_4 rfl
def mJx4a65c_size_8abf5 (N : Nat) (a0 : Nat) (x : zv_X) : Option (zv_X × Int32) := mJx4a65c_size_8abf5_0 N a0 x
theorem tJx4a65c_size_8abf5 {d : Nat} (hd : 0 ≤ d) {N : Nat} {x : zv_X} {a0 : Nat} {o : (zv_X × Int32)} (h : mJx4a65c_size_8abf5 N a0 x = some o) : zv_T d yJx4a65c_size_8abf5 cJx4a65c_size_8abf5 1 ((some .int)) [.ref a0] x o.1 (some (.int o.2)) := by
  unfold mJx4a65c_size_8abf5 at h
  exact zv_enter (by decide) (Nat.le_of_ble_eq_true rfl) (kJx4a65c_size_8abf5_0 hd _ _ h)

abbrev fJ7_copyOf_9075b (d : Nat) (x0 : zv_X) (o : (zv_X × Nat)) : zv_G := (d, RJ7, cJ7_copyOf_9075b, 3, (some (.array .byte)), ("copyOf", []), x0, o.1, zv_fin x0 o.1 (some (.ref o.2)))
def mJ7_copyOf_9075b_0 (N : Nat) (l0 : Nat) (l1 : Int32) (x : zv_X) : Option (zv_X × Nat) := (zm_n x l0).bind fun v1 => if l1 = v1 then ((zm_cl 2 x l0).bind fun x9 => if zm_ka 2 x9 x.2.1 = true then (some (x9, x.2.1)) else none) else ((zm_na 2 x l1).bind fun x3 => (zm_n x3 l0).bind fun v5 => (zm_cp x3 l0 (0 : Int32) x.2.1 (0 : Int32) (zm_min v5 l1)).bind fun x7 => some (x7, x.2.1))
theorem kJ7_copyOf_9075b_0 {d : Nat} {x0 : zv_X} {o : (zv_X × Nat)} (hd : 1 ≤ d) {N : Nat} (l0 : Nat) (l1 : Int32) (x : zv_X) (h : mJ7_copyOf_9075b_0 N l0 l1 x = some o) : zv_V (fJ7_copyOf_9075b d x0 o) 0 [(0, .ref l0), (1, .int l1)] [] x := by
  unfold mJ7_copyOf_9075b_0 at h
  refine zv_iload_n (n := 1) dJ7_copyOf_9075b_0 rfl rfl ?_
  refine zv_aload_n (n := 0) dJ7_copyOf_9075b_1 rfl rfl ?_
  refine zr_n dJ7_copyOf_9075b_2 h (fun v1 e2 h => ?_)
  refine zr_icmp_ne (tgt := 14) dJ7_copyOf_9075b_3 (by decide) h (fun c11 h => ?_) (fun c11 h => ?_)
  · refine zv_iload_n (n := 1) dJ7_copyOf_9075b_14 rfl rfl ?_
    refine zr_nB dJ7_copyOf_9075b_15 wd_178 h (fun x3 e4 h => ?_)
    refine zv_astore_n (L' := [(2, .ref x.2.1), (0, .ref l0), (1, .int l1)]) dJ7_copyOf_9075b_17 rfl (Nat.le_of_ble_eq_true rfl) rfl ?_
    refine zv_aload_n (n := 1) dJ7_copyOf_9075b_18 rfl rfl ?_
    refine zv_iconst (v := 0) dJ7_copyOf_9075b_19 (by decide) ?_
    refine zv_aload_n (n := 0) dJ7_copyOf_9075b_20 rfl rfl ?_
    refine zv_iconst (v := 0) dJ7_copyOf_9075b_21 (by decide) ?_
    refine zv_aload_n (n := 1) dJ7_copyOf_9075b_22 rfl rfl ?_
    refine zr_n dJ7_copyOf_9075b_23 h (fun v5 e6 h => ?_)
    refine zv_iload_n (n := 2) dJ7_copyOf_9075b_24 rfl rfl ?_
    refine zv_min dJ7_copyOf_9075b_25 wd_613 wd_252 wd_99 wd_253 (show 1 ≤ d by omega) (Nat.le_of_ble_eq_true rfl) ?_
    refine zr_cp dJ7_copyOf_9075b_28 wd_614 wd_616 wd_615 wd_111 (show 1 ≤ d by omega) (Nat.le_of_ble_eq_true rfl) h (fun x7 e8 h => ?_)
    refine zv_aload_n (n := 0) dJ7_copyOf_9075b_31 rfl rfl ?_
    cases h
    exact zv_aret dJ7_copyOf_9075b_32 rfl (Or.inr ⟨_, rfl⟩)
  · refine zv_aload_n (n := 0) dJ7_copyOf_9075b_6 rfl rfl ?_
    refine zr_cl dJ7_copyOf_9075b_7 wd_606 wd_607 wd_608 wd_609 wd_610 (Or.inr ⟨rfl, rfl, rfl⟩) (show 1 ≤ d by omega) (Nat.le_of_ble_eq_true rfl) h (fun x9 e10 h => ?_)
    refine zr_castA (t := 2) dJ7_copyOf_9075b_10 wd_612 (Or.inr ⟨rfl, rfl⟩) h (fun h => ?_)
    cases h
    exact zv_aret dJ7_copyOf_9075b_13 rfl (Or.inr ⟨_, rfl⟩)
def mJ7_copyOf_9075b (N : Nat) (a0 : Nat) (a1 : Int32) (x : zv_X) : Option (zv_X × Nat) := mJ7_copyOf_9075b_0 N a0 a1 x
theorem tJ7_copyOf_9075b {d : Nat} (hd : 1 ≤ d) {N : Nat} {x : zv_X} {a0 : Nat} {a1 : Int32} {o : (zv_X × Nat)} (h : mJ7_copyOf_9075b N a0 a1 x = some o) : zv_T d yJ7_copyOf_9075b cJ7_copyOf_9075b 3 ((some (.array .byte))) [.ref a0, .int a1] x o.1 (some (.ref o.2)) := by
  unfold mJ7_copyOf_9075b at h
  exact zv_enter (by decide) (Nat.le_of_ble_eq_true rfl) (kJ7_copyOf_9075b_0 hd _ _ _ h)

abbrev fX0_code (d : Nat) (x0 : zv_X) (o : (zv_X × Nat)) : zv_G := (d, RX0, cX0_code, 1, (some (.array .byte)), ("code", []), x0, o.1, zv_fin x0 o.1 (some (.ref o.2)))
def mX0_code_0 (N : Nat) (l0 : Nat) (x : zv_X) : Option (zv_X × Nat) := (zm_R x l0 0 0).bind fun v1 => (zm_I x l0 0 2).bind fun v3 => (mJ7_copyOf_9075b N v1 v3 x).bind fun o5 => some (o5.1, o5.2)
theorem kX0_code_0 {d : Nat} {x0 : zv_X} {o : (zv_X × Nat)} (hd : 2 ≤ d) {N : Nat} (l0 : Nat) (x : zv_X) (h : mX0_code_0 N l0 x = some o) : zv_V (fX0_code d x0 o) 0 [(0, .ref l0)] [] x := by
  unfold mX0_code_0 at h
  refine zv_aload_n (n := 0) dX0_code_0 rfl rfl ?_
  refine zr_gR dX0_code_1 fg_163 h (fun v1 e2 h => ?_)
  refine zv_aload_n (n := 0) dX0_code_4 rfl rfl ?_
  refine zr_gI dX0_code_5 fg_165 h (fun v3 e4 h => ?_)
  refine zr_cSr (st := []) dX0_code_8 mw_J7_copyOf_9075b wd_603 wd_604 [.ref v1, .int v3] rfl rfl (Nat.le_of_ble_eq_true rfl) (show d - 1 + 1 ≤ d by omega) h (fun o5 e6 => tJ7_copyOf_9075b (d := d - 1) (by omega) e6) (fun o5 e6 h => ?_)
  cases h
  exact zv_aret dX0_code_11 rfl (Or.inr ⟨_, rfl⟩)
def mX0_code (N : Nat) (a0 : Nat) (x : zv_X) : Option (zv_X × Nat) := mX0_code_0 N a0 x
theorem tX0_code {d : Nat} (hd : 2 ≤ d) {N : Nat} {x : zv_X} {a0 : Nat} {o : (zv_X × Nat)} (h : mX0_code N a0 x = some o) : zv_T d yX0_code cX0_code 1 ((some (.array .byte))) [.ref a0] x o.1 (some (.ref o.2)) := by
  unfold mX0_code at h
  exact zv_enter (by decide) (Nat.le_of_ble_eq_true rfl) (kX0_code_0 hd _ _ h)

abbrev fX0_empty (d : Nat) (x0 : zv_X) (o : zv_X) : zv_G := (d, RX0, cX0_empty, 1, none, ("empty", []), x0, o, zv_fin x0 o none)
def mX0_empty_0 (N : Nat) (l0 : Nat) (x : zv_X) : Option zv_X := (zm_p x l0 0 2 (.int (0 : Int32))).bind fun x1 => (zm_p x1 l0 0 3 (.int (0 : Int32))).bind fun x3 => some x3
theorem kX0_empty_0 {d : Nat} {x0 : zv_X} {o : zv_X} (hd : 0 ≤ d) {N : Nat} (l0 : Nat) (x : zv_X) (h : mX0_empty_0 N l0 x = some o) : zv_V (fX0_empty d x0 o) 0 [(0, .ref l0)] [] x := by
  unfold mX0_empty_0 at h
  refine zv_aload_n (n := 0) dX0_empty_0 rfl rfl ?_
  refine zv_iconst (v := 0) dX0_empty_1 (by decide) ?_
  refine zr_p dX0_empty_2 fl_165 (fun q => nomatch q) rfl rfl h (fun x1 e2 h => ?_)
  refine zv_aload_n (n := 0) dX0_empty_5 rfl rfl ?_
  refine zv_iconst (v := 0) dX0_empty_6 (by decide) ?_
  refine zr_p dX0_empty_7 fl_167 (fun q => nomatch q) rfl rfl h (fun x3 e4 h => ?_)
  cases h
  exact zv_vret dX0_empty_10 rfl
def mX0_empty (N : Nat) (a0 : Nat) (x : zv_X) : Option zv_X := mX0_empty_0 N a0 x
theorem tX0_empty {d : Nat} (hd : 0 ≤ d) {N : Nat} {x : zv_X} {a0 : Nat} {o : zv_X} (h : mX0_empty N a0 x = some o) : zv_T d yX0_empty cX0_empty 1 (none) [.ref a0] x o none := by
  unfold mX0_empty at h
  exact zv_enter (by decide) (Nat.le_of_ble_eq_true rfl) (kX0_empty_0 hd _ _ h)

abbrev fJ7_copyOf_59c91 (d : Nat) (x0 : zv_X) (o : (zv_X × Nat)) : zv_G := (d, RJ7, cJ7_copyOf_59c91, 3, (some (.array .int)), ("copyOf", []), x0, o.1, zv_fin x0 o.1 (some (.ref o.2)))
def mJ7_copyOf_59c91_0 (N : Nat) (l0 : Nat) (l1 : Int32) (x : zv_X) : Option (zv_X × Nat) := (zm_n x l0).bind fun v1 => if l1 = v1 then ((zm_cl 0 x l0).bind fun x9 => if zm_ka 0 x9 x.2.1 = true then (some (x9, x.2.1)) else none) else ((zm_na 0 x l1).bind fun x3 => (zm_n x3 l0).bind fun v5 => (zm_cp x3 l0 (0 : Int32) x.2.1 (0 : Int32) (zm_min v5 l1)).bind fun x7 => some (x7, x.2.1))
theorem kJ7_copyOf_59c91_0 {d : Nat} {x0 : zv_X} {o : (zv_X × Nat)} (hd : 1 ≤ d) {N : Nat} (l0 : Nat) (l1 : Int32) (x : zv_X) (h : mJ7_copyOf_59c91_0 N l0 l1 x = some o) : zv_V (fJ7_copyOf_59c91 d x0 o) 0 [(0, .ref l0), (1, .int l1)] [] x := by
  unfold mJ7_copyOf_59c91_0 at h
  refine zv_iload_n (n := 1) dJ7_copyOf_59c91_0 rfl rfl ?_
  refine zv_aload_n (n := 0) dJ7_copyOf_59c91_1 rfl rfl ?_
  refine zr_n dJ7_copyOf_59c91_2 h (fun v1 e2 h => ?_)
  refine zr_icmp_ne (tgt := 14) dJ7_copyOf_59c91_3 (by decide) h (fun c11 h => ?_) (fun c11 h => ?_)
  · refine zv_iload_n (n := 1) dJ7_copyOf_59c91_14 rfl rfl ?_
    refine zr_nI dJ7_copyOf_59c91_15 wd_156 h (fun x3 e4 h => ?_)
    refine zv_astore_n (L' := [(2, .ref x.2.1), (0, .ref l0), (1, .int l1)]) dJ7_copyOf_59c91_17 rfl (Nat.le_of_ble_eq_true rfl) rfl ?_
    refine zv_aload_n (n := 1) dJ7_copyOf_59c91_18 rfl rfl ?_
    refine zv_iconst (v := 0) dJ7_copyOf_59c91_19 (by decide) ?_
    refine zv_aload_n (n := 0) dJ7_copyOf_59c91_20 rfl rfl ?_
    refine zv_iconst (v := 0) dJ7_copyOf_59c91_21 (by decide) ?_
    refine zv_aload_n (n := 1) dJ7_copyOf_59c91_22 rfl rfl ?_
    refine zr_n dJ7_copyOf_59c91_23 h (fun v5 e6 h => ?_)
    refine zv_iload_n (n := 2) dJ7_copyOf_59c91_24 rfl rfl ?_
    refine zv_min dJ7_copyOf_59c91_25 wd_613 wd_252 wd_99 wd_253 (show 1 ≤ d by omega) (Nat.le_of_ble_eq_true rfl) ?_
    refine zr_cp dJ7_copyOf_59c91_28 wd_614 wd_616 wd_615 wd_111 (show 1 ≤ d by omega) (Nat.le_of_ble_eq_true rfl) h (fun x7 e8 h => ?_)
    refine zv_aload_n (n := 0) dJ7_copyOf_59c91_31 rfl rfl ?_
    cases h
    exact zv_aret dJ7_copyOf_59c91_32 rfl (Or.inr ⟨_, rfl⟩)
  · refine zv_aload_n (n := 0) dJ7_copyOf_59c91_6 rfl rfl ?_
    refine zr_cl dJ7_copyOf_59c91_7 wd_624 wd_625 wd_608 wd_609 wd_626 (Or.inl ⟨rfl, rfl, rfl⟩) (show 1 ≤ d by omega) (Nat.le_of_ble_eq_true rfl) h (fun x9 e10 h => ?_)
    refine zr_castA (t := 0) dJ7_copyOf_59c91_10 wd_628 (Or.inl ⟨rfl, rfl⟩) h (fun h => ?_)
    cases h
    exact zv_aret dJ7_copyOf_59c91_13 rfl (Or.inr ⟨_, rfl⟩)
def mJ7_copyOf_59c91 (N : Nat) (a0 : Nat) (a1 : Int32) (x : zv_X) : Option (zv_X × Nat) := mJ7_copyOf_59c91_0 N a0 a1 x
theorem tJ7_copyOf_59c91 {d : Nat} (hd : 1 ≤ d) {N : Nat} {x : zv_X} {a0 : Nat} {a1 : Int32} {o : (zv_X × Nat)} (h : mJ7_copyOf_59c91 N a0 a1 x = some o) : zv_T d yJ7_copyOf_59c91 cJ7_copyOf_59c91 3 ((some (.array .int))) [.ref a0, .int a1] x o.1 (some (.ref o.2)) := by
  unfold mJ7_copyOf_59c91 at h
  exact zv_enter (by decide) (Nat.le_of_ble_eq_true rfl) (kJ7_copyOf_59c91_0 hd _ _ _ h)

abbrev fX0_handlerRows (d : Nat) (x0 : zv_X) (o : (zv_X × Nat)) : zv_G := (d, RX0, cX0_handlerRows, 1, (some (.array .int)), ("handlerRows", []), x0, o.1, zv_fin x0 o.1 (some (.ref o.2)))
def mX0_handlerRows_0 (N : Nat) (l0 : Nat) (x : zv_X) : Option (zv_X × Nat) := (zm_R x l0 0 1).bind fun v1 => (zm_I x l0 0 3).bind fun v3 => (mJ7_copyOf_59c91 N v1 (v3 * (4 : Int32)) x).bind fun o5 => some (o5.1, o5.2)
theorem kX0_handlerRows_0 {d : Nat} {x0 : zv_X} {o : (zv_X × Nat)} (hd : 2 ≤ d) {N : Nat} (l0 : Nat) (x : zv_X) (h : mX0_handlerRows_0 N l0 x = some o) : zv_V (fX0_handlerRows d x0 o) 0 [(0, .ref l0)] [] x := by
  unfold mX0_handlerRows_0 at h
  refine zv_aload_n (n := 0) dX0_handlerRows_0 rfl rfl ?_
  refine zr_gR dX0_handlerRows_1 fg_164 h (fun v1 e2 h => ?_)
  refine zv_aload_n (n := 0) dX0_handlerRows_4 rfl rfl ?_
  refine zr_gI dX0_handlerRows_5 fg_167 h (fun v3 e4 h => ?_)
  refine zv_iconst (v := 4) dX0_handlerRows_8 (by decide) ?_
  refine zv_imul dX0_handlerRows_9 ?_
  refine zr_cSr (st := []) dX0_handlerRows_10 mw_J7_copyOf_59c91 wd_621 wd_622 [.ref v1, .int (v3 * (4 : Int32))] rfl rfl (Nat.le_of_ble_eq_true rfl) (show d - 1 + 1 ≤ d by omega) h (fun o5 e6 => tJ7_copyOf_59c91 (d := d - 1) (by omega) e6) (fun o5 e6 h => ?_)
  cases h
  exact zv_aret dX0_handlerRows_13 rfl (Or.inr ⟨_, rfl⟩)
def mX0_handlerRows (N : Nat) (a0 : Nat) (x : zv_X) : Option (zv_X × Nat) := mX0_handlerRows_0 N a0 x
theorem tX0_handlerRows {d : Nat} (hd : 2 ≤ d) {N : Nat} {x : zv_X} {a0 : Nat} {o : (zv_X × Nat)} (h : mX0_handlerRows N a0 x = some o) : zv_T d yX0_handlerRows cX0_handlerRows 1 ((some (.array .int))) [.ref a0] x o.1 (some (.ref o.2)) := by
  unfold mX0_handlerRows at h
  exact zv_enter (by decide) (Nat.le_of_ble_eq_true rfl) (kX0_handlerRows_0 hd _ _ h)

abbrev fX3_await (d : Nat) (x0 : zv_X) (o : zv_X) : zv_G := (d, RX3, cX3_await, 2, none, ("await", []), x0, o, zv_fin x0 o none)
def mX3_await_0 (N : Nat) (l0 : Nat) (l1 : Int32) (x : zv_X) : Option zv_X := (zm_R x l0 3 3).bind fun v1 => (zm_aB x v1 l1).bind fun v3 => if v3 = 0 then ((zm_R x l0 3 3).bind fun v5 => (zm_sB x v5 l1 (1 : Int32)).bind fun x7 => (zm_R x7 l0 3 4).bind fun v9 => (zm_I x7 l0 3 7).bind fun v11 => (zm_sI x7 v9 v11 l1).bind fun x13 => (zm_I x13 l0 3 7).bind fun v15 => (zm_p x13 l0 3 7 (.int (v15 + (1 : Int32)))).bind fun x17 => some x17) else (some x)
theorem kX3_await_0 {d : Nat} {x0 : zv_X} {o : zv_X} (hd : 0 ≤ d) {N : Nat} (l0 : Nat) (l1 : Int32) (x : zv_X) (h : mX3_await_0 N l0 l1 x = some o) : zv_V (fX3_await d x0 o) 0 [(0, .ref l0), (1, .int l1)] [] x := by
  unfold mX3_await_0 at h
  refine zv_aload_n (n := 0) dX3_await_0 rfl rfl ?_
  refine zr_gR dX3_await_1 fg_214 h (fun v1 e2 h => ?_)
  refine zv_iload_n (n := 1) dX3_await_4 rfl rfl ?_
  refine zr_aB dX3_await_5 h (fun v3 e4 h => ?_)
  refine zr_if_eq (tgt := 10) dX3_await_6 (by decide) h (fun c19 h => ?_) (fun c19 h => ?_)
  · refine zv_aload_n (n := 0) dX3_await_10 rfl rfl ?_
    refine zr_gR dX3_await_11 fg_214 h (fun v5 e6 h => ?_)
    refine zv_iload_n (n := 1) dX3_await_14 rfl rfl ?_
    refine zv_iconst (v := 1) dX3_await_15 (by decide) ?_
    refine zr_sB dX3_await_16 h (fun x7 e8 h => ?_)
    refine zv_aload_n (n := 0) dX3_await_17 rfl rfl ?_
    refine zr_gR dX3_await_18 fg_215 h (fun v9 e10 h => ?_)
    refine zv_aload_n (n := 0) dX3_await_21 rfl rfl ?_
    refine zr_gI dX3_await_22 fg_218 h (fun v11 e12 h => ?_)
    refine zv_iload_n (n := 1) dX3_await_25 rfl rfl ?_
    refine zr_sI dX3_await_26 h (fun x13 e14 h => ?_)
    refine zv_aload_n (n := 0) dX3_await_27 rfl rfl ?_
    refine zv_dup dX3_await_28 rfl ?_
    refine zr_gI dX3_await_29 fg_218 h (fun v15 e16 h => ?_)
    refine zv_iconst (v := 1) dX3_await_32 (by decide) ?_
    refine zv_iadd dX3_await_33 ?_
    refine zr_p dX3_await_34 fl_218 (fun q => nomatch q) rfl rfl h (fun x17 e18 h => ?_)
    cases h
    exact zv_vret dX3_await_37 rfl
  · cases h
    exact zv_vret dX3_await_9 rfl
def mX3_await (N : Nat) (a0 : Nat) (a1 : Int32) (x : zv_X) : Option zv_X := mX3_await_0 N a0 a1 x
theorem tX3_await {d : Nat} (hd : 0 ≤ d) {N : Nat} {x : zv_X} {a0 : Nat} {a1 : Int32} {o : zv_X} (h : mX3_await N a0 a1 x = some o) : zv_T d yX3_await cX3_await 2 (none) [.ref a0, .int a1] x o none := by
  unfold mX3_await at h
  exact zv_enter (by decide) (Nat.le_of_ble_eq_true rfl) (kX3_await_0 hd _ _ _ h)

abbrev fX3_commonKinds (d : Nat) (x0 : zv_X) (o : (zv_X × Int32)) : zv_G := (d, RX3, cX3_commonKinds, 4, (some .int), ("commonKinds", []), x0, o.1, zv_fin x0 o.1 (some (.int o.2)))
def mX3_commonKinds_0 (N : Nat) (l0 : Int32) (l1 : Int32) (x : zv_X) : Option (zv_X × Int32) := some (x, l0 &&& (((((l0 ^^^ l1) ||| ((Int32.toUInt32 (l0 ^^^ l1) >>> (Int32.toUInt32 (1 : Int32) &&& Int32.toUInt32 31)).toInt32)) &&& (1431655765 : Int32)) ||| ((((l0 ^^^ l1) ||| ((Int32.toUInt32 (l0 ^^^ l1) >>> (Int32.toUInt32 (1 : Int32) &&& Int32.toUInt32 31)).toInt32)) &&& (1431655765 : Int32)) <<< ((1 : Int32) &&& 31))) ^^^ (-1 : Int32)))
theorem kX3_commonKinds_0 {d : Nat} {x0 : zv_X} {o : (zv_X × Int32)} (hd : 0 ≤ d) {N : Nat} (l0 : Int32) (l1 : Int32) (x : zv_X) (h : mX3_commonKinds_0 N l0 l1 x = some o) : zv_V (fX3_commonKinds d x0 o) 0 [(0, .int l0), (1, .int l1)] [] x := by
  unfold mX3_commonKinds_0 at h
  refine zv_iload_n (n := 0) dX3_commonKinds_0 rfl rfl ?_
  refine zv_iload_n (n := 1) dX3_commonKinds_1 rfl rfl ?_
  refine zv_ixor dX3_commonKinds_2 ?_
  refine zv_istore_n (L' := [(2, .int (l0 ^^^ l1)), (0, .int l0), (1, .int l1)]) dX3_commonKinds_3 rfl (Nat.le_of_ble_eq_true rfl) rfl ?_
  refine zv_iload_n (n := 0) dX3_commonKinds_4 rfl rfl ?_
  refine zv_iload_n (n := 0) dX3_commonKinds_5 rfl rfl ?_
  refine zv_iconst (v := 1) dX3_commonKinds_6 (by decide) ?_
  refine zv_iushr dX3_commonKinds_7 ?_
  refine zv_ior dX3_commonKinds_8 ?_
  refine zv_ldc dX3_commonKinds_9 wd_653 ?_
  refine zv_iand dX3_commonKinds_11 ?_
  refine zv_istore_n (L' := [(3, .int (((l0 ^^^ l1) ||| ((Int32.toUInt32 (l0 ^^^ l1) >>> (Int32.toUInt32 (1 : Int32) &&& Int32.toUInt32 31)).toInt32)) &&& (1431655765 : Int32))), (2, .int (l0 ^^^ l1)), (0, .int l0), (1, .int l1)]) dX3_commonKinds_12 rfl (Nat.le_of_ble_eq_true rfl) rfl ?_
  refine zv_iload_n (n := 2) dX3_commonKinds_13 rfl rfl ?_
  refine zv_iload_n (n := 0) dX3_commonKinds_14 rfl rfl ?_
  refine zv_iload_n (n := 0) dX3_commonKinds_15 rfl rfl ?_
  refine zv_iconst (v := 1) dX3_commonKinds_16 (by decide) ?_
  refine zv_ishl dX3_commonKinds_17 ?_
  refine zv_ior dX3_commonKinds_18 ?_
  refine zv_iconst (v := -1) dX3_commonKinds_19 (by decide) ?_
  refine zv_ixor dX3_commonKinds_20 ?_
  refine zv_iand dX3_commonKinds_21 ?_
  cases h
  exact zv_iret dX3_commonKinds_22 rfl
def mX3_commonKinds (N : Nat) (a0 : Int32) (a1 : Int32) (x : zv_X) : Option (zv_X × Int32) := mX3_commonKinds_0 N a0 a1 x
theorem tX3_commonKinds {d : Nat} (hd : 0 ≤ d) {N : Nat} {x : zv_X} {a0 : Int32} {a1 : Int32} {o : (zv_X × Int32)} (h : mX3_commonKinds N a0 a1 x = some o) : zv_T d yX3_commonKinds cX3_commonKinds 4 ((some .int)) [.int a0, .int a1] x o.1 (some (.int o.2)) := by
  unfold mX3_commonKinds at h
  exact zv_enter (by decide) (Nat.le_of_ble_eq_true rfl) (kX3_commonKinds_0 hd _ _ _ h)

abbrev fX3_require (d : Nat) (x0 : zv_X) (o : zv_X) : zv_G := (d, RX3, cX3_require, 2, none, ("require", []), x0, o, zv_fin x0 o none)
def mX3_require_9 (N : Nat)  (x : zv_X) : Option zv_X := some x
theorem kX3_require_9 {d : Nat} {x0 : zv_X} {o : zv_X} (hd : 0 ≤ d) {N : Nat}  (x : zv_X) (h : mX3_require_9 N  x = some o) : zv_V (fX3_require d x0 o) 9 [] [] x := by
  unfold mX3_require_9 at h
  cases h
  exact zv_vret dX3_require_9 rfl
def mX3_require_0 (N : Nat) (l0 : Nat) (l1 : Int32) (x : zv_X) : Option zv_X := if l1 = 0 then ((zm_p x l0 3 9 (.int (0 : Int32))).bind fun x1 => mX3_require_9 N x1) else (mX3_require_9 N x)
theorem kX3_require_0 {d : Nat} {x0 : zv_X} {o : zv_X} (hd : 0 ≤ d) {N : Nat} (l0 : Nat) (l1 : Int32) (x : zv_X) (h : mX3_require_0 N l0 l1 x = some o) : zv_V (fX3_require d x0 o) 0 [(0, .ref l0), (1, .int l1)] [] x := by
  unfold mX3_require_0 at h
  refine zv_iload_n (n := 1) dX3_require_0 rfl rfl ?_
  refine zr_if_ne (tgt := 9) dX3_require_1 (by decide) h (fun c3 h => ?_) (fun c3 h => ?_)
  · exact zv_fewer [] rfl (kX3_require_9 hd _ h)
  · refine zv_aload_n (n := 0) dX3_require_4 rfl rfl ?_
    refine zv_iconst (v := 0) dX3_require_5 (by decide) ?_
    refine zr_p dX3_require_6 fl_220 (fun q => nomatch q) rfl rfl h (fun x1 e2 h => ?_)
    exact zv_fewer [] rfl (kX3_require_9 hd _ h)
def mX3_require (N : Nat) (a0 : Nat) (a1 : Int32) (x : zv_X) : Option zv_X := mX3_require_0 N a0 a1 x
theorem tX3_require {d : Nat} (hd : 0 ≤ d) {N : Nat} {x : zv_X} {a0 : Nat} {a1 : Int32} {o : zv_X} (h : mX3_require N a0 a1 x = some o) : zv_T d yX3_require cX3_require 2 (none) [.ref a0, .int a1] x o none := by
  unfold mX3_require at h
  exact zv_enter (by decide) (Nat.le_of_ble_eq_true rfl) (kX3_require_0 hd _ _ _ h)

abbrev fX3_lead (d : Nat) (x0 : zv_X) (o : zv_X) : zv_G := (d, RX3, cX3_lead, 5, none, ("lead", []), x0, o, zv_fin x0 o none)
def mX3_lead_124 (N : Nat)  (x : zv_X) : Option zv_X := some x
theorem kX3_lead_124 {d : Nat} {x0 : zv_X} {o : zv_X} (hd : 1 ≤ d) {N : Nat}  (x : zv_X) (h : mX3_lead_124 N  x = some o) : zv_V (fX3_lead d x0 o) 124 [] [] x := by
  unfold mX3_lead_124 at h
  cases h
  exact zv_vret dX3_lead_124 rfl
def mX3_lead_85 (N : Nat) (l0 : Nat) (l1 : Int32) (l3 : Int32) (s0 : Int32) (s1 : Nat) (x : zv_X) : Option zv_X := if zm_k x s1 3 = true then ((mX3_require N s1 s0 x).bind fun o1 => (zm_R o1 l0 3 6).bind fun v3 => (zm_aI o1 v3 l1).bind fun v5 => (mX3_commonKinds N v5 l3 o1).bind fun o7 => (zm_R o7.1 l0 3 6).bind fun v9 => (zm_aI o7.1 v9 l1).bind fun v11 => if o7.2 = v11 then (mX3_lead_124 N o7.1) else ((zm_R o7.1 l0 3 6).bind fun v13 => (zm_sI o7.1 v13 l1 o7.2).bind fun x15 => if zm_k x15 l0 3 = true then ((mX3_await N l0 l1 x15).bind fun o17 => mX3_lead_124 N o17) else none)) else none
theorem kX3_lead_85 {d : Nat} {x0 : zv_X} {o : zv_X} (hd : 1 ≤ d) {N : Nat} (l0 : Nat) (l1 : Int32) (l3 : Int32) (s0 : Int32) (s1 : Nat) (x : zv_X) (h : mX3_lead_85 N l0 l1 l3 s0 s1 x = some o) : zv_V (fX3_lead d x0 o) 85 [(0, .ref l0), (1, .int l1), (3, .int l3)] [.int s0, .ref s1] x := by
  unfold mX3_lead_85 at h
  refine zr_cVv (ci := 3) (st := []) dX3_lead_85 mw_X3_require wd_642 wd_644 wd_2 rfl rfl [.int s0] rfl rfl (Nat.le_of_ble_eq_true rfl) (show d - 1 + 1 ≤ d by omega) h (fun o1 e2 => tX3_require (d := d - 1) (by omega) e2) (fun o1 e2 h => ?_)
  refine zv_aload_n (n := 0) dX3_lead_88 rfl rfl ?_
  refine zr_gR dX3_lead_89 fg_217 h (fun v3 e4 h => ?_)
  refine zv_iload_n (n := 1) dX3_lead_92 rfl rfl ?_
  refine zr_aI dX3_lead_93 h (fun v5 e6 h => ?_)
  refine zv_iload_n (n := 2) dX3_lead_94 rfl rfl ?_
  refine zr_cSi (st := []) dX3_lead_95 mw_X3_commonKinds wd_650 wd_651 [.int v5, .int l3] rfl rfl (Nat.le_of_ble_eq_true rfl) (show d - 1 + 1 ≤ d by omega) h (fun o7 e8 => tX3_commonKinds (d := d - 1) (by omega) e8) (fun o7 e8 h => ?_)
  refine zv_istore (L' := [(4, .int o7.2), (0, .ref l0), (1, .int l1), (3, .int l3)]) dX3_lead_98 (Nat.le_of_ble_eq_true rfl) rfl ?_
  refine zv_iload (n := 0) dX3_lead_100 rfl ?_
  refine zv_aload_n (n := 1) dX3_lead_102 rfl rfl ?_
  refine zr_gR dX3_lead_103 fg_217 h (fun v9 e10 h => ?_)
  refine zv_iload_n (n := 2) dX3_lead_106 rfl rfl ?_
  refine zr_aI dX3_lead_107 h (fun v11 e12 h => ?_)
  refine zr_icmp_eq (tgt := 124) dX3_lead_108 (by decide) h (fun c19 h => ?_) (fun c19 h => ?_)
  · exact zv_fewer [] rfl (kX3_lead_124 hd _ h)
  · refine zv_aload_n (n := 1) dX3_lead_111 rfl rfl ?_
    refine zr_gR dX3_lead_112 fg_217 h (fun v13 e14 h => ?_)
    refine zv_iload_n (n := 2) dX3_lead_115 rfl rfl ?_
    refine zv_iload (n := 0) dX3_lead_116 rfl ?_
    refine zr_sI dX3_lead_118 h (fun x15 e16 h => ?_)
    refine zv_aload_n (n := 1) dX3_lead_119 rfl rfl ?_
    refine zv_iload_n (n := 2) dX3_lead_120 rfl rfl ?_
    refine zr_cVv (ci := 3) (st := []) dX3_lead_121 mw_X3_await wd_646 wd_648 wd_3 rfl rfl [.int l1] rfl rfl (Nat.le_of_ble_eq_true rfl) (show d - 1 + 1 ≤ d by omega) h (fun o17 e18 => tX3_await (d := d - 1) (by omega) e18) (fun o17 e18 h => ?_)
    exact zv_fewer [] rfl (kX3_lead_124 hd _ h)
def mX3_lead_22 (N : Nat) (l0 : Nat) (l1 : Int32) (l2 : Int32) (l3 : Int32) (s0 : Int32) (s1 : Nat) (x : zv_X) : Option zv_X := if zm_k x s1 3 = true then ((mX3_require N s1 s0 x).bind fun o1 => (zm_I o1 l0 3 9).bind fun v3 => if v3 = 0 then (some o1) else ((zm_R o1 l0 3 2).bind fun v5 => (zm_aB o1 v5 l1).bind fun v7 => if v7 = 0 then ((zm_R o1 l0 3 2).bind fun v14 => (zm_sB o1 v14 l1 (1 : Int32)).bind fun x16 => (zm_R x16 l0 3 5).bind fun v18 => (zm_sI x16 v18 l1 l2).bind fun x20 => (zm_R x20 l0 3 6).bind fun v22 => (zm_sI x20 v22 l1 l3).bind fun x24 => if zm_k x24 l0 3 = true then ((mX3_await N l0 l1 x24).bind fun o26 => some o26) else none) else ((zm_R o1 l0 3 5).bind fun v9 => (zm_aI o1 v9 l1).bind fun v11 => if v11 = l2 then (mX3_lead_85 N l0 l1 l3 (1 : Int32) l0 o1) else (mX3_lead_85 N l0 l1 l3 (0 : Int32) l0 o1)))) else none
theorem kX3_lead_22 {d : Nat} {x0 : zv_X} {o : zv_X} (hd : 1 ≤ d) {N : Nat} (l0 : Nat) (l1 : Int32) (l2 : Int32) (l3 : Int32) (s0 : Int32) (s1 : Nat) (x : zv_X) (h : mX3_lead_22 N l0 l1 l2 l3 s0 s1 x = some o) : zv_V (fX3_lead d x0 o) 22 [(0, .ref l0), (1, .int l1), (2, .int l2), (3, .int l3)] [.int s0, .ref s1] x := by
  unfold mX3_lead_22 at h
  refine zr_cVv (ci := 3) (st := []) dX3_lead_22 mw_X3_require wd_642 wd_644 wd_2 rfl rfl [.int s0] rfl rfl (Nat.le_of_ble_eq_true rfl) (show d - 1 + 1 ≤ d by omega) h (fun o1 e2 => tX3_require (d := d - 1) (by omega) e2) (fun o1 e2 h => ?_)
  refine zv_aload_n (n := 0) dX3_lead_25 rfl rfl ?_
  refine zr_gI dX3_lead_26 fg_220 h (fun v3 e4 h => ?_)
  refine zr_if_ne (tgt := 33) dX3_lead_29 (by decide) h (fun c29 h => ?_) (fun c29 h => ?_)
  · refine zv_aload_n (n := 0) dX3_lead_33 rfl rfl ?_
    refine zr_gR dX3_lead_34 fg_213 h (fun v5 e6 h => ?_)
    refine zv_iload_n (n := 1) dX3_lead_37 rfl rfl ?_
    refine zr_aB dX3_lead_38 h (fun v7 e8 h => ?_)
    refine zr_if_ne (tgt := 69) dX3_lead_39 (by decide) h (fun c28 h => ?_) (fun c28 h => ?_)
    · refine zv_aload_n (n := 0) dX3_lead_69 rfl rfl ?_
      refine zv_aload_n (n := 0) dX3_lead_70 rfl rfl ?_
      refine zr_gR dX3_lead_71 fg_216 h (fun v9 e10 h => ?_)
      refine zv_iload_n (n := 1) dX3_lead_74 rfl rfl ?_
      refine zr_aI dX3_lead_75 h (fun v11 e12 h => ?_)
      refine zv_iload_n (n := 2) dX3_lead_76 rfl rfl ?_
      refine zr_icmp_ne (tgt := 84) dX3_lead_77 (by decide) h (fun c13 h => ?_) (fun c13 h => ?_)
      · refine zv_iconst (v := 0) dX3_lead_84 (by decide) ?_
        exact zv_fewer [0, 1, 3] rfl (kX3_lead_85 hd _ _ _ _ _ _ h)
      · refine zv_iconst (v := 1) dX3_lead_80 (by decide) ?_
        refine zv_goto (tgt := 85) dX3_lead_81 (by decide) ?_
        exact zv_fewer [0, 1, 3] rfl (kX3_lead_85 hd _ _ _ _ _ _ h)
    · refine zv_aload_n (n := 0) dX3_lead_42 rfl rfl ?_
      refine zr_gR dX3_lead_43 fg_213 h (fun v14 e15 h => ?_)
      refine zv_iload_n (n := 1) dX3_lead_46 rfl rfl ?_
      refine zv_iconst (v := 1) dX3_lead_47 (by decide) ?_
      refine zr_sB dX3_lead_48 h (fun x16 e17 h => ?_)
      refine zv_aload_n (n := 0) dX3_lead_49 rfl rfl ?_
      refine zr_gR dX3_lead_50 fg_216 h (fun v18 e19 h => ?_)
      refine zv_iload_n (n := 1) dX3_lead_53 rfl rfl ?_
      refine zv_iload_n (n := 2) dX3_lead_54 rfl rfl ?_
      refine zr_sI dX3_lead_55 h (fun x20 e21 h => ?_)
      refine zv_aload_n (n := 0) dX3_lead_56 rfl rfl ?_
      refine zr_gR dX3_lead_57 fg_217 h (fun v22 e23 h => ?_)
      refine zv_iload_n (n := 1) dX3_lead_60 rfl rfl ?_
      refine zv_iload_n (n := 3) dX3_lead_61 rfl rfl ?_
      refine zr_sI dX3_lead_62 h (fun x24 e25 h => ?_)
      refine zv_aload_n (n := 0) dX3_lead_63 rfl rfl ?_
      refine zv_iload_n (n := 1) dX3_lead_64 rfl rfl ?_
      refine zr_cVv (ci := 3) (st := []) dX3_lead_65 mw_X3_await wd_646 wd_648 wd_3 rfl rfl [.int l1] rfl rfl (Nat.le_of_ble_eq_true rfl) (show d - 1 + 1 ≤ d by omega) h (fun o26 e27 => tX3_await (d := d - 1) (by omega) e27) (fun o26 e27 h => ?_)
      cases h
      exact zv_vret dX3_lead_68 rfl
  · cases h
    exact zv_vret dX3_lead_32 rfl
def mX3_lead_21 (N : Nat) (l0 : Nat) (l1 : Int32) (l2 : Int32) (l3 : Int32) (s0 : Nat) (x : zv_X) : Option zv_X := mX3_lead_22 N l0 l1 l2 l3 (0 : Int32) s0 x
theorem kX3_lead_21 {d : Nat} {x0 : zv_X} {o : zv_X} (hd : 1 ≤ d) {N : Nat} (l0 : Nat) (l1 : Int32) (l2 : Int32) (l3 : Int32) (s0 : Nat) (x : zv_X) (h : mX3_lead_21 N l0 l1 l2 l3 s0 x = some o) : zv_V (fX3_lead d x0 o) 21 [(0, .ref l0), (1, .int l1), (2, .int l2), (3, .int l3)] [.ref s0] x := by
  unfold mX3_lead_21 at h
  refine zv_iconst (v := 0) dX3_lead_21 (by decide) ?_
  exact kX3_lead_22 hd _ _ _ _ _ _ _ h
def mX3_lead_0 (N : Nat) (l0 : Nat) (l1 : Int32) (l2 : Int32) (l3 : Int32) (x : zv_X) : Option zv_X := if l1 < 0 then (mX3_lead_21 N l0 l1 l2 l3 l0 x) else ((zm_R x l0 3 8).bind fun v1 => (zm_R x v1 6 0).bind fun v3 => (zm_n x v3).bind fun v5 => if v5 ≤ l1 then (mX3_lead_21 N l0 l1 l2 l3 l0 x) else (mX3_lead_22 N l0 l1 l2 l3 (1 : Int32) l0 x))
theorem kX3_lead_0 {d : Nat} {x0 : zv_X} {o : zv_X} (hd : 1 ≤ d) {N : Nat} (l0 : Nat) (l1 : Int32) (l2 : Int32) (l3 : Int32) (x : zv_X) (h : mX3_lead_0 N l0 l1 l2 l3 x = some o) : zv_V (fX3_lead d x0 o) 0 [(0, .ref l0), (1, .int l1), (2, .int l2), (3, .int l3)] [] x := by
  unfold mX3_lead_0 at h
  refine zv_aload_n (n := 0) dX3_lead_0 rfl rfl ?_
  refine zv_iload_n (n := 1) dX3_lead_1 rfl rfl ?_
  refine zr_if_lt (tgt := 21) dX3_lead_2 (by decide) h (fun c8 h => ?_) (fun c8 h => ?_)
  · exact kX3_lead_21 hd _ _ _ _ _ _ h
  · refine zv_iload_n (n := 1) dX3_lead_5 rfl rfl ?_
    refine zv_aload_n (n := 0) dX3_lead_6 rfl rfl ?_
    refine zr_gR dX3_lead_7 fg_219 h (fun v1 e2 h => ?_)
    refine zr_gR dX3_lead_10 fg_313 h (fun v3 e4 h => ?_)
    refine zr_n dX3_lead_13 h (fun v5 e6 h => ?_)
    refine zr_icmp_ge (tgt := 21) dX3_lead_14 (by decide) h (fun c7 h => ?_) (fun c7 h => ?_)
    · exact kX3_lead_21 hd _ _ _ _ _ _ h
    · refine zv_iconst (v := 1) dX3_lead_17 (by decide) ?_
      refine zv_goto (tgt := 22) dX3_lead_18 (by decide) ?_
      exact kX3_lead_22 hd _ _ _ _ _ _ _ h
def mX3_lead (N : Nat) (a0 : Nat) (a1 : Int32) (a2 : Int32) (a3 : Int32) (x : zv_X) : Option zv_X := mX3_lead_0 N a0 a1 a2 a3 x
theorem tX3_lead {d : Nat} (hd : 1 ≤ d) {N : Nat} {x : zv_X} {a0 : Nat} {a1 : Int32} {a2 : Int32} {a3 : Int32} {o : zv_X} (h : mX3_lead N a0 a1 a2 a3 x = some o) : zv_T d yX3_lead cX3_lead 5 (none) [.ref a0, .int a1, .int a2, .int a3] x o none := by
  unfold mX3_lead at h
  exact zv_enter (by decide) (Nat.le_of_ble_eq_true rfl) (kX3_lead_0 hd _ _ _ _ _ h)

abbrev fX3_give (d : Nat) (x0 : zv_X) (o : zv_X) : zv_G := (d, RX3, cX3_give, 2, none, ("give", []), x0, o, zv_fin x0 o none)
def mX3_give_40 (N : Nat) (s0 : Int32) (s1 : Nat) (x : zv_X) : Option zv_X := if zm_k x s1 3 = true then ((mX3_require N s1 s0 x).bind fun o1 => some o1) else none
theorem kX3_give_40 {d : Nat} {x0 : zv_X} {o : zv_X} (hd : 1 ≤ d) {N : Nat} (s0 : Int32) (s1 : Nat) (x : zv_X) (h : mX3_give_40 N s0 s1 x = some o) : zv_V (fX3_give d x0 o) 40 [] [.int s0, .ref s1] x := by
  unfold mX3_give_40 at h
  refine zr_cVv (ci := 3) (st := []) dX3_give_40 mw_X3_require wd_642 wd_644 wd_2 rfl rfl [.int s0] rfl rfl (Nat.le_of_ble_eq_true rfl) (show d - 1 + 1 ≤ d by omega) h (fun o1 e2 => tX3_require (d := d - 1) (by omega) e2) (fun o1 e2 h => ?_)
  cases h
  exact zv_vret dX3_give_43 rfl
def mX3_give_0 (N : Nat) (l0 : Nat) (l1 : Int32) (x : zv_X) : Option zv_X := if l1 = 0 then (some x) else ((zm_I x l0 3 10).bind fun v1 => (zm_p x l0 3 10 (.int ((v1 <<< ((2 : Int32) &&& 31)) ||| l1))).bind fun x3 => (zm_I x3 l0 3 10).bind fun v5 => (zm_R x3 l0 3 8).bind fun v7 => (zm_I x3 v7 6 5).bind fun v9 => if ((Int32.toUInt32 v5 >>> (Int32.toUInt32 ((2 : Int32) * v9) &&& Int32.toUInt32 31)).toInt32) = 0 then (mX3_give_40 N (1 : Int32) l0 x3) else (mX3_give_40 N (0 : Int32) l0 x3))
theorem kX3_give_0 {d : Nat} {x0 : zv_X} {o : zv_X} (hd : 1 ≤ d) {N : Nat} (l0 : Nat) (l1 : Int32) (x : zv_X) (h : mX3_give_0 N l0 l1 x = some o) : zv_V (fX3_give d x0 o) 0 [(0, .ref l0), (1, .int l1)] [] x := by
  unfold mX3_give_0 at h
  refine zv_iload_n (n := 1) dX3_give_0 rfl rfl ?_
  refine zr_if_ne (tgt := 5) dX3_give_1 (by decide) h (fun c12 h => ?_) (fun c12 h => ?_)
  · refine zv_aload_n (n := 0) dX3_give_5 rfl rfl ?_
    refine zv_aload_n (n := 0) dX3_give_6 rfl rfl ?_
    refine zr_gI dX3_give_7 fg_221 h (fun v1 e2 h => ?_)
    refine zv_iconst (v := 2) dX3_give_10 (by decide) ?_
    refine zv_ishl dX3_give_11 ?_
    refine zv_iload_n (n := 1) dX3_give_12 rfl rfl ?_
    refine zv_ior dX3_give_13 ?_
    refine zr_p dX3_give_14 fl_221 (fun q => nomatch q) rfl rfl h (fun x3 e4 h => ?_)
    refine zv_aload_n (n := 0) dX3_give_17 rfl rfl ?_
    refine zv_aload_n (n := 0) dX3_give_18 rfl rfl ?_
    refine zr_gI dX3_give_19 fg_221 h (fun v5 e6 h => ?_)
    refine zv_iconst (v := 2) dX3_give_22 (by decide) ?_
    refine zv_aload_n (n := 0) dX3_give_23 rfl rfl ?_
    refine zr_gR dX3_give_24 fg_219 h (fun v7 e8 h => ?_)
    refine zr_gI dX3_give_27 fg_325 h (fun v9 e10 h => ?_)
    refine zv_imul dX3_give_30 ?_
    refine zv_iushr dX3_give_31 ?_
    refine zr_if_ne (tgt := 39) dX3_give_32 (by decide) h (fun c11 h => ?_) (fun c11 h => ?_)
    · refine zv_iconst (v := 0) dX3_give_39 (by decide) ?_
      exact zv_fewer [] rfl (kX3_give_40 hd _ _ _ h)
    · refine zv_iconst (v := 1) dX3_give_35 (by decide) ?_
      refine zv_goto (tgt := 40) dX3_give_36 (by decide) ?_
      exact zv_fewer [] rfl (kX3_give_40 hd _ _ _ h)
  · cases h
    exact zv_vret dX3_give_4 rfl
def mX3_give (N : Nat) (a0 : Nat) (a1 : Int32) (x : zv_X) : Option zv_X := mX3_give_0 N a0 a1 x
theorem tX3_give {d : Nat} (hd : 1 ≤ d) {N : Nat} {x : zv_X} {a0 : Nat} {a1 : Int32} {o : zv_X} (h : mX3_give N a0 a1 x = some o) : zv_T d yX3_give cX3_give 2 (none) [.ref a0, .int a1] x o none := by
  unfold mX3_give at h
  exact zv_enter (by decide) (Nat.le_of_ble_eq_true rfl) (kX3_give_0 hd _ _ _ h)

abbrev fX3_takeNarrow (d : Nat) (x0 : zv_X) (o : (zv_X × Int32)) : zv_G := (d, RX3, cX3_takeNarrow, 2, (some .int), ("takeNarrow", []), x0, o.1, zv_fin x0 o.1 (some (.int o.2)))
def mX3_takeNarrow_23 (N : Nat) (l0 : Nat) (l1 : Int32) (s0 : Int32) (s1 : Nat) (x : zv_X) : Option (zv_X × Int32) := if zm_k x s1 3 = true then ((mX3_require N s1 s0 x).bind fun o1 => (zm_I o1 l0 3 10).bind fun v3 => (zm_p o1 l0 3 10 (.int ((Int32.toUInt32 v3 >>> (Int32.toUInt32 (2 : Int32) &&& Int32.toUInt32 31)).toInt32))).bind fun x5 => some (x5, l1)) else none
theorem kX3_takeNarrow_23 {d : Nat} {x0 : zv_X} {o : (zv_X × Int32)} (hd : 1 ≤ d) {N : Nat} (l0 : Nat) (l1 : Int32) (s0 : Int32) (s1 : Nat) (x : zv_X) (h : mX3_takeNarrow_23 N l0 l1 s0 s1 x = some o) : zv_V (fX3_takeNarrow d x0 o) 23 [(0, .ref l0), (1, .int l1)] [.int s0, .ref s1] x := by
  unfold mX3_takeNarrow_23 at h
  refine zr_cVv (ci := 3) (st := []) dX3_takeNarrow_23 mw_X3_require wd_642 wd_644 wd_2 rfl rfl [.int s0] rfl rfl (Nat.le_of_ble_eq_true rfl) (show d - 1 + 1 ≤ d by omega) h (fun o1 e2 => tX3_require (d := d - 1) (by omega) e2) (fun o1 e2 h => ?_)
  refine zv_aload_n (n := 0) dX3_takeNarrow_26 rfl rfl ?_
  refine zv_dup dX3_takeNarrow_27 rfl ?_
  refine zr_gI dX3_takeNarrow_28 fg_221 h (fun v3 e4 h => ?_)
  refine zv_iconst (v := 2) dX3_takeNarrow_31 (by decide) ?_
  refine zv_iushr dX3_takeNarrow_32 ?_
  refine zr_p dX3_takeNarrow_33 fl_221 (fun q => nomatch q) rfl rfl h (fun x5 e6 h => ?_)
  refine zv_iload_n (n := 1) dX3_takeNarrow_36 rfl rfl ?_
  cases h
  exact zv_iret dX3_takeNarrow_37 rfl
def mX3_takeNarrow_18 (N : Nat) (l0 : Nat) (l1 : Int32) (s0 : Nat) (x : zv_X) : Option (zv_X × Int32) := mX3_takeNarrow_23 N l0 l1 (1 : Int32) s0 x
theorem kX3_takeNarrow_18 {d : Nat} {x0 : zv_X} {o : (zv_X × Int32)} (hd : 1 ≤ d) {N : Nat} (l0 : Nat) (l1 : Int32) (s0 : Nat) (x : zv_X) (h : mX3_takeNarrow_18 N l0 l1 s0 x = some o) : zv_V (fX3_takeNarrow d x0 o) 18 [(0, .ref l0), (1, .int l1)] [.ref s0] x := by
  unfold mX3_takeNarrow_18 at h
  refine zv_iconst (v := 1) dX3_takeNarrow_18 (by decide) ?_
  refine zv_goto (tgt := 23) dX3_takeNarrow_19 (by decide) ?_
  exact kX3_takeNarrow_23 hd _ _ _ _ _ h
def mX3_takeNarrow_0 (N : Nat) (l0 : Nat) (x : zv_X) : Option (zv_X × Int32) := (zm_I x l0 3 10).bind fun v1 => if (v1 &&& (3 : Int32)) = (1 : Int32) then (mX3_takeNarrow_18 N l0 (v1 &&& (3 : Int32)) l0 x) else (if (v1 &&& (3 : Int32)) = (3 : Int32) then (mX3_takeNarrow_18 N l0 (v1 &&& (3 : Int32)) l0 x) else (mX3_takeNarrow_23 N l0 (v1 &&& (3 : Int32)) (0 : Int32) l0 x))
theorem kX3_takeNarrow_0 {d : Nat} {x0 : zv_X} {o : (zv_X × Int32)} (hd : 1 ≤ d) {N : Nat} (l0 : Nat) (x : zv_X) (h : mX3_takeNarrow_0 N l0 x = some o) : zv_V (fX3_takeNarrow d x0 o) 0 [(0, .ref l0)] [] x := by
  unfold mX3_takeNarrow_0 at h
  refine zv_aload_n (n := 0) dX3_takeNarrow_0 rfl rfl ?_
  refine zr_gI dX3_takeNarrow_1 fg_221 h (fun v1 e2 h => ?_)
  refine zv_iconst (v := 3) dX3_takeNarrow_4 (by decide) ?_
  refine zv_iand dX3_takeNarrow_5 ?_
  refine zv_istore_n (L' := [(1, .int (v1 &&& (3 : Int32))), (0, .ref l0)]) dX3_takeNarrow_6 rfl (Nat.le_of_ble_eq_true rfl) rfl ?_
  refine zv_aload_n (n := 1) dX3_takeNarrow_7 rfl rfl ?_
  refine zv_iload_n (n := 0) dX3_takeNarrow_8 rfl rfl ?_
  refine zv_iconst (v := 1) dX3_takeNarrow_9 (by decide) ?_
  refine zr_icmp_eq (tgt := 18) dX3_takeNarrow_10 (by decide) h (fun c4 h => ?_) (fun c4 h => ?_)
  · exact zv_fewer [1, 0] rfl (kX3_takeNarrow_18 hd _ _ _ _ h)
  · refine zv_iload_n (n := 0) dX3_takeNarrow_13 rfl rfl ?_
    refine zv_iconst (v := 3) dX3_takeNarrow_14 (by decide) ?_
    refine zr_icmp_ne (tgt := 22) dX3_takeNarrow_15 (by decide) h (fun c3 h => ?_) (fun c3 h => ?_)
    · refine zv_iconst (v := 0) dX3_takeNarrow_22 (by decide) ?_
      exact zv_fewer [1, 0] rfl (kX3_takeNarrow_23 hd _ _ _ _ _ h)
    · exact zv_fewer [1, 0] rfl (kX3_takeNarrow_18 hd _ _ _ _ h)
def mX3_takeNarrow (N : Nat) (a0 : Nat) (x : zv_X) : Option (zv_X × Int32) := mX3_takeNarrow_0 N a0 x
theorem tX3_takeNarrow {d : Nat} (hd : 1 ≤ d) {N : Nat} {x : zv_X} {a0 : Nat} {o : (zv_X × Int32)} (h : mX3_takeNarrow N a0 x = some o) : zv_T d yX3_takeNarrow cX3_takeNarrow 2 ((some .int)) [.ref a0] x o.1 (some (.int o.2)) := by
  unfold mX3_takeNarrow at h
  exact zv_enter (by decide) (Nat.le_of_ble_eq_true rfl) (kX3_takeNarrow_0 hd _ _ h)

abbrev fX3_duplicate (d : Nat) (x0 : zv_X) (o : zv_X) : zv_G := (d, RX3, cX3_duplicate, 2, none, ("duplicate", []), x0, o, zv_fin x0 o none)
def mX3_duplicate_0 (N : Nat) (l0 : Nat) (x : zv_X) : Option zv_X := if zm_k x l0 3 = true then ((mX3_takeNarrow N l0 x).bind fun o1 => if zm_k o1.1 l0 3 = true then ((mX3_give N l0 o1.2 o1.1).bind fun o3 => if zm_k o3 l0 3 = true then ((mX3_give N l0 o1.2 o3).bind fun o5 => some o5) else none) else none) else none
theorem kX3_duplicate_0 {d : Nat} {x0 : zv_X} {o : zv_X} (hd : 2 ≤ d) {N : Nat} (l0 : Nat) (x : zv_X) (h : mX3_duplicate_0 N l0 x = some o) : zv_V (fX3_duplicate d x0 o) 0 [(0, .ref l0)] [] x := by
  unfold mX3_duplicate_0 at h
  refine zv_aload_n (n := 0) dX3_duplicate_0 rfl rfl ?_
  refine zr_cVi (ci := 3) (st := []) dX3_duplicate_1 mw_X3_takeNarrow wd_713 wd_715 wd_10 rfl rfl [] rfl rfl (Nat.le_of_ble_eq_true rfl) (show d - 1 + 1 ≤ d by omega) h (fun o1 e2 => tX3_takeNarrow (d := d - 1) (by omega) e2) (fun o1 e2 h => ?_)
  refine zv_istore_n (L' := [(1, .int o1.2), (0, .ref l0)]) dX3_duplicate_4 rfl (Nat.le_of_ble_eq_true rfl) rfl ?_
  refine zv_aload_n (n := 1) dX3_duplicate_5 rfl rfl ?_
  refine zv_iload_n (n := 0) dX3_duplicate_6 rfl rfl ?_
  refine zr_cVv (ci := 3) (st := []) dX3_duplicate_7 mw_X3_give wd_721 wd_723 wd_12 rfl rfl [.int o1.2] rfl rfl (Nat.le_of_ble_eq_true rfl) (show d - 1 + 1 ≤ d by omega) h (fun o3 e4 => tX3_give (d := d - 1) (by omega) e4) (fun o3 e4 h => ?_)
  refine zv_aload_n (n := 1) dX3_duplicate_10 rfl rfl ?_
  refine zv_iload_n (n := 0) dX3_duplicate_11 rfl rfl ?_
  refine zr_cVv (ci := 3) (st := []) dX3_duplicate_12 mw_X3_give wd_721 wd_723 wd_12 rfl rfl [.int o1.2] rfl rfl (Nat.le_of_ble_eq_true rfl) (show d - 1 + 1 ≤ d by omega) h (fun o5 e6 => tX3_give (d := d - 1) (by omega) e6) (fun o5 e6 h => ?_)
  cases h
  exact zv_vret dX3_duplicate_15 rfl
def mX3_duplicate (N : Nat) (a0 : Nat) (x : zv_X) : Option zv_X := mX3_duplicate_0 N a0 x
theorem tX3_duplicate {d : Nat} (hd : 2 ≤ d) {N : Nat} {x : zv_X} {a0 : Nat} {o : zv_X} (h : mX3_duplicate N a0 x = some o) : zv_T d yX3_duplicate cX3_duplicate 2 (none) [.ref a0] x o none := by
  unfold mX3_duplicate at h
  exact zv_enter (by decide) (Nat.le_of_ble_eq_true rfl) (kX3_duplicate_0 hd _ _ h)

abbrev fX3_exchange (d : Nat) (x0 : zv_X) (o : zv_X) : zv_G := (d, RX3, cX3_exchange, 3, none, ("exchange", []), x0, o, zv_fin x0 o none)
def mX3_exchange_0 (N : Nat) (l0 : Nat) (x : zv_X) : Option zv_X := if zm_k x l0 3 = true then ((mX3_takeNarrow N l0 x).bind fun o1 => if zm_k o1.1 l0 3 = true then ((mX3_takeNarrow N l0 o1.1).bind fun o3 => if zm_k o3.1 l0 3 = true then ((mX3_give N l0 o1.2 o3.1).bind fun o5 => if zm_k o5 l0 3 = true then ((mX3_give N l0 o3.2 o5).bind fun o7 => some o7) else none) else none) else none) else none
theorem kX3_exchange_0 {d : Nat} {x0 : zv_X} {o : zv_X} (hd : 2 ≤ d) {N : Nat} (l0 : Nat) (x : zv_X) (h : mX3_exchange_0 N l0 x = some o) : zv_V (fX3_exchange d x0 o) 0 [(0, .ref l0)] [] x := by
  unfold mX3_exchange_0 at h
  refine zv_aload_n (n := 0) dX3_exchange_0 rfl rfl ?_
  refine zr_cVi (ci := 3) (st := []) dX3_exchange_1 mw_X3_takeNarrow wd_713 wd_715 wd_10 rfl rfl [] rfl rfl (Nat.le_of_ble_eq_true rfl) (show d - 1 + 1 ≤ d by omega) h (fun o1 e2 => tX3_takeNarrow (d := d - 1) (by omega) e2) (fun o1 e2 h => ?_)
  refine zv_istore_n (L' := [(1, .int o1.2), (0, .ref l0)]) dX3_exchange_4 rfl (Nat.le_of_ble_eq_true rfl) rfl ?_
  refine zv_aload_n (n := 1) dX3_exchange_5 rfl rfl ?_
  refine zr_cVi (ci := 3) (st := []) dX3_exchange_6 mw_X3_takeNarrow wd_713 wd_715 wd_10 rfl rfl [] rfl rfl (Nat.le_of_ble_eq_true rfl) (show d - 1 + 1 ≤ d by omega) h (fun o3 e4 => tX3_takeNarrow (d := d - 1) (by omega) e4) (fun o3 e4 h => ?_)
  refine zv_istore_n (L' := [(2, .int o3.2), (1, .int o1.2), (0, .ref l0)]) dX3_exchange_9 rfl (Nat.le_of_ble_eq_true rfl) rfl ?_
  refine zv_aload_n (n := 2) dX3_exchange_10 rfl rfl ?_
  refine zv_iload_n (n := 1) dX3_exchange_11 rfl rfl ?_
  refine zr_cVv (ci := 3) (st := []) dX3_exchange_12 mw_X3_give wd_721 wd_723 wd_12 rfl rfl [.int o1.2] rfl rfl (Nat.le_of_ble_eq_true rfl) (show d - 1 + 1 ≤ d by omega) h (fun o5 e6 => tX3_give (d := d - 1) (by omega) e6) (fun o5 e6 h => ?_)
  refine zv_aload_n (n := 2) dX3_exchange_15 rfl rfl ?_
  refine zv_iload_n (n := 0) dX3_exchange_16 rfl rfl ?_
  refine zr_cVv (ci := 3) (st := []) dX3_exchange_17 mw_X3_give wd_721 wd_723 wd_12 rfl rfl [.int o3.2] rfl rfl (Nat.le_of_ble_eq_true rfl) (show d - 1 + 1 ≤ d by omega) h (fun o7 e8 => tX3_give (d := d - 1) (by omega) e8) (fun o7 e8 h => ?_)
  cases h
  exact zv_vret dX3_exchange_20 rfl
def mX3_exchange (N : Nat) (a0 : Nat) (x : zv_X) : Option zv_X := mX3_exchange_0 N a0 x
theorem tX3_exchange {d : Nat} (hd : 2 ≤ d) {N : Nat} {x : zv_X} {a0 : Nat} {o : zv_X} (h : mX3_exchange N a0 x = some o) : zv_T d yX3_exchange cX3_exchange 3 (none) [.ref a0] x o none := by
  unfold mX3_exchange at h
  exact zv_enter (by decide) (Nat.le_of_ble_eq_true rfl) (kX3_exchange_0 hd _ _ h)

abbrev fX6_at (d : Nat) (x0 : zv_X) (o : (zv_X × Int32)) : zv_G := (d, RX6, cX6_at, 2, (some .int), ("at", []), x0, o.1, zv_fin x0 o.1 (some (.int o.2)))
def mX6_at_0 (N : Nat) (l0 : Nat) (l1 : Int32) (x : zv_X) : Option (zv_X × Int32) := (zm_R x l0 6 0).bind fun v1 => (zm_aB x v1 l1).bind fun v3 => some (x, v3 &&& (255 : Int32))
theorem kX6_at_0 {d : Nat} {x0 : zv_X} {o : (zv_X × Int32)} (hd : 0 ≤ d) {N : Nat} (l0 : Nat) (l1 : Int32) (x : zv_X) (h : mX6_at_0 N l0 l1 x = some o) : zv_V (fX6_at d x0 o) 0 [(0, .ref l0), (1, .int l1)] [] x := by
  unfold mX6_at_0 at h
  refine zv_aload_n (n := 0) dX6_at_0 rfl rfl ?_
  refine zr_gR dX6_at_1 fg_312 h (fun v1 e2 h => ?_)
  refine zv_iload_n (n := 1) dX6_at_4 rfl rfl ?_
  refine zr_aB dX6_at_5 h (fun v3 e4 h => ?_)
  refine zv_sipush (v := 255) dX6_at_6 (by decide) ?_
  refine zv_iand dX6_at_9 ?_
  cases h
  exact zv_iret dX6_at_10 rfl
def mX6_at (N : Nat) (a0 : Nat) (a1 : Int32) (x : zv_X) : Option (zv_X × Int32) := mX6_at_0 N a0 a1 x
theorem tX6_at {d : Nat} (hd : 0 ≤ d) {N : Nat} {x : zv_X} {a0 : Nat} {a1 : Int32} {o : (zv_X × Int32)} (h : mX6_at N a0 a1 x = some o) : zv_T d yX6_at cX6_at 2 ((some .int)) [.ref a0, .int a1] x o.1 (some (.int o.2)) := by
  unfold mX6_at at h
  exact zv_enter (by decide) (Nat.le_of_ble_eq_true rfl) (kX6_at_0 hd _ _ _ h)

abbrev fX7_kindOfField (d : Nat) (x0 : zv_X) (o : (zv_X × Int32)) : zv_G := (d, RX7, cX7_kindOfField, 3, (some .int), ("kindOfField", []), x0, o.1, zv_fin x0 o.1 (some (.int o.2)))
def mX7_kindOfField_19 (N : Nat) (s0 : Int32) (x : zv_X) : Option (zv_X × Int32) := some (x, s0)
theorem kX7_kindOfField_19 {d : Nat} {x0 : zv_X} {o : (zv_X × Int32)} (hd : 0 ≤ d) {N : Nat} (s0 : Int32) (x : zv_X) (h : mX7_kindOfField_19 N s0 x = some o) : zv_V (fX7_kindOfField d x0 o) 19 [] [.int s0] x := by
  unfold mX7_kindOfField_19 at h
  cases h
  exact zv_iret dX7_kindOfField_19 rfl
def mX7_kindOfField_0 (N : Nat) (l0 : Nat) (l1 : Int32) (l2 : Int32) (x : zv_X) : Option (zv_X × Int32) := (zm_R x l0 7 2).bind fun v1 => (zm_aI x v1 l1).bind fun v3 => if ((v3 >>> (l2 &&& 31)) &&& (1 : Int32)) = (1 : Int32) then (mX7_kindOfField_19 N (3 : Int32) x) else (mX7_kindOfField_19 N (1 : Int32) x)
theorem kX7_kindOfField_0 {d : Nat} {x0 : zv_X} {o : (zv_X × Int32)} (hd : 0 ≤ d) {N : Nat} (l0 : Nat) (l1 : Int32) (l2 : Int32) (x : zv_X) (h : mX7_kindOfField_0 N l0 l1 l2 x = some o) : zv_V (fX7_kindOfField d x0 o) 0 [(0, .ref l0), (1, .int l1), (2, .int l2)] [] x := by
  unfold mX7_kindOfField_0 at h
  refine zv_aload_n (n := 0) dX7_kindOfField_0 rfl rfl ?_
  refine zr_gR dX7_kindOfField_1 fg_144 h (fun v1 e2 h => ?_)
  refine zv_iload_n (n := 1) dX7_kindOfField_4 rfl rfl ?_
  refine zr_aI dX7_kindOfField_5 h (fun v3 e4 h => ?_)
  refine zv_iload_n (n := 2) dX7_kindOfField_6 rfl rfl ?_
  refine zv_ishr dX7_kindOfField_7 ?_
  refine zv_iconst (v := 1) dX7_kindOfField_8 (by decide) ?_
  refine zv_iand dX7_kindOfField_9 ?_
  refine zv_iconst (v := 1) dX7_kindOfField_10 (by decide) ?_
  refine zr_icmp_ne (tgt := 18) dX7_kindOfField_11 (by decide) h (fun c5 h => ?_) (fun c5 h => ?_)
  · refine zv_iconst (v := 1) dX7_kindOfField_18 (by decide) ?_
    exact zv_fewer [] rfl (kX7_kindOfField_19 hd _ _ h)
  · refine zv_iconst (v := 3) dX7_kindOfField_14 (by decide) ?_
    refine zv_goto (tgt := 19) dX7_kindOfField_15 (by decide) ?_
    exact zv_fewer [] rfl (kX7_kindOfField_19 hd _ _ h)
def mX7_kindOfField (N : Nat) (a0 : Nat) (a1 : Int32) (a2 : Int32) (x : zv_X) : Option (zv_X × Int32) := mX7_kindOfField_0 N a0 a1 a2 x
theorem tX7_kindOfField {d : Nat} (hd : 0 ≤ d) {N : Nat} {x : zv_X} {a0 : Nat} {a1 : Int32} {a2 : Int32} {o : (zv_X × Int32)} (h : mX7_kindOfField N a0 a1 a2 x = some o) : zv_T d yX7_kindOfField cX7_kindOfField 3 ((some .int)) [.ref a0, .int a1, .int a2] x o.1 (some (.int o.2)) := by
  unfold mX7_kindOfField at h
  exact zv_enter (by decide) (Nat.le_of_ble_eq_true rfl) (kX7_kindOfField_0 hd _ _ _ _ h)

abbrev fX3_fieldKind (d : Nat) (x0 : zv_X) (o : (zv_X × Int32)) : zv_G := (d, RX3, cX3_fieldKind, 5, (some .int), ("fieldKind", []), x0, o.1, zv_fin x0 o.1 (some (.int o.2)))
def mX3_fieldKind_77 (N : Nat) (s0 : Int32) (x : zv_X) : Option (zv_X × Int32) := some (x, s0)
theorem kX3_fieldKind_77 {d : Nat} {x0 : zv_X} {o : (zv_X × Int32)} (hd : 1 ≤ d) {N : Nat} (s0 : Int32) (x : zv_X) (h : mX3_fieldKind_77 N s0 x = some o) : zv_V (fX3_fieldKind d x0 o) 77 [] [.int s0] x := by
  unfold mX3_fieldKind_77 at h
  cases h
  exact zv_iret dX3_fieldKind_77 rfl
def mX3_fieldKind_51 (N : Nat) (l0 : Nat) (l2 : Int32) (l3 : Int32) (s0 : Int32) (x : zv_X) : Option (zv_X × Int32) := if zm_k x l0 3 = true then ((mX3_require N l0 s0 x).bind fun o1 => if s0 = 0 then (mX3_fieldKind_77 N (0 : Int32) o1) else ((zm_R o1 l0 3 0).bind fun v3 => if zm_k o1 v3 7 = true then ((mX7_kindOfField N v3 l2 l3 o1).bind fun o5 => mX3_fieldKind_77 N o5.2 o5.1) else none)) else none
theorem kX3_fieldKind_51 {d : Nat} {x0 : zv_X} {o : (zv_X × Int32)} (hd : 1 ≤ d) {N : Nat} (l0 : Nat) (l2 : Int32) (l3 : Int32) (s0 : Int32) (x : zv_X) (h : mX3_fieldKind_51 N l0 l2 l3 s0 x = some o) : zv_V (fX3_fieldKind d x0 o) 51 [(0, .ref l0), (2, .int l2), (3, .int l3)] [.int s0] x := by
  unfold mX3_fieldKind_51 at h
  refine zv_istore (L' := [(4, .int s0), (0, .ref l0), (2, .int l2), (3, .int l3)]) dX3_fieldKind_51 (Nat.le_of_ble_eq_true rfl) rfl ?_
  refine zv_aload_n (n := 1) dX3_fieldKind_53 rfl rfl ?_
  refine zv_iload (n := 0) dX3_fieldKind_54 rfl ?_
  refine zr_cVv (ci := 3) (st := []) dX3_fieldKind_56 mw_X3_require wd_642 wd_644 wd_2 rfl rfl [.int s0] rfl rfl (Nat.le_of_ble_eq_true rfl) (show d - 1 + 1 ≤ d by omega) h (fun o1 e2 => tX3_require (d := d - 1) (by omega) e2) (fun o1 e2 h => ?_)
  refine zv_iload (n := 0) dX3_fieldKind_59 rfl ?_
  refine zr_if_eq (tgt := 76) dX3_fieldKind_61 (by decide) h (fun c7 h => ?_) (fun c7 h => ?_)
  · refine zv_iconst (v := 0) dX3_fieldKind_76 (by decide) ?_
    exact zv_fewer [] rfl (kX3_fieldKind_77 hd _ _ h)
  · refine zv_aload_n (n := 1) dX3_fieldKind_64 rfl rfl ?_
    refine zr_gR dX3_fieldKind_65 fg_211 h (fun v3 e4 h => ?_)
    refine zv_iload_n (n := 2) dX3_fieldKind_68 rfl rfl ?_
    refine zv_iload_n (n := 3) dX3_fieldKind_69 rfl rfl ?_
    refine zr_cVi (ci := 7) (st := []) dX3_fieldKind_70 mw_X7_kindOfField wd_734 wd_735 wd_736 rfl rfl [.int l2, .int l3] rfl rfl (Nat.le_of_ble_eq_true rfl) (show d - 1 + 1 ≤ d by omega) h (fun o5 e6 => tX7_kindOfField (d := d - 1) (by omega) e6) (fun o5 e6 h => ?_)
    refine zv_goto (tgt := 77) dX3_fieldKind_73 (by decide) ?_
    exact zv_fewer [] rfl (kX3_fieldKind_77 hd _ _ h)
def mX3_fieldKind_50 (N : Nat) (l0 : Nat) (l2 : Int32) (l3 : Int32) (x : zv_X) : Option (zv_X × Int32) := mX3_fieldKind_51 N l0 l2 l3 (0 : Int32) x
theorem kX3_fieldKind_50 {d : Nat} {x0 : zv_X} {o : (zv_X × Int32)} (hd : 1 ≤ d) {N : Nat} (l0 : Nat) (l2 : Int32) (l3 : Int32) (x : zv_X) (h : mX3_fieldKind_50 N l0 l2 l3 x = some o) : zv_V (fX3_fieldKind d x0 o) 50 [(0, .ref l0), (2, .int l2), (3, .int l3)] [] x := by
  unfold mX3_fieldKind_50 at h
  refine zv_iconst (v := 0) dX3_fieldKind_50 (by decide) ?_
  exact kX3_fieldKind_51 hd _ _ _ _ _ h
def mX3_fieldKind_0 (N : Nat) (l0 : Nat) (l1 : Int32) (x : zv_X) : Option (zv_X × Int32) := (zm_R x l0 3 8).bind fun v1 => if zm_k x v1 6 = true then ((mX6_at N v1 (l1 + (1 : Int32)) x).bind fun o3 => (zm_R o3.1 l0 3 8).bind fun v5 => if zm_k o3.1 v5 6 = true then ((mX6_at N v5 (l1 + (2 : Int32)) o3.1).bind fun o7 => (zm_R o7.1 l0 3 0).bind fun v9 => if zm_k o7.1 v9 7 = true then ((mX7_has N v9 o3.2 o7.1).bind fun o11 => if o11.2 = 0 then (mX3_fieldKind_50 N l0 o3.2 o7.2 o11.1) else ((zm_R o11.1 l0 3 0).bind fun v13 => (zm_R o11.1 v13 7 1).bind fun v15 => (zm_aI o11.1 v15 o3.2).bind fun v17 => if v17 ≤ o7.2 then (mX3_fieldKind_50 N l0 o3.2 o7.2 o11.1) else (mX3_fieldKind_51 N l0 o3.2 o7.2 (1 : Int32) o11.1))) else none) else none) else none
theorem kX3_fieldKind_0 {d : Nat} {x0 : zv_X} {o : (zv_X × Int32)} (hd : 1 ≤ d) {N : Nat} (l0 : Nat) (l1 : Int32) (x : zv_X) (h : mX3_fieldKind_0 N l0 l1 x = some o) : zv_V (fX3_fieldKind d x0 o) 0 [(0, .ref l0), (1, .int l1)] [] x := by
  unfold mX3_fieldKind_0 at h
  refine zv_aload_n (n := 0) dX3_fieldKind_0 rfl rfl ?_
  refine zr_gR dX3_fieldKind_1 fg_219 h (fun v1 e2 h => ?_)
  refine zv_iload_n (n := 1) dX3_fieldKind_4 rfl rfl ?_
  refine zv_iconst (v := 1) dX3_fieldKind_5 (by decide) ?_
  refine zv_iadd dX3_fieldKind_6 ?_
  refine zr_cVi (ci := 6) (st := []) dX3_fieldKind_7 mw_X6_at wd_658 wd_659 wd_660 rfl rfl [.int (l1 + (1 : Int32))] rfl rfl (Nat.le_of_ble_eq_true rfl) (show d - 1 + 1 ≤ d by omega) h (fun o3 e4 => tX6_at (d := d - 1) (by omega) e4) (fun o3 e4 h => ?_)
  refine zv_istore_n (L' := [(2, .int o3.2), (0, .ref l0), (1, .int l1)]) dX3_fieldKind_10 rfl (Nat.le_of_ble_eq_true rfl) rfl ?_
  refine zv_aload_n (n := 1) dX3_fieldKind_11 rfl rfl ?_
  refine zr_gR dX3_fieldKind_12 fg_219 h (fun v5 e6 h => ?_)
  refine zv_iload_n (n := 2) dX3_fieldKind_15 rfl rfl ?_
  refine zv_iconst (v := 2) dX3_fieldKind_16 (by decide) ?_
  refine zv_iadd dX3_fieldKind_17 ?_
  refine zr_cVi (ci := 6) (st := []) dX3_fieldKind_18 mw_X6_at wd_658 wd_659 wd_660 rfl rfl [.int (l1 + (2 : Int32))] rfl rfl (Nat.le_of_ble_eq_true rfl) (show d - 1 + 1 ≤ d by omega) h (fun o7 e8 => tX6_at (d := d - 1) (by omega) e8) (fun o7 e8 h => ?_)
  refine zv_istore_n (L' := [(3, .int o7.2), (2, .int o3.2), (0, .ref l0), (1, .int l1)]) dX3_fieldKind_21 rfl (Nat.le_of_ble_eq_true rfl) rfl ?_
  refine zv_aload_n (n := 2) dX3_fieldKind_22 rfl rfl ?_
  refine zr_gR dX3_fieldKind_23 fg_211 h (fun v9 e10 h => ?_)
  refine zv_iload_n (n := 1) dX3_fieldKind_26 rfl rfl ?_
  refine zr_cVi (ci := 7) (st := []) dX3_fieldKind_27 mw_X7_has wd_733 wd_541 wd_542 rfl rfl [.int o3.2] rfl rfl (Nat.le_of_ble_eq_true rfl) (show d - 1 + 1 ≤ d by omega) h (fun o11 e12 => tX7_has (d := d - 1) (by omega) e12) (fun o11 e12 h => ?_)
  refine zr_if_eq (tgt := 50) dX3_fieldKind_30 (by decide) h (fun c20 h => ?_) (fun c20 h => ?_)
  · exact zv_fewer [2, 1, 0] rfl (kX3_fieldKind_50 hd _ _ _ _ h)
  · refine zv_iload_n (n := 0) dX3_fieldKind_33 rfl rfl ?_
    refine zv_aload_n (n := 2) dX3_fieldKind_34 rfl rfl ?_
    refine zr_gR dX3_fieldKind_35 fg_211 h (fun v13 e14 h => ?_)
    refine zr_gR dX3_fieldKind_38 fg_143 h (fun v15 e16 h => ?_)
    refine zv_iload_n (n := 1) dX3_fieldKind_41 rfl rfl ?_
    refine zr_aI dX3_fieldKind_42 h (fun v17 e18 h => ?_)
    refine zr_icmp_ge (tgt := 50) dX3_fieldKind_43 (by decide) h (fun c19 h => ?_) (fun c19 h => ?_)
    · exact zv_fewer [2, 1, 0] rfl (kX3_fieldKind_50 hd _ _ _ _ h)
    · refine zv_iconst (v := 1) dX3_fieldKind_46 (by decide) ?_
      refine zv_goto (tgt := 51) dX3_fieldKind_47 (by decide) ?_
      exact zv_fewer [2, 1, 0] rfl (kX3_fieldKind_51 hd _ _ _ _ _ h)
def mX3_fieldKind (N : Nat) (a0 : Nat) (a1 : Int32) (x : zv_X) : Option (zv_X × Int32) := mX3_fieldKind_0 N a0 a1 x
theorem tX3_fieldKind {d : Nat} (hd : 1 ≤ d) {N : Nat} {x : zv_X} {a0 : Nat} {a1 : Int32} {o : (zv_X × Int32)} (h : mX3_fieldKind N a0 a1 x = some o) : zv_T d yX3_fieldKind cX3_fieldKind 5 ((some .int)) [.ref a0, .int a1] x o.1 (some (.int o.2)) := by
  unfold mX3_fieldKind at h
  exact zv_enter (by decide) (Nat.le_of_ble_eq_true rfl) (kX3_fieldKind_0 hd _ _ _ h)
