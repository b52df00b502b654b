abbrev fX3_isSortOfNumbers (d : Nat) (x0 : zv_X) (o : (zv_X × Int32)) : zv_G := (d, RX3, cX3_isSortOfNumbers, 1, (some .boolean), ("isSortOfNumbers", []), x0, o.1, zv_fin x0 o.1 (some (.int o.2)))
def mX3_isSortOfNumbers_28 (N : Nat) (s0 : Int32) (x : zv_X) : Option (zv_X × Int32) := if s0 = 0 ∨ s0 = 1 then some (x, s0) else none
theorem kX3_isSortOfNumbers_28 {d : Nat} {x0 : zv_X} {o : (zv_X × Int32)} (hd : 0 ≤ d) {N : Nat} (s0 : Int32) (x : zv_X) (h : mX3_isSortOfNumbers_28 N s0 x = some o) : zv_V (fX3_isSortOfNumbers d x0 o) 28 [] [.int s0] x := by
  unfold mX3_isSortOfNumbers_28 at h
  obtain ⟨hv, h⟩ := zg h
  cases h
  exact zv_zret dX3_isSortOfNumbers_28 rfl hv
def mX3_isSortOfNumbers_27 (N : Nat)  (x : zv_X) : Option (zv_X × Int32) := mX3_isSortOfNumbers_28 N (0 : Int32) x
theorem kX3_isSortOfNumbers_27 {d : Nat} {x0 : zv_X} {o : (zv_X × Int32)} (hd : 0 ≤ d) {N : Nat}  (x : zv_X) (h : mX3_isSortOfNumbers_27 N  x = some o) : zv_V (fX3_isSortOfNumbers d x0 o) 27 [] [] x := by
  unfold mX3_isSortOfNumbers_27 at h
  refine zv_iconst (v := 0) dX3_isSortOfNumbers_27 (by decide) ?_
  exact kX3_isSortOfNumbers_28 hd _ _ h
def mX3_isSortOfNumbers_0 (N : Nat) (l0 : Int32) (x : zv_X) : Option (zv_X × Int32) := if l0 < (4 : Int32) then (mX3_isSortOfNumbers_27 N x) else (if (11 : Int32) < l0 then (mX3_isSortOfNumbers_27 N x) else (if l0 = (6 : Int32) then (mX3_isSortOfNumbers_27 N x) else (if l0 = (7 : Int32) then (mX3_isSortOfNumbers_27 N x) else (mX3_isSortOfNumbers_28 N (1 : Int32) x))))
theorem kX3_isSortOfNumbers_0 {d : Nat} {x0 : zv_X} {o : (zv_X × Int32)} (hd : 0 ≤ d) {N : Nat} (l0 : Int32) (x : zv_X) (h : mX3_isSortOfNumbers_0 N l0 x = some o) : zv_V (fX3_isSortOfNumbers d x0 o) 0 [(0, .int l0)] [] x := by
  unfold mX3_isSortOfNumbers_0 at h
  refine zv_iload_n (n := 0) dX3_isSortOfNumbers_0 rfl rfl ?_
  refine zv_iconst (v := 4) dX3_isSortOfNumbers_1 (by decide) ?_
  refine zr_icmp_lt (tgt := 27) dX3_isSortOfNumbers_2 (by decide) h (fun c4 h => ?_) (fun c4 h => ?_)
  · exact zv_fewer [] rfl (kX3_isSortOfNumbers_27 hd _ h)
  · refine zv_iload_n (n := 0) dX3_isSortOfNumbers_5 rfl rfl ?_
    refine zv_bipush (v := 11) dX3_isSortOfNumbers_6 (by decide) ?_
    refine zr_icmp_gt (tgt := 27) dX3_isSortOfNumbers_8 (by decide) h (fun c3 h => ?_) (fun c3 h => ?_)
    · exact zv_fewer [] rfl (kX3_isSortOfNumbers_27 hd _ h)
    · refine zv_iload_n (n := 0) dX3_isSortOfNumbers_11 rfl rfl ?_
      refine zv_bipush (v := 6) dX3_isSortOfNumbers_12 (by decide) ?_
      refine zr_icmp_eq (tgt := 27) dX3_isSortOfNumbers_14 (by decide) h (fun c2 h => ?_) (fun c2 h => ?_)
      · exact zv_fewer [] rfl (kX3_isSortOfNumbers_27 hd _ h)
      · refine zv_iload_n (n := 0) dX3_isSortOfNumbers_17 rfl rfl ?_
        refine zv_bipush (v := 7) dX3_isSortOfNumbers_18 (by decide) ?_
        refine zr_icmp_eq (tgt := 27) dX3_isSortOfNumbers_20 (by decide) h (fun c1 h => ?_) (fun c1 h => ?_)
        · exact zv_fewer [] rfl (kX3_isSortOfNumbers_27 hd _ h)
        · refine zv_iconst (v := 1) dX3_isSortOfNumbers_23 (by decide) ?_
          refine zv_goto (tgt := 28) dX3_isSortOfNumbers_24 (by decide) ?_
          exact zv_fewer [] rfl (kX3_isSortOfNumbers_28 hd _ _ h)
def mX3_isSortOfNumbers (N : Nat) (a0 : Int32) (x : zv_X) : Option (zv_X × Int32) := mX3_isSortOfNumbers_0 N a0 x
theorem tX3_isSortOfNumbers {d : Nat} (hd : 0 ≤ d) {N : Nat} {x : zv_X} {a0 : Int32} {o : (zv_X × Int32)} (h : mX3_isSortOfNumbers N a0 x = some o) : zv_T d yX3_isSortOfNumbers cX3_isSortOfNumbers 1 ((some .boolean)) [.int a0] x o.1 (some (.int o.2)) := by
  unfold mX3_isSortOfNumbers at h
  exact zv_enter (by decide) (Nat.le_of_ble_eq_true rfl) (kX3_isSortOfNumbers_0 hd _ _ h)

abbrev fJ3_checkIndex_8e157 (d : Nat) (x0 : zv_X) (o : (zv_X × Int32)) : zv_G := (d, RJ3, cJ3_checkIndex_8e157, 3, (some .int), ("checkIndex", []), x0, o.1, zv_fin x0 o.1 (some (.int o.2)))
def mJ3_checkIndex_8e157_9 (N : Nat) (l0 : Int32) (l1 : Int32) (x : zv_X) : Option (zv_X × Int32) := none
theorem kJ3_checkIndex_8e157_9 {d : Nat} {x0 : zv_X} {o : (zv_X × Int32)} (hd : 0 ≤ d) {N : Nat} (l0 : Int32) (l1 : Int32) (x : zv_X) (h : mJ3_checkIndex_8e157_9 N l0 l1 x = some o) : zv_V (fJ3_checkIndex_8e157 d x0 o) 9 [(0, .int l0), (1, .int l1)] [] x := by
  unfold mJ3_checkIndex_8e157_9 at h
  cases h
def mJ3_checkIndex_8e157_0 (N : Nat) (l0 : Int32) (l1 : Int32) (x : zv_X) : Option (zv_X × Int32) := if l0 < 0 then (mJ3_checkIndex_8e157_9 N l0 l1 x) else (if l0 < l1 then (some (x, l0)) else (mJ3_checkIndex_8e157_9 N l0 l1 x))
theorem kJ3_checkIndex_8e157_0 {d : Nat} {x0 : zv_X} {o : (zv_X × Int32)} (hd : 0 ≤ d) {N : Nat} (l0 : Int32) (l1 : Int32) (x : zv_X) (h : mJ3_checkIndex_8e157_0 N l0 l1 x = some o) : zv_V (fJ3_checkIndex_8e157 d x0 o) 0 [(0, .int l0), (1, .int l1)] [] x := by
  unfold mJ3_checkIndex_8e157_0 at h
  refine zv_iload_n (n := 0) dJ3_checkIndex_8e157_0 rfl rfl ?_
  refine zr_if_lt (tgt := 9) dJ3_checkIndex_8e157_1 (by decide) h (fun c2 h => ?_) (fun c2 h => ?_)
  · exact kJ3_checkIndex_8e157_9 hd _ _ _ h
  · refine zv_iload_n (n := 0) dJ3_checkIndex_8e157_4 rfl rfl ?_
    refine zv_iload_n (n := 1) dJ3_checkIndex_8e157_5 rfl rfl ?_
    refine zr_icmp_lt (tgt := 16) dJ3_checkIndex_8e157_6 (by decide) h (fun c1 h => ?_) (fun c1 h => ?_)
    · refine zv_iload_n (n := 0) dJ3_checkIndex_8e157_16 rfl rfl ?_
      cases h
      exact zv_iret dJ3_checkIndex_8e157_17 rfl
    · exact kJ3_checkIndex_8e157_9 hd _ _ _ h
def mJ3_checkIndex_8e157 (N : Nat) (a0 : Int32) (a1 : Int32) (x : zv_X) : Option (zv_X × Int32) := mJ3_checkIndex_8e157_0 N a0 a1 x
theorem tJ3_checkIndex_8e157 {d : Nat} (hd : 0 ≤ d) {N : Nat} {x : zv_X} {a0 : Int32} {a1 : Int32} {o : (zv_X × Int32)} (h : mJ3_checkIndex_8e157 N a0 a1 x = some o) : zv_T d yJ3_checkIndex_8e157 cJ3_checkIndex_8e157 3 ((some .int)) [.int a0, .int a1, .null] x o.1 (some (.int o.2)) := by
  unfold mJ3_checkIndex_8e157 at h
  exact zv_enter (by decide) (Nat.le_of_ble_eq_true rfl) (zv_fewer [0, 1] rfl (kJ3_checkIndex_8e157_0 hd _ _ _ h))

abbrev fJ15_checkIndex_7cf53 (d : Nat) (x0 : zv_X) (o : (zv_X × Int32)) : zv_G := (d, RJ15, cJ15_checkIndex_7cf53, 2, (some .int), ("checkIndex", []), x0, o.1, zv_fin x0 o.1 (some (.int o.2)))
def mJ15_checkIndex_7cf53_0 (N : Nat) (l0 : Int32) (l1 : Int32) (x : zv_X) : Option (zv_X × Int32) := (mJ3_checkIndex_8e157 N l0 l1 x).bind fun o1 => some (o1.1, o1.2)
theorem kJ15_checkIndex_7cf53_0 {d : Nat} {x0 : zv_X} {o : (zv_X × Int32)} (hd : 1 ≤ d) {N : Nat} (l0 : Int32) (l1 : Int32) (x : zv_X) (h : mJ15_checkIndex_7cf53_0 N l0 l1 x = some o) : zv_V (fJ15_checkIndex_7cf53 d x0 o) 0 [(0, .int l0), (1, .int l1)] [] x := by
  unfold mJ15_checkIndex_7cf53_0 at h
  refine zv_iload_n (n := 0) dJ15_checkIndex_7cf53_0 rfl rfl ?_
  refine zv_iload_n (n := 1) dJ15_checkIndex_7cf53_1 rfl rfl ?_
  refine zv_null dJ15_checkIndex_7cf53_2 ?_
  refine zr_cSi (st := []) dJ15_checkIndex_7cf53_3 mw_J3_checkIndex_8e157 wd_750 wd_751 [.int l0, .int l1, .null] rfl rfl (Nat.le_of_ble_eq_true rfl) (show d - 1 + 1 ≤ d by omega) h (fun o1 e2 => tJ3_checkIndex_8e157 (d := d - 1) (by omega) e2) (fun o1 e2 h => ?_)
  cases h
  exact zv_iret dJ15_checkIndex_7cf53_6 rfl
def mJ15_checkIndex_7cf53 (N : Nat) (a0 : Int32) (a1 : Int32) (x : zv_X) : Option (zv_X × Int32) := mJ15_checkIndex_7cf53_0 N a0 a1 x
theorem tJ15_checkIndex_7cf53 {d : Nat} (hd : 1 ≤ d) {N : Nat} {x : zv_X} {a0 : Int32} {a1 : Int32} {o : (zv_X × Int32)} (h : mJ15_checkIndex_7cf53 N a0 a1 x = some o) : zv_T d yJ15_checkIndex_7cf53 cJ15_checkIndex_7cf53 2 ((some .int)) [.int a0, .int a1] x o.1 (some (.int o.2)) := by
  unfold mJ15_checkIndex_7cf53 at h
  exact zv_enter (by decide) (Nat.le_of_ble_eq_true rfl) (kJ15_checkIndex_7cf53_0 hd _ _ _ h)

abbrev fJx4a65c_elementData_915e3 (d : Nat) (x0 : zv_X) (o : (zv_X × Nat)) : zv_G := (d, RJx4a65c, cJx4a65c_elementData_915e3, 2, (some (.object "java/lang/Object")), ("elementData", []), x0, o.1, zv_fin x0 o.1 (some (.ref o.2)))
def mJx4a65c_elementData_915e3_0 (N : Nat) (l0 : Nat) (l1 : Int32) (x : zv_X) : Option (zv_X × Nat) := (zm_R x l0 5 1).bind fun v1 => (zm_aR x v1 l1).bind fun v3 => some (x, v3)
theorem kJx4a65c_elementData_915e3_0 {d : Nat} {x0 : zv_X} {o : (zv_X × Nat)} (hd : 0 ≤ d) {N : Nat} (l0 : Nat) (l1 : Int32) (x : zv_X) (h : mJx4a65c_elementData_915e3_0 N l0 l1 x = some o) : zv_V (fJx4a65c_elementData_915e3 d x0 o) 0 [(0, .ref l0), (1, .int l1)] [] x := by
  unfold mJx4a65c_elementData_915e3_0 at h
  refine zv_aload_n (n := 0) dJx4a65c_elementData_915e3_0 rfl rfl ?_
  refine zr_gR dJx4a65c_elementData_915e3_1 fg_193 h (fun v1 e2 h => ?_)
  refine zv_iload_n (n := 1) dJx4a65c_elementData_915e3_4 rfl rfl ?_
  refine zr_aR dJx4a65c_elementData_915e3_5 h (fun v3 e4 h => ?_)
  cases h
  exact zv_aret dJx4a65c_elementData_915e3_6 rfl (Or.inl ⟨_, rfl⟩)
def mJx4a65c_elementData_915e3 (N : Nat) (a0 : Nat) (a1 : Int32) (x : zv_X) : Option (zv_X × Nat) := mJx4a65c_elementData_915e3_0 N a0 a1 x
theorem tJx4a65c_elementData_915e3 {d : Nat} (hd : 0 ≤ d) {N : Nat} {x : zv_X} {a0 : Nat} {a1 : Int32} {o : (zv_X × Nat)} (h : mJx4a65c_elementData_915e3 N a0 a1 x = some o) : zv_T d yJx4a65c_elementData_915e3 cJx4a65c_elementData_915e3 2 ((some (.object "java/lang/Object"))) [.ref a0, .int a1] x o.1 (some (.ref o.2)) := by
  unfold mJx4a65c_elementData_915e3 at h
  exact zv_enter (by decide) (Nat.le_of_ble_eq_true rfl) (kJx4a65c_elementData_915e3_0 hd _ _ _ h)

abbrev fJx4a65c_get_915e3 (d : Nat) (x0 : zv_X) (o : (zv_X × Nat)) : zv_G := (d, RJx4a65c, cJx4a65c_get_915e3, 2, (some (.object "java/lang/Object")), ("get", []), x0, o.1, zv_fin x0 o.1 (some (.ref o.2)))
def mJx4a65c_get_915e3_0 (N : Nat) (l0 : Nat) (l1 : Int32) (x : zv_X) : Option (zv_X × Nat) := (zm_I x l0 5 2).bind fun v1 => (mJ15_checkIndex_7cf53 N l1 v1 x).bind fun o3 => if zm_k o3.1 l0 5 = true then ((mJx4a65c_elementData_915e3 N l0 l1 o3.1).bind fun o5 => some (o5.1, o5.2)) else none
theorem kJx4a65c_get_915e3_0 {d : Nat} {x0 : zv_X} {o : (zv_X × Nat)} (hd : 2 ≤ d) {N : Nat} (l0 : Nat) (l1 : Int32) (x : zv_X) (h : mJx4a65c_get_915e3_0 N l0 l1 x = some o) : zv_V (fJx4a65c_get_915e3 d x0 o) 0 [(0, .ref l0), (1, .int l1)] [] x := by
  unfold mJx4a65c_get_915e3_0 at h
  refine zv_iload_n (n := 1) dJx4a65c_get_915e3_0 rfl rfl ?_
  refine zv_aload_n (n := 0) dJx4a65c_get_915e3_1 rfl rfl ?_
  refine zr_gI dJx4a65c_get_915e3_2 fg_194 h (fun v1 e2 h => ?_)
  refine zr_cSi (st := []) dJx4a65c_get_915e3_5 mw_J15_checkIndex_7cf53 wd_747 wd_748 [.int l1, .int v1] rfl rfl (Nat.le_of_ble_eq_true rfl) (show d - 1 + 1 ≤ d by omega) h (fun o3 e4 => tJ15_checkIndex_7cf53 (d := d - 1) (by omega) e4) (fun o3 e4 h => ?_)
  refine zv_pop dJx4a65c_get_915e3_8 rfl ?_
  refine zv_aload_n (n := 0) dJx4a65c_get_915e3_9 rfl rfl ?_
  refine zv_iload_n (n := 1) dJx4a65c_get_915e3_10 rfl rfl ?_
  refine zr_cVr (ci := 5) (st := []) dJx4a65c_get_915e3_11 mw_Jx4a65c_elementData_915e3 wd_753 wd_754 wd_755 rfl rfl [.int l1] rfl rfl (Nat.le_of_ble_eq_true rfl) (show d - 1 + 1 ≤ d by omega) h (fun o5 e6 => tJx4a65c_elementData_915e3 (d := d - 1) (by omega) e6) (fun o5 e6 h => ?_)
  cases h
  exact zv_aret dJx4a65c_get_915e3_14 rfl (Or.inl ⟨_, rfl⟩)
def mJx4a65c_get_915e3 (N : Nat) (a0 : Nat) (a1 : Int32) (x : zv_X) : Option (zv_X × Nat) := mJx4a65c_get_915e3_0 N a0 a1 x
theorem tJx4a65c_get_915e3 {d : Nat} (hd : 2 ≤ d) {N : Nat} {x : zv_X} {a0 : Nat} {a1 : Int32} {o : (zv_X × Nat)} (h : mJx4a65c_get_915e3 N a0 a1 x = some o) : zv_T d yJx4a65c_get_915e3 cJx4a65c_get_915e3 2 ((some (.object "java/lang/Object"))) [.ref a0, .int a1] x o.1 (some (.ref o.2)) := by
  unfold mJx4a65c_get_915e3 at h
  exact zv_enter (by decide) (Nat.le_of_ble_eq_true rfl) (kJx4a65c_get_915e3_0 hd _ _ _ h)

abbrev fX3_take (d : Nat) (x0 : zv_X) (o : zv_X) : zv_G := (d, RX3, cX3_take, 3, none, ("take", []), x0, o, zv_fin x0 o none)
def mX3_take_50 (N : Nat) (l0 : Nat) (l2 : Int32) (s0 : Int32) (s1 : Nat) (x : zv_X) : Option zv_X := if zm_k x s1 3 = true then ((mX3_require N s1 s0 x).bind fun o1 => (zm_I o1 l0 3 10).bind fun v3 => (zm_p o1 l0 3 10 (.int ((Int32.toUInt32 v3 >>> (Int32.toUInt32 l2 &&& Int32.toUInt32 31)).toInt32))).bind fun x5 => some x5) else none
theorem kX3_take_50 {d : Nat} {x0 : zv_X} {o : zv_X} (hd : 1 ≤ d) {N : Nat} (l0 : Nat) (l2 : Int32) (s0 : Int32) (s1 : Nat) (x : zv_X) (h : mX3_take_50 N l0 l2 s0 s1 x = some o) : zv_V (fX3_take d x0 o) 50 [(0, .ref l0), (2, .int l2)] [.int s0, .ref s1] x := by
  unfold mX3_take_50 at h
  refine zr_cVv (ci := 3) (st := []) dX3_take_50 mw_X3_require wd_642 wd_644 wd_2 rfl rfl [.int s0] rfl rfl (Nat.le_of_ble_eq_true rfl) (show d - 1 + 1 ≤ d by omega) h (fun o1 e2 => tX3_require (d := d - 1) (by omega) e2) (fun o1 e2 h => ?_)
  refine zv_aload_n (n := 0) dX3_take_53 rfl rfl ?_
  refine zv_dup dX3_take_54 rfl ?_
  refine zr_gI dX3_take_55 fg_221 h (fun v3 e4 h => ?_)
  refine zv_iload_n (n := 1) dX3_take_58 rfl rfl ?_
  refine zv_iushr dX3_take_59 ?_
  refine zr_p dX3_take_60 fl_221 (fun q => nomatch q) rfl rfl h (fun x5 e6 h => ?_)
  cases h
  exact zv_vret dX3_take_63 rfl
def mX3_take_29 (N : Nat) (l0 : Nat) (l1 : Int32) (s0 : Int32) (x : zv_X) : Option zv_X := (zm_I x l0 3 10).bind fun v1 => if (v1 &&& (((1 : Int32) <<< (s0 &&& 31)) - (1 : Int32))) = l1 then (mX3_take_50 N l0 s0 (1 : Int32) l0 x) else (mX3_take_50 N l0 s0 (0 : Int32) l0 x)
theorem kX3_take_29 {d : Nat} {x0 : zv_X} {o : zv_X} (hd : 1 ≤ d) {N : Nat} (l0 : Nat) (l1 : Int32) (s0 : Int32) (x : zv_X) (h : mX3_take_29 N l0 l1 s0 x = some o) : zv_V (fX3_take d x0 o) 29 [(0, .ref l0), (1, .int l1)] [.int s0] x := by
  unfold mX3_take_29 at h
  refine zv_istore_n (L' := [(2, .int s0), (0, .ref l0), (1, .int l1)]) dX3_take_29 rfl (Nat.le_of_ble_eq_true rfl) rfl ?_
  refine zv_aload_n (n := 1) dX3_take_30 rfl rfl ?_
  refine zv_aload_n (n := 1) dX3_take_31 rfl rfl ?_
  refine zr_gI dX3_take_32 fg_221 h (fun v1 e2 h => ?_)
  refine zv_iconst (v := 1) dX3_take_35 (by decide) ?_
  refine zv_iload_n (n := 0) dX3_take_36 rfl rfl ?_
  refine zv_ishl dX3_take_37 ?_
  refine zv_iconst (v := 1) dX3_take_38 (by decide) ?_
  refine zv_isub dX3_take_39 ?_
  refine zv_iand dX3_take_40 ?_
  refine zv_iload_n (n := 2) dX3_take_41 rfl rfl ?_
  refine zr_icmp_ne (tgt := 49) dX3_take_42 (by decide) h (fun c3 h => ?_) (fun c3 h => ?_)
  · refine zv_iconst (v := 0) dX3_take_49 (by decide) ?_
    exact zv_fewer [1, 0] rfl (kX3_take_50 hd _ _ _ _ _ h)
  · refine zv_iconst (v := 1) dX3_take_45 (by decide) ?_
    refine zv_goto (tgt := 50) dX3_take_46 (by decide) ?_
    exact zv_fewer [1, 0] rfl (kX3_take_50 hd _ _ _ _ _ h)
def mX3_take_0 (N : Nat) (l0 : Nat) (l1 : Int32) (x : zv_X) : Option zv_X := if l1 = 0 then (mX3_take_29 N l0 l1 (0 : Int32) x) else (if (4 : Int32) ≤ l1 then (if (16 : Int32) ≤ l1 then (mX3_take_29 N l0 l1 (6 : Int32) x) else (mX3_take_29 N l0 l1 (4 : Int32) x)) else (mX3_take_29 N l0 l1 (2 : Int32) x))
theorem kX3_take_0 {d : Nat} {x0 : zv_X} {o : zv_X} (hd : 1 ≤ d) {N : Nat} (l0 : Nat) (l1 : Int32) (x : zv_X) (h : mX3_take_0 N l0 l1 x = some o) : zv_V (fX3_take d x0 o) 0 [(0, .ref l0), (1, .int l1)] [] x := by
  unfold mX3_take_0 at h
  refine zv_iload_n (n := 1) dX3_take_0 rfl rfl ?_
  refine zr_if_ne (tgt := 8) dX3_take_1 (by decide) h (fun c3 h => ?_) (fun c3 h => ?_)
  · refine zv_iload_n (n := 1) dX3_take_8 rfl rfl ?_
    refine zv_iconst (v := 4) dX3_take_9 (by decide) ?_
    refine zr_icmp_ge (tgt := 17) dX3_take_10 (by decide) h (fun c2 h => ?_) (fun c2 h => ?_)
    · refine zv_iload_n (n := 1) dX3_take_17 rfl rfl ?_
      refine zv_bipush (v := 16) dX3_take_18 (by decide) ?_
      refine zr_icmp_ge (tgt := 27) dX3_take_20 (by decide) h (fun c1 h => ?_) (fun c1 h => ?_)
      · refine zv_bipush (v := 6) dX3_take_27 (by decide) ?_
        exact kX3_take_29 hd _ _ _ _ h
      · refine zv_iconst (v := 4) dX3_take_23 (by decide) ?_
        refine zv_goto (tgt := 29) dX3_take_24 (by decide) ?_
        exact kX3_take_29 hd _ _ _ _ h
    · refine zv_iconst (v := 2) dX3_take_13 (by decide) ?_
      refine zv_goto (tgt := 29) dX3_take_14 (by decide) ?_
      exact kX3_take_29 hd _ _ _ _ h
  · refine zv_iconst (v := 0) dX3_take_4 (by decide) ?_
    refine zv_goto (tgt := 29) dX3_take_5 (by decide) ?_
    exact kX3_take_29 hd _ _ _ _ h
def mX3_take (N : Nat) (a0 : Nat) (a1 : Int32) (x : zv_X) : Option zv_X := mX3_take_0 N a0 a1 x
theorem tX3_take {d : Nat} (hd : 1 ≤ d) {N : Nat} {x : zv_X} {a0 : Nat} {a1 : Int32} {o : zv_X} (h : mX3_take N a0 a1 x = some o) : zv_T d yX3_take cX3_take 3 (none) [.ref a0, .int a1] x o none := by
  unfold mX3_take at h
  exact zv_enter (by decide) (Nat.le_of_ble_eq_true rfl) (kX3_take_0 hd _ _ _ h)

abbrev fX6_kindOfArgument (d : Nat) (x0 : zv_X) (o : (zv_X × Int32)) : zv_G := (d, RX6, cX6_kindOfArgument, 2, (some .int), ("kindOfArgument", []), x0, o.1, zv_fin x0 o.1 (some (.int o.2)))
def mX6_kindOfArgument_0 (N : Nat) (l0 : Nat) (l1 : Int32) (x : zv_X) : Option (zv_X × Int32) := (zm_I x l0 6 3).bind fun v1 => some (x, (v1 >>> (((2 : Int32) * l1) &&& 31)) &&& (3 : Int32))
theorem kX6_kindOfArgument_0 {d : Nat} {x0 : zv_X} {o : (zv_X × Int32)} (hd : 0 ≤ d) {N : Nat} (l0 : Nat) (l1 : Int32) (x : zv_X) (h : mX6_kindOfArgument_0 N l0 l1 x = some o) : zv_V (fX6_kindOfArgument d x0 o) 0 [(0, .ref l0), (1, .int l1)] [] x := by
  unfold mX6_kindOfArgument_0 at h
  refine zv_aload_n (n := 0) dX6_kindOfArgument_0 rfl rfl ?_
  refine zr_gI dX6_kindOfArgument_1 fg_320 h (fun v1 e2 h => ?_)
  refine zv_iconst (v := 2) dX6_kindOfArgument_4 (by decide) ?_
  refine zv_iload_n (n := 1) dX6_kindOfArgument_5 rfl rfl ?_
  refine zv_imul dX6_kindOfArgument_6 ?_
  refine zv_ishr dX6_kindOfArgument_7 ?_
  refine zv_iconst (v := 3) dX6_kindOfArgument_8 (by decide) ?_
  refine zv_iand dX6_kindOfArgument_9 ?_
  cases h
  exact zv_iret dX6_kindOfArgument_10 rfl
def mX6_kindOfArgument (N : Nat) (a0 : Nat) (a1 : Int32) (x : zv_X) : Option (zv_X × Int32) := mX6_kindOfArgument_0 N a0 a1 x
theorem tX6_kindOfArgument {d : Nat} (hd : 0 ≤ d) {N : Nat} {x : zv_X} {a0 : Nat} {a1 : Int32} {o : (zv_X × Int32)} (h : mX6_kindOfArgument N a0 a1 x = some o) : zv_T d yX6_kindOfArgument cX6_kindOfArgument 2 ((some .int)) [.ref a0, .int a1] x o.1 (some (.int o.2)) := by
  unfold mX6_kindOfArgument at h
  exact zv_enter (by decide) (Nat.le_of_ble_eq_true rfl) (kX6_kindOfArgument_0 hd _ _ _ h)

abbrev fX3_passCall (d : Nat) (x0 : zv_X) (o : zv_X) : zv_G := (d, RX3, cX3_passCall, 4, none, ("passCall", []), x0, o, zv_fin x0 o none)
def mX3_passCall_57 (N : Nat) : Nat → Nat → Nat → Int32 → zv_X → Option zv_X
  | 0, _, _, _, _ => none
  | n + 1, l0, l2, l3, x => if l3 < 0 then ((zm_I x l2 6 6).bind fun v1 => if zm_k x l0 3 = true then ((mX3_give N l0 v1 x).bind fun o3 => some o3) else none) else (if zm_k x l2 6 = true then ((mX6_kindOfArgument N l2 l3 x).bind fun o5 => if zm_k o5.1 l0 3 = true then ((mX3_take N l0 o5.2 o5.1).bind fun o7 => mX3_passCall_57 N n l0 l2 (l3 + (-1)) o7) else none) else none)
theorem kX3_passCall_57 {d : Nat} {x0 : zv_X} {o : zv_X} (hd : 3 ≤ d) {N : Nat} : ∀ (n : Nat) (l0 : Nat) (l2 : Nat) (l3 : Int32) (x : zv_X), mX3_passCall_57 N n l0 l2 l3 x = some o → zv_V (fX3_passCall d x0 o) 57 [(0, .ref l0), (2, .ref l2), (3, .int l3)] [] x := by
  intro n
  induction n with
  | zero => intro l0 l2 l3 x h; cases h
  | succ n ih =>
    intro l0 l2 l3 x h
    unfold mX3_passCall_57 at h
    refine zv_iload_n (n := 2) dX3_passCall_57 rfl rfl ?_
    refine zr_if_lt (tgt := 76) dX3_passCall_58 (by decide) h (fun c9 h => ?_) (fun c9 h => ?_)
    · refine zv_aload_n (n := 0) dX3_passCall_76 rfl rfl ?_
      refine zv_aload_n (n := 1) dX3_passCall_77 rfl rfl ?_
      refine zr_gI dX3_passCall_78 fg_327 h (fun v1 e2 h => ?_)
      refine zr_cVv (ci := 3) (st := []) dX3_passCall_81 mw_X3_give wd_721 wd_723 wd_12 rfl rfl [.int v1] rfl rfl (Nat.le_of_ble_eq_true rfl) (show d - 1 + 1 ≤ d by omega) h (fun o3 e4 => tX3_give (d := d - 1) (by omega) e4) (fun o3 e4 h => ?_)
      cases h
      exact zv_vret dX3_passCall_84 rfl
    · refine zv_aload_n (n := 0) dX3_passCall_61 rfl rfl ?_
      refine zv_aload_n (n := 1) dX3_passCall_62 rfl rfl ?_
      refine zv_iload_n (n := 2) dX3_passCall_63 rfl rfl ?_
      refine zr_cVi (ci := 6) (st := [.ref l0]) dX3_passCall_64 mw_X6_kindOfArgument wd_758 wd_759 wd_760 rfl rfl [.int l3] rfl rfl (Nat.le_of_ble_eq_true rfl) (show d - 1 + 1 ≤ d by omega) h (fun o5 e6 => tX6_kindOfArgument (d := d - 1) (by omega) e6) (fun o5 e6 h => ?_)
      refine zr_cVv (ci := 3) (st := []) dX3_passCall_67 mw_X3_take wd_694 wd_696 wd_6 rfl rfl [.int o5.2] rfl rfl (Nat.le_of_ble_eq_true rfl) (show d - 1 + 1 ≤ d by omega) h (fun o7 e8 => tX3_take (d := d - 1) (by omega) e8) (fun o7 e8 h => ?_)
      refine zv_iinc (n := 2) (v := l3 + (-1)) (L' := [(3, .int (l3 + (-1))), (0, .ref l0), (2, .ref l2)]) dX3_passCall_70 rfl rfl (Nat.le_of_ble_eq_true rfl) rfl ?_
      refine zv_goto (tgt := 57) dX3_passCall_73 (by decide) ?_
      exact zv_fewer [1, 2, 0] rfl (ih _ _ _ _ h)
def mX3_passCall_49 (N : Nat) (l0 : Nat) (s0 : Nat) (x : zv_X) : Option zv_X := (zm_I x s0 6 2).bind fun v1 => mX3_passCall_57 N N l0 s0 (v1 - (1 : Int32)) x
theorem kX3_passCall_49 {d : Nat} {x0 : zv_X} {o : zv_X} (hd : 3 ≤ d) {N : Nat} (l0 : Nat) (s0 : Nat) (x : zv_X) (h : mX3_passCall_49 N l0 s0 x = some o) : zv_V (fX3_passCall d x0 o) 49 [(0, .ref l0)] [.ref s0] x := by
  unfold mX3_passCall_49 at h
  refine zv_astore_n (L' := [(2, .ref s0), (0, .ref l0)]) dX3_passCall_49 rfl (Nat.le_of_ble_eq_true rfl) rfl ?_
  refine zv_aload_n (n := 0) dX3_passCall_50 rfl rfl ?_
  refine zr_gI dX3_passCall_51 fg_319 h (fun v1 e2 h => ?_)
  refine zv_iconst (v := 1) dX3_passCall_54 (by decide) ?_
  refine zv_isub dX3_passCall_55 ?_
  refine zv_istore_n (L' := [(3, .int (v1 - (1 : Int32))), (2, .ref s0), (0, .ref l0)]) dX3_passCall_56 rfl (Nat.le_of_ble_eq_true rfl) rfl ?_
  exact zv_fewer [2, 1, 0] rfl (kX3_passCall_57 hd N _ _ _ _ h)
def mX3_passCall_17 (N : Nat) (l0 : Nat) (l1 : Int32) (s0 : Int32) (s1 : Nat) (x : zv_X) : Option zv_X := if zm_k x s1 3 = true then ((mX3_require N s1 s0 x).bind fun o1 => (zm_R o1 l0 3 1).bind fun v3 => if zm_k o1 v3 5 = true then ((mJx4a65c_size_8abf5 N v3 o1).bind fun o5 => if o5.2 ≤ l1 then ((zm_R o5.1 l0 3 8).bind fun v7 => mX3_passCall_49 N l0 v7 o5.1) else ((zm_R o5.1 l0 3 1).bind fun v9 => if zm_k o5.1 v9 5 = true then ((mJx4a65c_get_915e3 N v9 l1 o5.1).bind fun o11 => if zm_k o11.1 o11.2 6 = true then (mX3_passCall_49 N l0 o11.2 o11.1) else none) else none)) else none) else none
theorem kX3_passCall_17 {d : Nat} {x0 : zv_X} {o : zv_X} (hd : 3 ≤ d) {N : Nat} (l0 : Nat) (l1 : Int32) (s0 : Int32) (s1 : Nat) (x : zv_X) (h : mX3_passCall_17 N l0 l1 s0 s1 x = some o) : zv_V (fX3_passCall d x0 o) 17 [(0, .ref l0), (1, .int l1)] [.int s0, .ref s1] x := by
  unfold mX3_passCall_17 at h
  refine zr_cVv (ci := 3) (st := []) dX3_passCall_17 mw_X3_require wd_642 wd_644 wd_2 rfl rfl [.int s0] rfl rfl (Nat.le_of_ble_eq_true rfl) (show d - 1 + 1 ≤ d by omega) h (fun o1 e2 => tX3_require (d := d - 1) (by omega) e2) (fun o1 e2 h => ?_)
  refine zv_iload_n (n := 1) dX3_passCall_20 rfl rfl ?_
  refine zv_aload_n (n := 0) dX3_passCall_21 rfl rfl ?_
  refine zr_gR dX3_passCall_22 fg_212 h (fun v3 e4 h => ?_)
  refine zr_cVi (ci := 5) (st := [.int l1]) dX3_passCall_25 mw_Jx4a65c_size_8abf5 wd_742 wd_594 wd_595 rfl rfl [] rfl rfl (Nat.le_of_ble_eq_true rfl) (show d - 1 + 1 ≤ d by omega) h (fun o5 e6 => tJx4a65c_size_8abf5 (d := d - 1) (by omega) e6) (fun o5 e6 h => ?_)
  refine zr_icmp_ge (tgt := 45) dX3_passCall_28 (by decide) h (fun c13 h => ?_) (fun c13 h => ?_)
  · refine zv_aload_n (n := 0) dX3_passCall_45 rfl rfl ?_
    refine zr_gR dX3_passCall_46 fg_219 h (fun v7 e8 h => ?_)
    exact zv_fewer [0] rfl (kX3_passCall_49 hd _ _ _ h)
  · refine zv_aload_n (n := 0) dX3_passCall_31 rfl rfl ?_
    refine zr_gR dX3_passCall_32 fg_212 h (fun v9 e10 h => ?_)
    refine zv_iload_n (n := 1) dX3_passCall_35 rfl rfl ?_
    refine zr_cVr (ci := 5) (st := []) dX3_passCall_36 mw_Jx4a65c_get_915e3 wd_743 wd_744 wd_745 rfl rfl [.int l1] rfl rfl (Nat.le_of_ble_eq_true rfl) (show d - 1 + 1 ≤ d by omega) h (fun o11 e12 => tJx4a65c_get_915e3 (d := d - 1) (by omega) e12) (fun o11 e12 h => ?_)
    refine zr_cast (ci := 6) dX3_passCall_39 wd_757 rfl (by decide) h (fun h => ?_)
    refine zv_goto (tgt := 49) dX3_passCall_42 (by decide) ?_
    exact zv_fewer [0] rfl (kX3_passCall_49 hd _ _ _ h)
def mX3_passCall_0 (N : Nat) (l0 : Nat) (l1 : Int32) (x : zv_X) : Option zv_X := (zm_R x l0 3 1).bind fun v1 => if zm_k x v1 5 = true then ((mJx4a65c_size_8abf5 N v1 x).bind fun o3 => if o3.2 < l1 then (mX3_passCall_17 N l0 l1 (0 : Int32) l0 o3.1) else (mX3_passCall_17 N l0 l1 (1 : Int32) l0 o3.1)) else none
theorem kX3_passCall_0 {d : Nat} {x0 : zv_X} {o : zv_X} (hd : 3 ≤ d) {N : Nat} (l0 : Nat) (l1 : Int32) (x : zv_X) (h : mX3_passCall_0 N l0 l1 x = some o) : zv_V (fX3_passCall d x0 o) 0 [(0, .ref l0), (1, .int l1)] [] x := by
  unfold mX3_passCall_0 at h
  refine zv_aload_n (n := 0) dX3_passCall_0 rfl rfl ?_
  refine zv_iload_n (n := 1) dX3_passCall_1 rfl rfl ?_
  refine zv_aload_n (n := 0) dX3_passCall_2 rfl rfl ?_
  refine zr_gR dX3_passCall_3 fg_212 h (fun v1 e2 h => ?_)
  refine zr_cVi (ci := 5) (st := [.int l1, .ref l0]) dX3_passCall_6 mw_Jx4a65c_size_8abf5 wd_742 wd_594 wd_595 rfl rfl [] rfl rfl (Nat.le_of_ble_eq_true rfl) (show d - 1 + 1 ≤ d by omega) h (fun o3 e4 => tJx4a65c_size_8abf5 (d := d - 1) (by omega) e4) (fun o3 e4 h => ?_)
  refine zr_icmp_gt (tgt := 16) dX3_passCall_9 (by decide) h (fun c5 h => ?_) (fun c5 h => ?_)
  · refine zv_iconst (v := 0) dX3_passCall_16 (by decide) ?_
    exact kX3_passCall_17 hd _ _ _ _ _ h
  · refine zv_iconst (v := 1) dX3_passCall_12 (by decide) ?_
    refine zv_goto (tgt := 17) dX3_passCall_13 (by decide) ?_
    exact kX3_passCall_17 hd _ _ _ _ _ h
def mX3_passCall (N : Nat) (a0 : Nat) (a1 : Int32) (x : zv_X) : Option zv_X := mX3_passCall_0 N a0 a1 x
theorem tX3_passCall {d : Nat} (hd : 3 ≤ d) {N : Nat} {x : zv_X} {a0 : Nat} {a1 : Int32} {o : zv_X} (h : mX3_passCall N a0 a1 x = some o) : zv_T d yX3_passCall cX3_passCall 4 (none) [.ref a0, .int a1] x o none := by
  unfold mX3_passCall at h
  exact zv_enter (by decide) (Nat.le_of_ble_eq_true rfl) (kX3_passCall_0 hd _ _ _ h)

abbrev fX3_readLocal (d : Nat) (x0 : zv_X) (o : zv_X) : zv_G := (d, RX3, cX3_readLocal, 3, none, ("readLocal", []), x0, o, zv_fin x0 o none)
def mX3_readLocal_31 (N : Nat) (s0 : Int32) (s1 : Nat) (x : zv_X) : Option zv_X := if zm_k x s1 3 = true then ((mX3_require N s1 s0 x).bind fun o1 => some o1) else none
theorem kX3_readLocal_31 {d : Nat} {x0 : zv_X} {o : zv_X} (hd : 1 ≤ d) {N : Nat} (s0 : Int32) (s1 : Nat) (x : zv_X) (h : mX3_readLocal_31 N s0 s1 x = some o) : zv_V (fX3_readLocal d x0 o) 31 [] [.int s0, .ref s1] x := by
  unfold mX3_readLocal_31 at h
  refine zr_cVv (ci := 3) (st := []) dX3_readLocal_31 mw_X3_require wd_642 wd_644 wd_2 rfl rfl [.int s0] rfl rfl (Nat.le_of_ble_eq_true rfl) (show d - 1 + 1 ≤ d by omega) h (fun o1 e2 => tX3_require (d := d - 1) (by omega) e2) (fun o1 e2 h => ?_)
  cases h
  exact zv_vret dX3_readLocal_34 rfl
def mX3_readLocal_30 (N : Nat) (s0 : Nat) (x : zv_X) : Option zv_X := mX3_readLocal_31 N (0 : Int32) s0 x
theorem kX3_readLocal_30 {d : Nat} {x0 : zv_X} {o : zv_X} (hd : 1 ≤ d) {N : Nat} (s0 : Nat) (x : zv_X) (h : mX3_readLocal_30 N s0 x = some o) : zv_V (fX3_readLocal d x0 o) 30 [] [.ref s0] x := by
  unfold mX3_readLocal_30 at h
  refine zv_iconst (v := 0) dX3_readLocal_30 (by decide) ?_
  exact kX3_readLocal_31 hd _ _ _ h
def mX3_readLocal_0 (N : Nat) (l0 : Nat) (l1 : Int32) (l2 : Int32) (x : zv_X) : Option zv_X := (zm_R x l0 3 8).bind fun v1 => (zm_I x v1 6 4).bind fun v3 => if v3 ≤ l1 then (mX3_readLocal_30 N l0 x) else ((zm_I x l0 3 11).bind fun v5 => if (((Int32.toUInt32 v5 >>> (Int32.toUInt32 ((2 : Int32) * l1) &&& Int32.toUInt32 31)).toInt32) &&& (3 : Int32)) = l2 then (mX3_readLocal_31 N (1 : Int32) l0 x) else (mX3_readLocal_30 N l0 x))
theorem kX3_readLocal_0 {d : Nat} {x0 : zv_X} {o : zv_X} (hd : 1 ≤ d) {N : Nat} (l0 : Nat) (l1 : Int32) (l2 : Int32) (x : zv_X) (h : mX3_readLocal_0 N l0 l1 l2 x = some o) : zv_V (fX3_readLocal d x0 o) 0 [(0, .ref l0), (1, .int l1), (2, .int l2)] [] x := by
  unfold mX3_readLocal_0 at h
  refine zv_aload_n (n := 0) dX3_readLocal_0 rfl rfl ?_
  refine zv_iload_n (n := 1) dX3_readLocal_1 rfl rfl ?_
  refine zv_aload_n (n := 0) dX3_readLocal_2 rfl rfl ?_
  refine zr_gR dX3_readLocal_3 fg_219 h (fun v1 e2 h => ?_)
  refine zr_gI dX3_readLocal_6 fg_323 h (fun v3 e4 h => ?_)
  refine zr_icmp_ge (tgt := 30) dX3_readLocal_9 (by decide) h (fun c8 h => ?_) (fun c8 h => ?_)
  · exact zv_fewer [] rfl (kX3_readLocal_30 hd _ _ h)
  · refine zv_aload_n (n := 0) dX3_readLocal_12 rfl rfl ?_
    refine zr_gI dX3_readLocal_13 fg_222 h (fun v5 e6 h => ?_)
    refine zv_iconst (v := 2) dX3_readLocal_16 (by decide) ?_
    refine zv_iload_n (n := 1) dX3_readLocal_17 rfl rfl ?_
    refine zv_imul dX3_readLocal_18 ?_
    refine zv_iushr dX3_readLocal_19 ?_
    refine zv_iconst (v := 3) dX3_readLocal_20 (by decide) ?_
    refine zv_iand dX3_readLocal_21 ?_
    refine zv_iload_n (n := 2) dX3_readLocal_22 rfl rfl ?_
    refine zr_icmp_ne (tgt := 30) dX3_readLocal_23 (by decide) h (fun c7 h => ?_) (fun c7 h => ?_)
    · exact zv_fewer [] rfl (kX3_readLocal_30 hd _ _ h)
    · refine zv_iconst (v := 1) dX3_readLocal_26 (by decide) ?_
      refine zv_goto (tgt := 31) dX3_readLocal_27 (by decide) ?_
      exact zv_fewer [] rfl (kX3_readLocal_31 hd _ _ _ h)
def mX3_readLocal (N : Nat) (a0 : Nat) (a1 : Int32) (a2 : Int32) (x : zv_X) : Option zv_X := mX3_readLocal_0 N a0 a1 a2 x
theorem tX3_readLocal {d : Nat} (hd : 1 ≤ d) {N : Nat} {x : zv_X} {a0 : Nat} {a1 : Int32} {a2 : Int32} {o : zv_X} (h : mX3_readLocal N a0 a1 a2 x = some o) : zv_T d yX3_readLocal cX3_readLocal 3 (none) [.ref a0, .int a1, .int a2] x o none := by
  unfold mX3_readLocal at h
  exact zv_enter (by decide) (Nat.le_of_ble_eq_true rfl) (kX3_readLocal_0 hd _ _ _ _ h)

abbrev fX3_setLocal (d : Nat) (x0 : zv_X) (o : zv_X) : zv_G := (d, RX3, cX3_setLocal, 3, none, ("setLocal", []), x0, o, zv_fin x0 o none)
def mX3_setLocal_17 (N : Nat) (l0 : Nat) (l1 : Int32) (l2 : Int32) (s0 : Int32) (s1 : Nat) (x : zv_X) : Option zv_X := if zm_k x s1 3 = true then ((mX3_require N s1 s0 x).bind fun o1 => (zm_I o1 l0 3 11).bind fun v3 => (zm_p o1 l0 3 11 (.int ((v3 &&& (((3 : Int32) <<< (((2 : Int32) * l1) &&& 31)) ^^^ (-1 : Int32))) ||| (l2 <<< (((2 : Int32) * l1) &&& 31))))).bind fun x5 => some x5) else none
theorem kX3_setLocal_17 {d : Nat} {x0 : zv_X} {o : zv_X} (hd : 1 ≤ d) {N : Nat} (l0 : Nat) (l1 : Int32) (l2 : Int32) (s0 : Int32) (s1 : Nat) (x : zv_X) (h : mX3_setLocal_17 N l0 l1 l2 s0 s1 x = some o) : zv_V (fX3_setLocal d x0 o) 17 [(0, .ref l0), (1, .int l1), (2, .int l2)] [.int s0, .ref s1] x := by
  unfold mX3_setLocal_17 at h
  refine zr_cVv (ci := 3) (st := []) dX3_setLocal_17 mw_X3_require wd_642 wd_644 wd_2 rfl rfl [.int s0] rfl rfl (Nat.le_of_ble_eq_true rfl) (show d - 1 + 1 ≤ d by omega) h (fun o1 e2 => tX3_require (d := d - 1) (by omega) e2) (fun o1 e2 h => ?_)
  refine zv_aload_n (n := 0) dX3_setLocal_20 rfl rfl ?_
  refine zv_aload_n (n := 0) dX3_setLocal_21 rfl rfl ?_
  refine zr_gI dX3_setLocal_22 fg_222 h (fun v3 e4 h => ?_)
  refine zv_iconst (v := 3) dX3_setLocal_25 (by decide) ?_
  refine zv_iconst (v := 2) dX3_setLocal_26 (by decide) ?_
  refine zv_iload_n (n := 1) dX3_setLocal_27 rfl rfl ?_
  refine zv_imul dX3_setLocal_28 ?_
  refine zv_ishl dX3_setLocal_29 ?_
  refine zv_iconst (v := -1) dX3_setLocal_30 (by decide) ?_
  refine zv_ixor dX3_setLocal_31 ?_
  refine zv_iand dX3_setLocal_32 ?_
  refine zv_iload_n (n := 2) dX3_setLocal_33 rfl rfl ?_
  refine zv_iconst (v := 2) dX3_setLocal_34 (by decide) ?_
  refine zv_iload_n (n := 1) dX3_setLocal_35 rfl rfl ?_
  refine zv_imul dX3_setLocal_36 ?_
  refine zv_ishl dX3_setLocal_37 ?_
  refine zv_ior dX3_setLocal_38 ?_
  refine zr_p dX3_setLocal_39 fl_222 (fun q => nomatch q) rfl rfl h (fun x5 e6 h => ?_)
  cases h
  exact zv_vret dX3_setLocal_42 rfl
def mX3_setLocal_0 (N : Nat) (l0 : Nat) (l1 : Int32) (l2 : Int32) (x : zv_X) : Option zv_X := (zm_R x l0 3 8).bind fun v1 => (zm_I x v1 6 4).bind fun v3 => if v3 ≤ l1 then (mX3_setLocal_17 N l0 l1 l2 (0 : Int32) l0 x) else (mX3_setLocal_17 N l0 l1 l2 (1 : Int32) l0 x)
theorem kX3_setLocal_0 {d : Nat} {x0 : zv_X} {o : zv_X} (hd : 1 ≤ d) {N : Nat} (l0 : Nat) (l1 : Int32) (l2 : Int32) (x : zv_X) (h : mX3_setLocal_0 N l0 l1 l2 x = some o) : zv_V (fX3_setLocal d x0 o) 0 [(0, .ref l0), (1, .int l1), (2, .int l2)] [] x := by
  unfold mX3_setLocal_0 at h
  refine zv_aload_n (n := 0) dX3_setLocal_0 rfl rfl ?_
  refine zv_iload_n (n := 1) dX3_setLocal_1 rfl rfl ?_
  refine zv_aload_n (n := 0) dX3_setLocal_2 rfl rfl ?_
  refine zr_gR dX3_setLocal_3 fg_219 h (fun v1 e2 h => ?_)
  refine zr_gI dX3_setLocal_6 fg_323 h (fun v3 e4 h => ?_)
  refine zr_icmp_ge (tgt := 16) dX3_setLocal_9 (by decide) h (fun c5 h => ?_) (fun c5 h => ?_)
  · refine zv_iconst (v := 0) dX3_setLocal_16 (by decide) ?_
    exact kX3_setLocal_17 hd _ _ _ _ _ _ h
  · refine zv_iconst (v := 1) dX3_setLocal_12 (by decide) ?_
    refine zv_goto (tgt := 17) dX3_setLocal_13 (by decide) ?_
    exact kX3_setLocal_17 hd _ _ _ _ _ _ h
def mX3_setLocal (N : Nat) (a0 : Nat) (a1 : Int32) (a2 : Int32) (x : zv_X) : Option zv_X := mX3_setLocal_0 N a0 a1 a2 x
theorem tX3_setLocal {d : Nat} (hd : 1 ≤ d) {N : Nat} {x : zv_X} {a0 : Nat} {a1 : Int32} {a2 : Int32} {o : zv_X} (h : mX3_setLocal N a0 a1 a2 x = some o) : zv_T d yX3_setLocal cX3_setLocal 3 (none) [.ref a0, .int a1, .int a2] x o none := by
  unfold mX3_setLocal at h
  exact zv_enter (by decide) (Nat.le_of_ble_eq_true rfl) (kX3_setLocal_0 hd _ _ _ _ h)

abbrev fX5_leaves (d : Nat) (x0 : zv_X) (o : (zv_X × Int32)) : zv_G := (d, RX5, cX5_leaves, 1, (some .int), ("leaves", []), x0, o.1, zv_fin x0 o.1 (some (.int o.2)))
def mX5_leaves_0 (N : Nat) (l0 : Int32) (x : zv_X) : Option (zv_X × Int32) := some (x, l0 &&& (255 : Int32))
theorem kX5_leaves_0 {d : Nat} {x0 : zv_X} {o : (zv_X × Int32)} (hd : 0 ≤ d) {N : Nat} (l0 : Int32) (x : zv_X) (h : mX5_leaves_0 N l0 x = some o) : zv_V (fX5_leaves d x0 o) 0 [(0, .int l0)] [] x := by
  unfold mX5_leaves_0 at h
  refine zv_iload_n (n := 0) dX5_leaves_0 rfl rfl ?_
  refine zv_sipush (v := 255) dX5_leaves_1 (by decide) ?_
  refine zv_iand dX5_leaves_4 ?_
  cases h
  exact zv_iret dX5_leaves_5 rfl
def mX5_leaves (N : Nat) (a0 : Int32) (x : zv_X) : Option (zv_X × Int32) := mX5_leaves_0 N a0 x
theorem tX5_leaves {d : Nat} (hd : 0 ≤ d) {N : Nat} {x : zv_X} {a0 : Int32} {o : (zv_X × Int32)} (h : mX5_leaves N a0 x = some o) : zv_T d yX5_leaves cX5_leaves 1 ((some .int)) [.int a0] x o.1 (some (.int o.2)) := by
  unfold mX5_leaves at h
  exact zv_enter (by decide) (Nat.le_of_ble_eq_true rfl) (kX5_leaves_0 hd _ _ h)

abbrev fX5_takes (d : Nat) (x0 : zv_X) (o : (zv_X × Int32)) : zv_G := (d, RX5, cX5_takes, 1, (some .int), ("takes", []), x0, o.1, zv_fin x0 o.1 (some (.int o.2)))
def mX5_takes_0 (N : Nat) (l0 : Int32) (x : zv_X) : Option (zv_X × Int32) := some (x, (l0 >>> ((8 : Int32) &&& 31)) &&& (255 : Int32))
theorem kX5_takes_0 {d : Nat} {x0 : zv_X} {o : (zv_X × Int32)} (hd : 0 ≤ d) {N : Nat} (l0 : Int32) (x : zv_X) (h : mX5_takes_0 N l0 x = some o) : zv_V (fX5_takes d x0 o) 0 [(0, .int l0)] [] x := by
  unfold mX5_takes_0 at h
  refine zv_iload_n (n := 0) dX5_takes_0 rfl rfl ?_
  refine zv_bipush (v := 8) dX5_takes_1 (by decide) ?_
  refine zv_ishr dX5_takes_3 ?_
  refine zv_sipush (v := 255) dX5_takes_4 (by decide) ?_
  refine zv_iand dX5_takes_7 ?_
  cases h
  exact zv_iret dX5_takes_8 rfl
def mX5_takes (N : Nat) (a0 : Int32) (x : zv_X) : Option (zv_X × Int32) := mX5_takes_0 N a0 x
theorem tX5_takes {d : Nat} (hd : 0 ≤ d) {N : Nat} {x : zv_X} {a0 : Int32} {o : (zv_X × Int32)} (h : mX5_takes N a0 x = some o) : zv_T d yX5_takes cX5_takes 1 ((some .int)) [.int a0] x o.1 (some (.int o.2)) := by
  unfold mX5_takes at h
  exact zv_enter (by decide) (Nat.le_of_ble_eq_true rfl) (kX5_takes_0 hd _ _ h)

abbrev fX3_heed (d : Nat) (x0 : zv_X) (o : zv_X) : zv_G := (d, RX3, cX3_heed, 4, none, ("heed", []), x0, o, zv_fin x0 o none)
def mX3_heed_378 (N : Nat)  (x : zv_X) : Option zv_X := some x
theorem kX3_heed_378 {d : Nat} {x0 : zv_X} {o : zv_X} (hd : 4 ≤ d) {N : Nat}  (x : zv_X) (h : mX3_heed_378 N  x = some o) : zv_V (fX3_heed d x0 o) 378 [] [] x := by
  unfold mX3_heed_378 at h
  cases h
  exact zv_vret dX3_heed_378 rfl
def mX3_heed_180 (N : Nat) (l0 : Nat) (l2 : Int32) (l3 : Int32) (x : zv_X) : Option zv_X := (zm_R x l0 3 8).bind fun v1 => if zm_k x v1 6 = true then ((mX6_at N v1 (l2 + (1 : Int32)) x).bind fun o3 => (mX5_leaves N l3 o3.1).bind fun o5 => if zm_k o5.1 l0 3 = true then ((mX3_readLocal N l0 o3.2 o5.2 o5.1).bind fun o7 => mX3_heed_378 N o7) else none) else none
theorem kX3_heed_180 {d : Nat} {x0 : zv_X} {o : zv_X} (hd : 4 ≤ d) {N : Nat} (l0 : Nat) (l2 : Int32) (l3 : Int32) (x : zv_X) (h : mX3_heed_180 N l0 l2 l3 x = some o) : zv_V (fX3_heed d x0 o) 180 [(0, .ref l0), (2, .int l2), (3, .int l3)] [] x := by
  unfold mX3_heed_180 at h
  refine zv_aload_n (n := 0) dX3_heed_180 rfl rfl ?_
  refine zv_aload_n (n := 0) dX3_heed_181 rfl rfl ?_
  refine zr_gR dX3_heed_182 fg_219 h (fun v1 e2 h => ?_)
  refine zv_iload_n (n := 1) dX3_heed_185 rfl rfl ?_
  refine zv_iconst (v := 1) dX3_heed_186 (by decide) ?_
  refine zv_iadd dX3_heed_187 ?_
  refine zr_cVi (ci := 6) (st := [.ref l0]) dX3_heed_188 mw_X6_at wd_658 wd_659 wd_660 rfl rfl [.int (l2 + (1 : Int32))] rfl rfl (Nat.le_of_ble_eq_true rfl) (show d - 1 + 1 ≤ d by omega) h (fun o3 e4 => tX6_at (d := d - 1) (by omega) e4) (fun o3 e4 h => ?_)
  refine zv_iload_n (n := 2) dX3_heed_191 rfl rfl ?_
  refine zr_cSi (st := [.int o3.2, .ref l0]) dX3_heed_192 mw_X5_leaves wd_702 wd_703 [.int l3] rfl rfl (Nat.le_of_ble_eq_true rfl) (show d - 1 + 1 ≤ d by omega) h (fun o5 e6 => tX5_leaves (d := d - 1) (by omega) e6) (fun o5 e6 h => ?_)
  refine zr_cVv (ci := 3) (st := []) dX3_heed_195 mw_X3_readLocal wd_705 wd_707 wd_8 rfl rfl [.int o3.2, .int o5.2] rfl rfl (Nat.le_of_ble_eq_true rfl) (show d - 1 + 1 ≤ d by omega) h (fun o7 e8 => tX3_readLocal (d := d - 1) (by omega) e8) (fun o7 e8 h => ?_)
  refine zv_goto (tgt := 378) dX3_heed_198 (by decide) ?_
  exact zv_fewer [] rfl (kX3_heed_378 hd _ h)
def mX3_heed_201 (N : Nat) (l0 : Nat) (l2 : Int32) (l3 : Int32) (x : zv_X) : Option zv_X := (zm_R x l0 3 8).bind fun v1 => if zm_k x v1 6 = true then ((mX6_at N v1 (l2 + (1 : Int32)) x).bind fun o3 => (mX5_takes N l3 o3.1).bind fun o5 => if zm_k o5.1 l0 3 = true then ((mX3_setLocal N l0 o3.2 o5.2 o5.1).bind fun o7 => mX3_heed_378 N o7) else none) else none
theorem kX3_heed_201 {d : Nat} {x0 : zv_X} {o : zv_X} (hd : 4 ≤ d) {N : Nat} (l0 : Nat) (l2 : Int32) (l3 : Int32) (x : zv_X) (h : mX3_heed_201 N l0 l2 l3 x = some o) : zv_V (fX3_heed d x0 o) 201 [(0, .ref l0), (2, .int l2), (3, .int l3)] [] x := by
  unfold mX3_heed_201 at h
  refine zv_aload_n (n := 0) dX3_heed_201 rfl rfl ?_
  refine zv_aload_n (n := 0) dX3_heed_202 rfl rfl ?_
  refine zr_gR dX3_heed_203 fg_219 h (fun v1 e2 h => ?_)
  refine zv_iload_n (n := 1) dX3_heed_206 rfl rfl ?_
  refine zv_iconst (v := 1) dX3_heed_207 (by decide) ?_
  refine zv_iadd dX3_heed_208 ?_
  refine zr_cVi (ci := 6) (st := [.ref l0]) dX3_heed_209 mw_X6_at wd_658 wd_659 wd_660 rfl rfl [.int (l2 + (1 : Int32))] rfl rfl (Nat.le_of_ble_eq_true rfl) (show d - 1 + 1 ≤ d by omega) h (fun o3 e4 => tX6_at (d := d - 1) (by omega) e4) (fun o3 e4 h => ?_)
  refine zv_iload_n (n := 2) dX3_heed_212 rfl rfl ?_
  refine zr_cSi (st := [.int o3.2, .ref l0]) dX3_heed_213 mw_X5_takes wd_691 wd_692 [.int l3] rfl rfl (Nat.le_of_ble_eq_true rfl) (show d - 1 + 1 ≤ d by omega) h (fun o5 e6 => tX5_takes (d := d - 1) (by omega) e6) (fun o5 e6 h => ?_)
  refine zr_cVv (ci := 3) (st := []) dX3_heed_216 mw_X3_setLocal wd_709 wd_711 wd_9 rfl rfl [.int o3.2, .int o5.2] rfl rfl (Nat.le_of_ble_eq_true rfl) (show d - 1 + 1 ≤ d by omega) h (fun o7 e8 => tX3_setLocal (d := d - 1) (by omega) e8) (fun o7 e8 h => ?_)
  refine zv_goto (tgt := 378) dX3_heed_219 (by decide) ?_
  exact zv_fewer [] rfl (kX3_heed_378 hd _ h)
def mX3_heed_282 (N : Nat) (s0 : Int32) (s1 : Nat) (x : zv_X) : Option zv_X := if zm_k x s1 3 = true then ((mX3_require N s1 s0 x).bind fun o1 => mX3_heed_378 N o1) else none
theorem kX3_heed_282 {d : Nat} {x0 : zv_X} {o : zv_X} (hd : 4 ≤ d) {N : Nat} (s0 : Int32) (s1 : Nat) (x : zv_X) (h : mX3_heed_282 N s0 s1 x = some o) : zv_V (fX3_heed d x0 o) 282 [] [.int s0, .ref s1] x := by
  unfold mX3_heed_282 at h
  refine zr_cVv (ci := 3) (st := []) dX3_heed_282 mw_X3_require wd_642 wd_644 wd_2 rfl rfl [.int s0] rfl rfl (Nat.le_of_ble_eq_true rfl) (show d - 1 + 1 ≤ d by omega) h (fun o1 e2 => tX3_require (d := d - 1) (by omega) e2) (fun o1 e2 h => ?_)
  refine zv_goto (tgt := 378) dX3_heed_285 (by decide) ?_
  exact kX3_heed_378 hd _ h
def mX3_heed_262 (N : Nat) (l0 : Nat) (l3 : Int32) (x : zv_X) : Option zv_X := (zm_R x l0 3 8).bind fun v1 => (zm_I x v1 6 6).bind fun v3 => (mX5_takes N l3 x).bind fun o5 => if v3 = o5.2 then (mX3_heed_282 N (1 : Int32) l0 o5.1) else (mX3_heed_282 N (0 : Int32) l0 o5.1)
theorem kX3_heed_262 {d : Nat} {x0 : zv_X} {o : zv_X} (hd : 4 ≤ d) {N : Nat} (l0 : Nat) (l3 : Int32) (x : zv_X) (h : mX3_heed_262 N l0 l3 x = some o) : zv_V (fX3_heed d x0 o) 262 [(0, .ref l0), (3, .int l3)] [] x := by
  unfold mX3_heed_262 at h
  refine zv_aload_n (n := 0) dX3_heed_262 rfl rfl ?_
  refine zv_aload_n (n := 0) dX3_heed_263 rfl rfl ?_
  refine zr_gR dX3_heed_264 fg_219 h (fun v1 e2 h => ?_)
  refine zr_gI dX3_heed_267 fg_327 h (fun v3 e4 h => ?_)
  refine zv_iload_n (n := 1) dX3_heed_270 rfl rfl ?_
  refine zr_cSi (st := [.int v3, .ref l0]) dX3_heed_271 mw_X5_takes wd_691 wd_692 [.int l3] rfl rfl (Nat.le_of_ble_eq_true rfl) (show d - 1 + 1 ≤ d by omega) h (fun o5 e6 => tX5_takes (d := d - 1) (by omega) e6) (fun o5 e6 h => ?_)
  refine zr_icmp_ne (tgt := 281) dX3_heed_274 (by decide) h (fun c7 h => ?_) (fun c7 h => ?_)
  · refine zv_iconst (v := 0) dX3_heed_281 (by decide) ?_
    exact zv_fewer [] rfl (kX3_heed_282 hd _ _ _ h)
  · refine zv_iconst (v := 1) dX3_heed_277 (by decide) ?_
    refine zv_goto (tgt := 282) dX3_heed_278 (by decide) ?_
    exact zv_fewer [] rfl (kX3_heed_282 hd _ _ _ h)
def mX3_heed_334 (N : Nat) (l0 : Nat) (l2 : Int32) (x : zv_X) : Option zv_X := (zm_R x l0 3 0).bind fun v1 => (zm_R x l0 3 8).bind fun v3 => if zm_k x v3 6 = true then ((mX6_at N v3 (l2 + (1 : Int32)) x).bind fun o5 => if zm_k o5.1 v1 7 = true then ((mX7_has N v1 o5.2 o5.1).bind fun o7 => if zm_k o7.1 l0 3 = true then ((mX3_require N l0 o7.2 o7.1).bind fun o9 => mX3_heed_378 N o9) else none) else none) else none
theorem kX3_heed_334 {d : Nat} {x0 : zv_X} {o : zv_X} (hd : 4 ≤ d) {N : Nat} (l0 : Nat) (l2 : Int32) (x : zv_X) (h : mX3_heed_334 N l0 l2 x = some o) : zv_V (fX3_heed d x0 o) 334 [(0, .ref l0), (2, .int l2)] [] x := by
  unfold mX3_heed_334 at h
  refine zv_aload_n (n := 0) dX3_heed_334 rfl rfl ?_
  refine zv_aload_n (n := 0) dX3_heed_335 rfl rfl ?_
  refine zr_gR dX3_heed_336 fg_211 h (fun v1 e2 h => ?_)
  refine zv_aload_n (n := 0) dX3_heed_339 rfl rfl ?_
  refine zr_gR dX3_heed_340 fg_219 h (fun v3 e4 h => ?_)
  refine zv_iload_n (n := 1) dX3_heed_343 rfl rfl ?_
  refine zv_iconst (v := 1) dX3_heed_344 (by decide) ?_
  refine zv_iadd dX3_heed_345 ?_
  refine zr_cVi (ci := 6) (st := [.ref v1, .ref l0]) dX3_heed_346 mw_X6_at wd_658 wd_659 wd_660 rfl rfl [.int (l2 + (1 : Int32))] rfl rfl (Nat.le_of_ble_eq_true rfl) (show d - 1 + 1 ≤ d by omega) h (fun o5 e6 => tX6_at (d := d - 1) (by omega) e6) (fun o5 e6 h => ?_)
  refine zr_cVi (ci := 7) (st := [.ref l0]) dX3_heed_349 mw_X7_has wd_733 wd_541 wd_542 rfl rfl [.int o5.2] rfl rfl (Nat.le_of_ble_eq_true rfl) (show d - 1 + 1 ≤ d by omega) h (fun o7 e8 => tX7_has (d := d - 1) (by omega) e8) (fun o7 e8 h => ?_)
  refine zr_cVv (ci := 3) (st := []) dX3_heed_352 mw_X3_require wd_642 wd_644 wd_2 rfl rfl [.int o7.2] rfl rfl (Nat.le_of_ble_eq_true rfl) (show d - 1 + 1 ≤ d by omega) h (fun o9 e10 => tX3_require (d := d - 1) (by omega) e10) (fun o9 e10 h => ?_)
  refine zv_goto (tgt := 378) dX3_heed_355 (by decide) ?_
  exact zv_fewer [] rfl (kX3_heed_378 hd _ h)
def mX3_heed_0 (N : Nat) (l0 : Nat) (l1 : Int32) (l2 : Int32) (l3 : Int32) (x : zv_X) : Option zv_X := if l1 = (21 : Int32) then (mX3_heed_180 N l0 l2 l3 x) else if l1 = (22 : Int32) then (mX3_heed_180 N l0 l2 l3 x) else if l1 = (25 : Int32) then (mX3_heed_180 N l0 l2 l3 x) else if l1 = (54 : Int32) then (mX3_heed_201 N l0 l2 l3 x) else if l1 = (55 : Int32) then (mX3_heed_201 N l0 l2 l3 x) else if l1 = (58 : Int32) then (mX3_heed_201 N l0 l2 l3 x) else if l1 = (87 : Int32) then (if zm_k x l0 3 = true then ((mX3_takeNarrow N l0 x).bind fun o7 => mX3_heed_378 N o7.1) else none) else if l1 = (89 : Int32) then (if zm_k x l0 3 = true then ((mX3_duplicate N l0 x).bind fun o10 => mX3_heed_378 N o10) else none) else if l1 = (95 : Int32) then (if zm_k x l0 3 = true then ((mX3_exchange N l0 x).bind fun o13 => mX3_heed_378 N o13) else none) else if l1 = (132 : Int32) then ((zm_R x l0 3 8).bind fun v16 => if zm_k x v16 6 = true then ((mX6_at N v16 (l2 + (1 : Int32)) x).bind fun o18 => if zm_k o18.1 l0 3 = true then ((mX3_readLocal N l0 o18.2 (1 : Int32) o18.1).bind fun o20 => mX3_heed_378 N o20) else none) else none) else if l1 = (172 : Int32) then (mX3_heed_262 N l0 l3 x) else if l1 = (173 : Int32) then (mX3_heed_262 N l0 l3 x) else if l1 = (176 : Int32) then (mX3_heed_262 N l0 l3 x) else if l1 = (177 : Int32) then (mX3_heed_262 N l0 l3 x) else if l1 = (180 : Int32) then (if zm_k x l0 3 = true then ((mX3_fieldKind N l0 l2 x).bind fun o27 => if zm_k o27.1 l0 3 = true then ((mX3_give N l0 o27.2 o27.1).bind fun o29 => mX3_heed_378 N o29) else none) else none) else if l1 = (181 : Int32) then (if zm_k x l0 3 = true then ((mX3_fieldKind N l0 l2 x).bind fun o32 => if zm_k o32.1 l0 3 = true then ((mX3_take N l0 o32.2 o32.1).bind fun o34 => if zm_k o34 l0 3 = true then ((mX3_take N l0 (3 : Int32) o34).bind fun o36 => mX3_heed_378 N o36) else none) else none) else none) else if l1 = (184 : Int32) then ((zm_R x l0 3 8).bind fun v39 => if zm_k x v39 6 = true then ((mX6_at N v39 (l2 + (1 : Int32)) x).bind fun o41 => if zm_k o41.1 l0 3 = true then ((mX3_passCall N l0 o41.2 o41.1).bind fun o43 => mX3_heed_378 N o43) else none) else none) else if l1 = (187 : Int32) then (mX3_heed_334 N l0 l2 x) else if l1 = (188 : Int32) then ((zm_R x l0 3 8).bind fun v47 => if zm_k x v47 6 = true then ((mX6_at N v47 (l2 + (1 : Int32)) x).bind fun o49 => (mX3_isSortOfNumbers N o49.2 o49.1).bind fun o51 => if zm_k o51.1 l0 3 = true then ((mX3_require N l0 o51.2 o51.1).bind fun o53 => mX3_heed_378 N o53) else none) else none) else if l1 = (192 : Int32) then (mX3_heed_334 N l0 l2 x) else if l1 = (193 : Int32) then (mX3_heed_334 N l0 l2 x) else (mX3_heed_378 N x)
theorem kX3_heed_0 {d : Nat} {x0 : zv_X} {o : zv_X} (hd : 4 ≤ d) {N : Nat} (l0 : Nat) (l1 : Int32) (l2 : Int32) (l3 : Int32) (x : zv_X) (h : mX3_heed_0 N l0 l1 l2 l3 x = some o) : zv_V (fX3_heed d x0 o) 0 [(0, .ref l0), (1, .int l1), (2, .int l2), (3, .int l3)] [] x := by
  unfold mX3_heed_0 at h
  refine zv_iload_n (n := 1) dX3_heed_0 rfl rfl ?_
  rcases zif h with ⟨c1, h⟩ | ⟨c1, h⟩
  · refine zr_lookIn (tgt := 180) (off := 179) c1 dX3_heed_1 (by decide) (by decide) (by decide) ?_
    exact zv_fewer [0, 2, 3] rfl (kX3_heed_180 hd _ _ _ _ h)
  rcases zif h with ⟨c2, h⟩ | ⟨c2, h⟩
  · refine zr_lookIn (tgt := 180) (off := 179) c2 dX3_heed_1 (by decide) (by decide) (by decide) ?_
    exact zv_fewer [0, 2, 3] rfl (kX3_heed_180 hd _ _ _ _ h)
  rcases zif h with ⟨c3, h⟩ | ⟨c3, h⟩
  · refine zr_lookIn (tgt := 180) (off := 179) c3 dX3_heed_1 (by decide) (by decide) (by decide) ?_
    exact zv_fewer [0, 2, 3] rfl (kX3_heed_180 hd _ _ _ _ h)
  rcases zif h with ⟨c4, h⟩ | ⟨c4, h⟩
  · refine zr_lookIn (tgt := 201) (off := 200) c4 dX3_heed_1 (by decide) (by decide) (by decide) ?_
    exact zv_fewer [0, 2, 3] rfl (kX3_heed_201 hd _ _ _ _ h)
  rcases zif h with ⟨c5, h⟩ | ⟨c5, h⟩
  · refine zr_lookIn (tgt := 201) (off := 200) c5 dX3_heed_1 (by decide) (by decide) (by decide) ?_
    exact zv_fewer [0, 2, 3] rfl (kX3_heed_201 hd _ _ _ _ h)
  rcases zif h with ⟨c6, h⟩ | ⟨c6, h⟩
  · refine zr_lookIn (tgt := 201) (off := 200) c6 dX3_heed_1 (by decide) (by decide) (by decide) ?_
    exact zv_fewer [0, 2, 3] rfl (kX3_heed_201 hd _ _ _ _ h)
  rcases zif h with ⟨c9, h⟩ | ⟨c9, h⟩
  · refine zr_lookIn (tgt := 240) (off := 239) c9 dX3_heed_1 (by decide) (by decide) (by decide) ?_
    refine zv_aload_n (n := 0) dX3_heed_240 rfl rfl ?_
    refine zr_cVi (ci := 3) (st := []) dX3_heed_241 mw_X3_takeNarrow wd_713 wd_715 wd_10 rfl rfl [] rfl rfl (Nat.le_of_ble_eq_true rfl) (show d - 1 + 1 ≤ d by omega) h (fun o7 e8 => tX3_takeNarrow (d := d - 1) (by omega) e8) (fun o7 e8 h => ?_)
    refine zv_pop dX3_heed_244 rfl ?_
    refine zv_goto (tgt := 378) dX3_heed_245 (by decide) ?_
    exact zv_fewer [] rfl (kX3_heed_378 hd _ h)
  rcases zif h with ⟨c12, h⟩ | ⟨c12, h⟩
  · refine zr_lookIn (tgt := 248) (off := 247) c12 dX3_heed_1 (by decide) (by decide) (by decide) ?_
    refine zv_aload_n (n := 0) dX3_heed_248 rfl rfl ?_
    refine zr_cVv (ci := 3) (st := []) dX3_heed_249 mw_X3_duplicate wd_717 wd_719 wd_11 rfl rfl [] rfl rfl (Nat.le_of_ble_eq_true rfl) (show d - 1 + 1 ≤ d by omega) h (fun o10 e11 => tX3_duplicate (d := d - 1) (by omega) e11) (fun o10 e11 h => ?_)
    refine zv_goto (tgt := 378) dX3_heed_252 (by decide) ?_
    exact zv_fewer [] rfl (kX3_heed_378 hd _ h)
  rcases zif h with ⟨c15, h⟩ | ⟨c15, h⟩
  · refine zr_lookIn (tgt := 255) (off := 254) c15 dX3_heed_1 (by decide) (by decide) (by decide) ?_
    refine zv_aload_n (n := 0) dX3_heed_255 rfl rfl ?_
    refine zr_cVv (ci := 3) (st := []) dX3_heed_256 mw_X3_exchange wd_725 wd_727 wd_13 rfl rfl [] rfl rfl (Nat.le_of_ble_eq_true rfl) (show d - 1 + 1 ≤ d by omega) h (fun o13 e14 => tX3_exchange (d := d - 1) (by omega) e14) (fun o13 e14 h => ?_)
    refine zv_goto (tgt := 378) dX3_heed_259 (by decide) ?_
    exact zv_fewer [] rfl (kX3_heed_378 hd _ h)
  rcases zif h with ⟨c22, h⟩ | ⟨c22, h⟩
  · refine zr_lookIn (tgt := 222) (off := 221) c22 dX3_heed_1 (by decide) (by decide) (by decide) ?_
    refine zv_aload_n (n := 0) dX3_heed_222 rfl rfl ?_
    refine zv_aload_n (n := 0) dX3_heed_223 rfl rfl ?_
    refine zr_gR dX3_heed_224 fg_219 h (fun v16 e17 h => ?_)
    refine zv_iload_n (n := 2) dX3_heed_227 rfl rfl ?_
    refine zv_iconst (v := 1) dX3_heed_228 (by decide) ?_
    refine zv_iadd dX3_heed_229 ?_
    refine zr_cVi (ci := 6) (st := [.ref l0]) dX3_heed_230 mw_X6_at wd_658 wd_659 wd_660 rfl rfl [.int (l2 + (1 : Int32))] rfl rfl (Nat.le_of_ble_eq_true rfl) (show d - 1 + 1 ≤ d by omega) h (fun o18 e19 => tX6_at (d := d - 1) (by omega) e19) (fun o18 e19 h => ?_)
    refine zv_iconst (v := 1) dX3_heed_233 (by decide) ?_
    refine zr_cVv (ci := 3) (st := []) dX3_heed_234 mw_X3_readLocal wd_705 wd_707 wd_8 rfl rfl [.int o18.2, .int (1 : Int32)] rfl rfl (Nat.le_of_ble_eq_true rfl) (show d - 1 + 1 ≤ d by omega) h (fun o20 e21 => tX3_readLocal (d := d - 1) (by omega) e21) (fun o20 e21 h => ?_)
    refine zv_goto (tgt := 378) dX3_heed_237 (by decide) ?_
    exact zv_fewer [] rfl (kX3_heed_378 hd _ h)
  rcases zif h with ⟨c23, h⟩ | ⟨c23, h⟩
  · refine zr_lookIn (tgt := 262) (off := 261) c23 dX3_heed_1 (by decide) (by decide) (by decide) ?_
    exact zv_fewer [0, 3] rfl (kX3_heed_262 hd _ _ _ h)
  rcases zif h with ⟨c24, h⟩ | ⟨c24, h⟩
  · refine zr_lookIn (tgt := 262) (off := 261) c24 dX3_heed_1 (by decide) (by decide) (by decide) ?_
    exact zv_fewer [0, 3] rfl (kX3_heed_262 hd _ _ _ h)
  rcases zif h with ⟨c25, h⟩ | ⟨c25, h⟩
  · refine zr_lookIn (tgt := 262) (off := 261) c25 dX3_heed_1 (by decide) (by decide) (by decide) ?_
    exact zv_fewer [0, 3] rfl (kX3_heed_262 hd _ _ _ h)
  rcases zif h with ⟨c26, h⟩ | ⟨c26, h⟩
  · refine zr_lookIn (tgt := 262) (off := 261) c26 dX3_heed_1 (by decide) (by decide) (by decide) ?_
    exact zv_fewer [0, 3] rfl (kX3_heed_262 hd _ _ _ h)
  rcases zif h with ⟨c31, h⟩ | ⟨c31, h⟩
  · refine zr_lookIn (tgt := 288) (off := 287) c31 dX3_heed_1 (by decide) (by decide) (by decide) ?_
    refine zv_aload_n (n := 0) dX3_heed_288 rfl rfl ?_
    refine zv_aload_n (n := 0) dX3_heed_289 rfl rfl ?_
    refine zv_iload_n (n := 2) dX3_heed_290 rfl rfl ?_
    refine zr_cVi (ci := 3) (st := [.ref l0]) dX3_heed_291 mw_X3_fieldKind wd_729 wd_731 wd_14 rfl rfl [.int l2] rfl rfl (Nat.le_of_ble_eq_true rfl) (show d - 1 + 1 ≤ d by omega) h (fun o27 e28 => tX3_fieldKind (d := d - 1) (by omega) e28) (fun o27 e28 h => ?_)
    refine zr_cVv (ci := 3) (st := []) dX3_heed_294 mw_X3_give wd_721 wd_723 wd_12 rfl rfl [.int o27.2] rfl rfl (Nat.le_of_ble_eq_true rfl) (show d - 1 + 1 ≤ d by omega) h (fun o29 e30 => tX3_give (d := d - 1) (by omega) e30) (fun o29 e30 h => ?_)
    refine zv_goto (tgt := 378) dX3_heed_297 (by decide) ?_
    exact zv_fewer [] rfl (kX3_heed_378 hd _ h)
  rcases zif h with ⟨c38, h⟩ | ⟨c38, h⟩
  · refine zr_lookIn (tgt := 300) (off := 299) c38 dX3_heed_1 (by decide) (by decide) (by decide) ?_
    refine zv_aload_n (n := 0) dX3_heed_300 rfl rfl ?_
    refine zv_aload_n (n := 0) dX3_heed_301 rfl rfl ?_
    refine zv_iload_n (n := 2) dX3_heed_302 rfl rfl ?_
    refine zr_cVi (ci := 3) (st := [.ref l0]) dX3_heed_303 mw_X3_fieldKind wd_729 wd_731 wd_14 rfl rfl [.int l2] rfl rfl (Nat.le_of_ble_eq_true rfl) (show d - 1 + 1 ≤ d by omega) h (fun o32 e33 => tX3_fieldKind (d := d - 1) (by omega) e33) (fun o32 e33 h => ?_)
    refine zr_cVv (ci := 3) (st := []) dX3_heed_306 mw_X3_take wd_694 wd_696 wd_6 rfl rfl [.int o32.2] rfl rfl (Nat.le_of_ble_eq_true rfl) (show d - 1 + 1 ≤ d by omega) h (fun o34 e35 => tX3_take (d := d - 1) (by omega) e35) (fun o34 e35 h => ?_)
    refine zv_aload_n (n := 0) dX3_heed_309 rfl rfl ?_
    refine zv_iconst (v := 3) dX3_heed_310 (by decide) ?_
    refine zr_cVv (ci := 3) (st := []) dX3_heed_311 mw_X3_take wd_694 wd_696 wd_6 rfl rfl [.int (3 : Int32)] rfl rfl (Nat.le_of_ble_eq_true rfl) (show d - 1 + 1 ≤ d by omega) h (fun o36 e37 => tX3_take (d := d - 1) (by omega) e37) (fun o36 e37 h => ?_)
    refine zv_goto (tgt := 378) dX3_heed_314 (by decide) ?_
    exact zv_fewer [] rfl (kX3_heed_378 hd _ h)
  rcases zif h with ⟨c45, h⟩ | ⟨c45, h⟩
  · refine zr_lookIn (tgt := 317) (off := 316) c45 dX3_heed_1 (by decide) (by decide) (by decide) ?_
    refine zv_aload_n (n := 0) dX3_heed_317 rfl rfl ?_
    refine zv_aload_n (n := 0) dX3_heed_318 rfl rfl ?_
    refine zr_gR dX3_heed_319 fg_219 h (fun v39 e40 h => ?_)
    refine zv_iload_n (n := 2) dX3_heed_322 rfl rfl ?_
    refine zv_iconst (v := 1) dX3_heed_323 (by decide) ?_
    refine zv_iadd dX3_heed_324 ?_
    refine zr_cVi (ci := 6) (st := [.ref l0]) dX3_heed_325 mw_X6_at wd_658 wd_659 wd_660 rfl rfl [.int (l2 + (1 : Int32))] rfl rfl (Nat.le_of_ble_eq_true rfl) (show d - 1 + 1 ≤ d by omega) h (fun o41 e42 => tX6_at (d := d - 1) (by omega) e42) (fun o41 e42 h => ?_)
    refine zr_cVv (ci := 3) (st := []) dX3_heed_328 mw_X3_passCall wd_738 wd_740 wd_15 rfl rfl [.int o41.2] rfl rfl (Nat.le_of_ble_eq_true rfl) (show d - 1 + 1 ≤ d by omega) h (fun o43 e44 => tX3_passCall (d := d - 1) (by omega) e44) (fun o43 e44 h => ?_)
    refine zv_goto (tgt := 378) dX3_heed_331 (by decide) ?_
    exact zv_fewer [] rfl (kX3_heed_378 hd _ h)
  rcases zif h with ⟨c46, h⟩ | ⟨c46, h⟩
  · refine zr_lookIn (tgt := 334) (off := 333) c46 dX3_heed_1 (by decide) (by decide) (by decide) ?_
    exact zv_fewer [0, 2] rfl (kX3_heed_334 hd _ _ _ h)
  rcases zif h with ⟨c55, h⟩ | ⟨c55, h⟩
  · refine zr_lookIn (tgt := 358) (off := 357) c55 dX3_heed_1 (by decide) (by decide) (by decide) ?_
    refine zv_aload_n (n := 0) dX3_heed_358 rfl rfl ?_
    refine zv_aload_n (n := 0) dX3_heed_359 rfl rfl ?_
    refine zr_gR dX3_heed_360 fg_219 h (fun v47 e48 h => ?_)
    refine zv_iload_n (n := 2) dX3_heed_363 rfl rfl ?_
    refine zv_iconst (v := 1) dX3_heed_364 (by decide) ?_
    refine zv_iadd dX3_heed_365 ?_
    refine zr_cVi (ci := 6) (st := [.ref l0]) dX3_heed_366 mw_X6_at wd_658 wd_659 wd_660 rfl rfl [.int (l2 + (1 : Int32))] rfl rfl (Nat.le_of_ble_eq_true rfl) (show d - 1 + 1 ≤ d by omega) h (fun o49 e50 => tX6_at (d := d - 1) (by omega) e50) (fun o49 e50 h => ?_)
    refine zr_cSi (st := [.ref l0]) dX3_heed_369 mw_X3_isSortOfNumbers wd_762 wd_763 [.int o49.2] rfl rfl (Nat.le_of_ble_eq_true rfl) (show d - 1 + 1 ≤ d by omega) h (fun o51 e52 => tX3_isSortOfNumbers (d := d - 1) (by omega) e52) (fun o51 e52 h => ?_)
    refine zr_cVv (ci := 3) (st := []) dX3_heed_372 mw_X3_require wd_642 wd_644 wd_2 rfl rfl [.int o51.2] rfl rfl (Nat.le_of_ble_eq_true rfl) (show d - 1 + 1 ≤ d by omega) h (fun o53 e54 => tX3_require (d := d - 1) (by omega) e54) (fun o53 e54 h => ?_)
    refine zv_goto (tgt := 378) dX3_heed_375 (by decide) ?_
    exact zv_fewer [] rfl (kX3_heed_378 hd _ h)
  rcases zif h with ⟨c56, h⟩ | ⟨c56, h⟩
  · refine zr_lookIn (tgt := 334) (off := 333) c56 dX3_heed_1 (by decide) (by decide) (by decide) ?_
    exact zv_fewer [0, 2] rfl (kX3_heed_334 hd _ _ _ h)
  rcases zif h with ⟨c57, h⟩ | ⟨c57, h⟩
  · refine zr_lookIn (tgt := 334) (off := 333) c57 dX3_heed_1 (by decide) (by decide) (by decide) ?_
    exact zv_fewer [0, 2] rfl (kX3_heed_334 hd _ _ _ h)
  refine zv_lookup (tgt := 378) (off := 377) dX3_heed_1 (by decide) (by show Op.lookupswitch.offset [((21 : Int), (179 : Int)), ((22 : Int), (179 : Int)), ((25 : Int), (179 : Int)), ((54 : Int), (200 : Int)), ((55 : Int), (200 : Int)), ((58 : Int), (200 : Int)), ((87 : Int), (239 : Int)), ((89 : Int), (247 : Int)), ((95 : Int), (254 : Int)), ((132 : Int), (221 : Int)), ((172 : Int), (261 : Int)), ((173 : Int), (261 : Int)), ((176 : Int), (261 : Int)), ((177 : Int), (261 : Int)), ((180 : Int), (287 : Int)), ((181 : Int), (299 : Int)), ((184 : Int), (316 : Int)), ((187 : Int), (333 : Int)), ((188 : Int), (357 : Int)), ((192 : Int), (333 : Int)), ((193 : Int), (333 : Int))] 377 _ = _; rw [lv_osw c1 (show (21 : Int32).toInt = 21 by decide), lv_osw c2 (show (22 : Int32).toInt = 22 by decide), lv_osw c3 (show (25 : Int32).toInt = 25 by decide), lv_osw c4 (show (54 : Int32).toInt = 54 by decide), lv_osw c5 (show (55 : Int32).toInt = 55 by decide), lv_osw c6 (show (58 : Int32).toInt = 58 by decide), lv_osw c9 (show (87 : Int32).toInt = 87 by decide), lv_osw c12 (show (89 : Int32).toInt = 89 by decide), lv_osw c15 (show (95 : Int32).toInt = 95 by decide), lv_osw c22 (show (132 : Int32).toInt = 132 by decide), lv_osw c23 (show (172 : Int32).toInt = 172 by decide), lv_osw c24 (show (173 : Int32).toInt = 173 by decide), lv_osw c25 (show (176 : Int32).toInt = 176 by decide), lv_osw c26 (show (177 : Int32).toInt = 177 by decide), lv_osw c31 (show (180 : Int32).toInt = 180 by decide), lv_osw c38 (show (181 : Int32).toInt = 181 by decide), lv_osw c45 (show (184 : Int32).toInt = 184 by decide), lv_osw c46 (show (187 : Int32).toInt = 187 by decide), lv_osw c55 (show (188 : Int32).toInt = 188 by decide), lv_osw c56 (show (192 : Int32).toInt = 192 by decide), lv_osw c57 (show (193 : Int32).toInt = 193 by decide)]; rfl) (by decide) ?_
  exact zv_fewer [] rfl (kX3_heed_378 hd _ h)
def mX3_heed (N : Nat) (a0 : Nat) (a1 : Int32) (a2 : Int32) (a3 : Int32) (x : zv_X) : Option zv_X := mX3_heed_0 N a0 a1 a2 a3 x
theorem tX3_heed {d : Nat} (hd : 4 ≤ d) {N : Nat} {x : zv_X} {a0 : Nat} {a1 : Int32} {a2 : Int32} {a3 : Int32} {o : zv_X} (h : mX3_heed N a0 a1 a2 a3 x = some o) : zv_T d yX3_heed cX3_heed 4 (none) [.ref a0, .int a1, .int a2, .int a3] x o none := by
  unfold mX3_heed at h
  exact zv_enter (by decide) (Nat.le_of_ble_eq_true rfl) (kX3_heed_0 hd _ _ _ _ _ h)

abbrev fX6_guards (d : Nat) (x0 : zv_X) (o : (zv_X × Int32)) : zv_G := (d, RX6, cX6_guards, 3, (some .boolean), ("guards", []), x0, o.1, zv_fin x0 o.1 (some (.int o.2)))
def mX6_guards_27 (N : Nat) (s0 : Int32) (x : zv_X) : Option (zv_X × Int32) := if s0 = 0 ∨ s0 = 1 then some (x, s0) else none
theorem kX6_guards_27 {d : Nat} {x0 : zv_X} {o : (zv_X × Int32)} (hd : 0 ≤ d) {N : Nat} (s0 : Int32) (x : zv_X) (h : mX6_guards_27 N s0 x = some o) : zv_V (fX6_guards d x0 o) 27 [] [.int s0] x := by
  unfold mX6_guards_27 at h
  obtain ⟨hv, h⟩ := zg h
  cases h
  exact zv_zret dX6_guards_27 rfl hv
def mX6_guards_26 (N : Nat)  (x : zv_X) : Option (zv_X × Int32) := mX6_guards_27 N (0 : Int32) x
theorem kX6_guards_26 {d : Nat} {x0 : zv_X} {o : (zv_X × Int32)} (hd : 0 ≤ d) {N : Nat}  (x : zv_X) (h : mX6_guards_26 N  x = some o) : zv_V (fX6_guards d x0 o) 26 [] [] x := by
  unfold mX6_guards_26 at h
  refine zv_iconst (v := 0) dX6_guards_26 (by decide) ?_
  exact kX6_guards_27 hd _ _ h
def mX6_guards_0 (N : Nat) (l0 : Nat) (l1 : Int32) (l2 : Int32) (x : zv_X) : Option (zv_X × Int32) := (zm_R x l0 6 1).bind fun v1 => (zm_aI x v1 l1).bind fun v3 => if l2 < v3 then (mX6_guards_26 N x) else ((zm_R x l0 6 1).bind fun v5 => (zm_aI x v5 (l1 + (1 : Int32))).bind fun v7 => if v7 ≤ l2 then (mX6_guards_26 N x) else (mX6_guards_27 N (1 : Int32) x))
theorem kX6_guards_0 {d : Nat} {x0 : zv_X} {o : (zv_X × Int32)} (hd : 0 ≤ d) {N : Nat} (l0 : Nat) (l1 : Int32) (l2 : Int32) (x : zv_X) (h : mX6_guards_0 N l0 l1 l2 x = some o) : zv_V (fX6_guards d x0 o) 0 [(0, .ref l0), (1, .int l1), (2, .int l2)] [] x := by
  unfold mX6_guards_0 at h
  refine zv_aload_n (n := 0) dX6_guards_0 rfl rfl ?_
  refine zr_gR dX6_guards_1 fg_314 h (fun v1 e2 h => ?_)
  refine zv_iload_n (n := 1) dX6_guards_4 rfl rfl ?_
  refine zr_aI dX6_guards_5 h (fun v3 e4 h => ?_)
  refine zv_iload_n (n := 2) dX6_guards_6 rfl rfl ?_
  refine zr_icmp_gt (tgt := 26) dX6_guards_7 (by decide) h (fun c10 h => ?_) (fun c10 h => ?_)
  · exact zv_fewer [] rfl (kX6_guards_26 hd _ h)
  · refine zv_iload_n (n := 2) dX6_guards_10 rfl rfl ?_
    refine zv_aload_n (n := 0) dX6_guards_11 rfl rfl ?_
    refine zr_gR dX6_guards_12 fg_314 h (fun v5 e6 h => ?_)
    refine zv_iload_n (n := 1) dX6_guards_15 rfl rfl ?_
    refine zv_iconst (v := 1) dX6_guards_16 (by decide) ?_
    refine zv_iadd dX6_guards_17 ?_
    refine zr_aI dX6_guards_18 h (fun v7 e8 h => ?_)
    refine zr_icmp_ge (tgt := 26) dX6_guards_19 (by decide) h (fun c9 h => ?_) (fun c9 h => ?_)
    · exact zv_fewer [] rfl (kX6_guards_26 hd _ h)
    · refine zv_iconst (v := 1) dX6_guards_22 (by decide) ?_
      refine zv_goto (tgt := 27) dX6_guards_23 (by decide) ?_
      exact zv_fewer [] rfl (kX6_guards_27 hd _ _ h)
def mX6_guards (N : Nat) (a0 : Nat) (a1 : Int32) (a2 : Int32) (x : zv_X) : Option (zv_X × Int32) := mX6_guards_0 N a0 a1 a2 x
theorem tX6_guards {d : Nat} (hd : 0 ≤ d) {N : Nat} {x : zv_X} {a0 : Nat} {a1 : Int32} {a2 : Int32} {o : (zv_X × Int32)} (h : mX6_guards N a0 a1 a2 x = some o) : zv_T d yX6_guards cX6_guards 3 ((some .boolean)) [.ref a0, .int a1, .int a2] x o.1 (some (.int o.2)) := by
  unfold mX6_guards at h
  exact zv_enter (by decide) (Nat.le_of_ble_eq_true rfl) (kX6_guards_0 hd _ _ _ _ h)

abbrev fX3_leadToHandlers (d : Nat) (x0 : zv_X) (o : zv_X) : zv_G := (d, RX3, cX3_leadToHandlers, 4, none, ("leadToHandlers", []), x0, o, zv_fin x0 o none)
def mX3_leadToHandlers_64 (K10 : Nat → Int32 → Nat → Int32 → zv_X → Option zv_X) (N : Nat) (l0 : Nat) (l1 : Int32) (l2 : Nat) (l3 : Int32) (x : zv_X) : Option zv_X := K10 l0 l1 l2 (l3 + (4)) x
theorem kX3_leadToHandlers_64 {d : Nat} {x0 : zv_X} {o : zv_X} (hd : 2 ≤ d) {K10 : Nat → Int32 → Nat → Int32 → zv_X → Option zv_X} (hK10 : ∀ (l0 : Nat) (l1 : Int32) (l2 : Nat) (l3 : Int32) (x : zv_X), K10 l0 l1 l2 l3 x = some o → zv_V (fX3_leadToHandlers d x0 o) 10 [(0, .ref l0), (1, .int l1), (2, .ref l2), (3, .int l3)] [] x) {N : Nat} (l0 : Nat) (l1 : Int32) (l2 : Nat) (l3 : Int32) (x : zv_X) (h : mX3_leadToHandlers_64 K10 N l0 l1 l2 l3 x = some o) : zv_V (fX3_leadToHandlers d x0 o) 64 [(0, .ref l0), (1, .int l1), (2, .ref l2), (3, .int l3)] [] x := by
  unfold mX3_leadToHandlers_64 at h
  refine zv_iinc (n := 3) (v := l3 + (4)) (L' := [(3, .int (l3 + (4))), (0, .ref l0), (1, .int l1), (2, .ref l2)]) dX3_leadToHandlers_64 rfl rfl (Nat.le_of_ble_eq_true rfl) rfl ?_
  refine zv_goto (tgt := 10) dX3_leadToHandlers_67 (by decide) ?_
  exact zv_fewer [1, 2, 3, 0] rfl (hK10 _ _ _ _ _ h)
def mX3_leadToHandlers_47 (K10 : Nat → Int32 → Nat → Int32 → zv_X → Option zv_X) (N : Nat) (l0 : Nat) (l1 : Int32) (l2 : Nat) (l3 : Int32) (s0 : Int32) (s1 : Nat) (x : zv_X) : Option zv_X := if zm_k x s1 3 = true then ((mX3_require N s1 s0 x).bind fun o1 => (zm_aI o1 l2 (l3 + (2 : Int32))).bind fun v3 => (zm_I o1 l0 3 11).bind fun v5 => if zm_k o1 l0 3 = true then ((mX3_lead N l0 v3 (3 : Int32) v5 o1).bind fun o7 => mX3_leadToHandlers_64 K10 N l0 l1 l2 l3 o7) else none) else none
theorem kX3_leadToHandlers_47 {d : Nat} {x0 : zv_X} {o : zv_X} (hd : 2 ≤ d) {K10 : Nat → Int32 → Nat → Int32 → zv_X → Option zv_X} (hK10 : ∀ (l0 : Nat) (l1 : Int32) (l2 : Nat) (l3 : Int32) (x : zv_X), K10 l0 l1 l2 l3 x = some o → zv_V (fX3_leadToHandlers d x0 o) 10 [(0, .ref l0), (1, .int l1), (2, .ref l2), (3, .int l3)] [] x) {N : Nat} (l0 : Nat) (l1 : Int32) (l2 : Nat) (l3 : Int32) (s0 : Int32) (s1 : Nat) (x : zv_X) (h : mX3_leadToHandlers_47 K10 N l0 l1 l2 l3 s0 s1 x = some o) : zv_V (fX3_leadToHandlers d x0 o) 47 [(0, .ref l0), (1, .int l1), (2, .ref l2), (3, .int l3)] [.int s0, .ref s1] x := by
  unfold mX3_leadToHandlers_47 at h
  refine zr_cVv (ci := 3) (st := []) dX3_leadToHandlers_47 mw_X3_require wd_642 wd_644 wd_2 rfl rfl [.int s0] rfl rfl (Nat.le_of_ble_eq_true rfl) (show d - 1 + 1 ≤ d by omega) h (fun o1 e2 => tX3_require (d := d - 1) (by omega) e2) (fun o1 e2 h => ?_)
  refine zv_aload_n (n := 0) dX3_leadToHandlers_50 rfl rfl ?_
  refine zv_aload_n (n := 2) dX3_leadToHandlers_51 rfl rfl ?_
  refine zv_iload_n (n := 3) dX3_leadToHandlers_52 rfl rfl ?_
  refine zv_iconst (v := 2) dX3_leadToHandlers_53 (by decide) ?_
  refine zv_iadd dX3_leadToHandlers_54 ?_
  refine zr_aI dX3_leadToHandlers_55 h (fun v3 e4 h => ?_)
  refine zv_iconst (v := 3) dX3_leadToHandlers_56 (by decide) ?_
  refine zv_aload_n (n := 0) dX3_leadToHandlers_57 rfl rfl ?_
  refine zr_gI dX3_leadToHandlers_58 fg_222 h (fun v5 e6 h => ?_)
  refine zr_cVv (ci := 3) (st := []) dX3_leadToHandlers_61 mw_X3_lead wd_638 wd_640 wd_1 rfl rfl [.int v3, .int (3 : Int32), .int v5] rfl rfl (Nat.le_of_ble_eq_true rfl) (show d - 1 + 1 ≤ d by omega) h (fun o7 e8 => tX3_lead (d := d - 1) (by omega) e8) (fun o7 e8 h => ?_)
  exact kX3_leadToHandlers_64 hd hK10 _ _ _ _ _ h
def mX3_leadToHandlers_10 (N : Nat) : Nat → Nat → Int32 → Nat → Int32 → zv_X → Option zv_X
  | 0, _, _, _, _, _ => none
  | n + 1, l0, l1, l2, l3, x => (zm_n x l2).bind fun v1 => if v1 ≤ l3 then (some x) else ((zm_R x l0 3 8).bind fun v3 => if zm_k x v3 6 = true then ((mX6_guards N v3 l3 l1 x).bind fun o5 => if o5.2 = 0 then (mX3_leadToHandlers_64 (mX3_leadToHandlers_10 N n) N l0 l1 l2 l3 o5.1) else ((zm_R o5.1 l0 3 8).bind fun v7 => (zm_I o5.1 v7 6 5).bind fun v9 => if v9 ≤ 0 then (mX3_leadToHandlers_47 (mX3_leadToHandlers_10 N n) N l0 l1 l2 l3 (0 : Int32) l0 o5.1) else (mX3_leadToHandlers_47 (mX3_leadToHandlers_10 N n) N l0 l1 l2 l3 (1 : Int32) l0 o5.1))) else none)
theorem kX3_leadToHandlers_10 {d : Nat} {x0 : zv_X} {o : zv_X} (hd : 2 ≤ d) {N : Nat} : ∀ (n : Nat) (l0 : Nat) (l1 : Int32) (l2 : Nat) (l3 : Int32) (x : zv_X), mX3_leadToHandlers_10 N n l0 l1 l2 l3 x = some o → zv_V (fX3_leadToHandlers d x0 o) 10 [(0, .ref l0), (1, .int l1), (2, .ref l2), (3, .int l3)] [] x := by
  intro n
  induction n with
  | zero => intro l0 l1 l2 l3 x h; cases h
  | succ n ih =>
    intro l0 l1 l2 l3 x h
    unfold mX3_leadToHandlers_10 at h
    refine zv_iload_n (n := 3) dX3_leadToHandlers_10 rfl rfl ?_
    refine zv_aload_n (n := 2) dX3_leadToHandlers_11 rfl rfl ?_
    refine zr_n dX3_leadToHandlers_12 h (fun v1 e2 h => ?_)
    refine zr_icmp_ge (tgt := 70) dX3_leadToHandlers_13 (by decide) h (fun c13 h => ?_) (fun c13 h => ?_)
    · cases h
      exact zv_vret dX3_leadToHandlers_70 rfl
    · refine zv_aload_n (n := 0) dX3_leadToHandlers_16 rfl rfl ?_
      refine zr_gR dX3_leadToHandlers_17 fg_219 h (fun v3 e4 h => ?_)
      refine zv_iload_n (n := 3) dX3_leadToHandlers_20 rfl rfl ?_
      refine zv_iload_n (n := 1) dX3_leadToHandlers_21 rfl rfl ?_
      refine zr_cVi (ci := 6) (st := []) dX3_leadToHandlers_22 mw_X6_guards wd_687 wd_688 wd_689 rfl rfl [.int l3, .int l1] rfl rfl (Nat.le_of_ble_eq_true rfl) (show d - 1 + 1 ≤ d by omega) h (fun o5 e6 => tX6_guards (d := d - 1) (by omega) e6) (fun o5 e6 h => ?_)
      refine zr_if_ne (tgt := 31) dX3_leadToHandlers_25 (by decide) h (fun c12 h => ?_) (fun c12 h => ?_)
      · refine zv_aload_n (n := 0) dX3_leadToHandlers_31 rfl rfl ?_
        refine zv_aload_n (n := 0) dX3_leadToHandlers_32 rfl rfl ?_
        refine zr_gR dX3_leadToHandlers_33 fg_219 h (fun v7 e8 h => ?_)
        refine zr_gI dX3_leadToHandlers_36 fg_325 h (fun v9 e10 h => ?_)
        refine zr_if_le (tgt := 46) dX3_leadToHandlers_39 (by decide) h (fun c11 h => ?_) (fun c11 h => ?_)
        · refine zv_iconst (v := 0) dX3_leadToHandlers_46 (by decide) ?_
          exact kX3_leadToHandlers_47 hd ih _ _ _ _ _ _ _ h
        · refine zv_iconst (v := 1) dX3_leadToHandlers_42 (by decide) ?_
          refine zv_goto (tgt := 47) dX3_leadToHandlers_43 (by decide) ?_
          exact kX3_leadToHandlers_47 hd ih _ _ _ _ _ _ _ h
      · refine zv_goto (tgt := 64) dX3_leadToHandlers_28 (by decide) ?_
        exact kX3_leadToHandlers_64 hd ih _ _ _ _ _ h
def mX3_leadToHandlers_0 (N : Nat) (l0 : Nat) (l1 : Int32) (x : zv_X) : Option zv_X := (zm_R x l0 3 8).bind fun v1 => (zm_R x v1 6 1).bind fun v3 => mX3_leadToHandlers_10 N N l0 l1 v3 (0 : Int32) x
theorem kX3_leadToHandlers_0 {d : Nat} {x0 : zv_X} {o : zv_X} (hd : 2 ≤ d) {N : Nat} (l0 : Nat) (l1 : Int32) (x : zv_X) (h : mX3_leadToHandlers_0 N l0 l1 x = some o) : zv_V (fX3_leadToHandlers d x0 o) 0 [(0, .ref l0), (1, .int l1)] [] x := by
  unfold mX3_leadToHandlers_0 at h
  refine zv_aload_n (n := 0) dX3_leadToHandlers_0 rfl rfl ?_
  refine zr_gR dX3_leadToHandlers_1 fg_219 h (fun v1 e2 h => ?_)
  refine zr_gR dX3_leadToHandlers_4 fg_315 h (fun v3 e4 h => ?_)
  refine zv_astore_n (L' := [(2, .ref v3), (0, .ref l0), (1, .int l1)]) dX3_leadToHandlers_7 rfl (Nat.le_of_ble_eq_true rfl) rfl ?_
  refine zv_iconst (v := 0) dX3_leadToHandlers_8 (by decide) ?_
  refine zv_istore_n (L' := [(3, .int (0 : Int32)), (2, .ref v3), (0, .ref l0), (1, .int l1)]) dX3_leadToHandlers_9 rfl (Nat.le_of_ble_eq_true rfl) rfl ?_
  exact zv_fewer [2, 3, 1, 0] rfl (kX3_leadToHandlers_10 hd N _ _ _ _ _ h)
def mX3_leadToHandlers (N : Nat) (a0 : Nat) (a1 : Int32) (x : zv_X) : Option zv_X := mX3_leadToHandlers_0 N a0 a1 x
theorem tX3_leadToHandlers {d : Nat} (hd : 2 ≤ d) {N : Nat} {x : zv_X} {a0 : Nat} {a1 : Int32} {o : zv_X} (h : mX3_leadToHandlers N a0 a1 x = some o) : zv_T d yX3_leadToHandlers cX3_leadToHandlers 4 (none) [.ref a0, .int a1] x o none := by
  unfold mX3_leadToHandlers at h
  exact zv_enter (by decide) (Nat.le_of_ble_eq_true rfl) (kX3_leadToHandlers_0 hd _ _ _ h)

abbrev fX5_bytes (d : Nat) (x0 : zv_X) (o : (zv_X × Int32)) : zv_G := (d, RX5, cX5_bytes, 1, (some .int), ("bytes", []), x0, o.1, zv_fin x0 o.1 (some (.int o.2)))
def mX5_bytes_0 (N : Nat) (l0 : Int32) (x : zv_X) : Option (zv_X × Int32) := some (x, l0 >>> ((16 : Int32) &&& 31))
theorem kX5_bytes_0 {d : Nat} {x0 : zv_X} {o : (zv_X × Int32)} (hd : 0 ≤ d) {N : Nat} (l0 : Int32) (x : zv_X) (h : mX5_bytes_0 N l0 x = some o) : zv_V (fX5_bytes d x0 o) 0 [(0, .int l0)] [] x := by
  unfold mX5_bytes_0 at h
  refine zv_iload_n (n := 0) dX5_bytes_0 rfl rfl ?_
  refine zv_bipush (v := 16) dX5_bytes_1 (by decide) ?_
  refine zv_ishr dX5_bytes_3 ?_
  cases h
  exact zv_iret dX5_bytes_4 rfl
def mX5_bytes (N : Nat) (a0 : Int32) (x : zv_X) : Option (zv_X × Int32) := mX5_bytes_0 N a0 x
theorem tX5_bytes {d : Nat} (hd : 0 ≤ d) {N : Nat} {x : zv_X} {a0 : Int32} {o : (zv_X × Int32)} (h : mX5_bytes N a0 x = some o) : zv_T d yX5_bytes cX5_bytes 1 ((some .int)) [.int a0] x o.1 (some (.int o.2)) := by
  unfold mX5_bytes at h
  exact zv_enter (by decide) (Nat.le_of_ble_eq_true rfl) (kX5_bytes_0 hd _ _ h)

abbrev fX5_goesOn (d : Nat) (x0 : zv_X) (o : (zv_X × Int32)) : zv_G := (d, RX5, cX5_goesOn, 1, (some .boolean), ("goesOn", []), x0, o.1, zv_fin x0 o.1 (some (.int o.2)))
def mX5_goesOn_26 (N : Nat) (s0 : Int32) (x : zv_X) : Option (zv_X × Int32) := if s0 = 0 ∨ s0 = 1 then some (x, s0) else none
theorem kX5_goesOn_26 {d : Nat} {x0 : zv_X} {o : (zv_X × Int32)} (hd : 0 ≤ d) {N : Nat} (s0 : Int32) (x : zv_X) (h : mX5_goesOn_26 N s0 x = some o) : zv_V (fX5_goesOn d x0 o) 26 [] [.int s0] x := by
  unfold mX5_goesOn_26 at h
  obtain ⟨hv, h⟩ := zg h
  cases h
  exact zv_zret dX5_goesOn_26 rfl hv
def mX5_goesOn_21 (N : Nat)  (x : zv_X) : Option (zv_X × Int32) := mX5_goesOn_26 N (1 : Int32) x
theorem kX5_goesOn_21 {d : Nat} {x0 : zv_X} {o : (zv_X × Int32)} (hd : 0 ≤ d) {N : Nat}  (x : zv_X) (h : mX5_goesOn_21 N  x = some o) : zv_V (fX5_goesOn d x0 o) 21 [] [] x := by
  unfold mX5_goesOn_21 at h
  refine zv_iconst (v := 1) dX5_goesOn_21 (by decide) ?_
  refine zv_goto (tgt := 26) dX5_goesOn_22 (by decide) ?_
  exact kX5_goesOn_26 hd _ _ h
def mX5_goesOn_25 (N : Nat)  (x : zv_X) : Option (zv_X × Int32) := mX5_goesOn_26 N (0 : Int32) x
theorem kX5_goesOn_25 {d : Nat} {x0 : zv_X} {o : (zv_X × Int32)} (hd : 0 ≤ d) {N : Nat}  (x : zv_X) (h : mX5_goesOn_25 N  x = some o) : zv_V (fX5_goesOn d x0 o) 25 [] [] x := by
  unfold mX5_goesOn_25 at h
  refine zv_iconst (v := 0) dX5_goesOn_25 (by decide) ?_
  exact kX5_goesOn_26 hd _ _ h
def mX5_goesOn_0 (N : Nat) (l0 : Int32) (x : zv_X) : Option (zv_X × Int32) := if l0 < (167 : Int32) then (mX5_goesOn_21 N x) else (if l0 ≤ (177 : Int32) then (mX5_goesOn_25 N x) else (if l0 = (191 : Int32) then (mX5_goesOn_25 N x) else (mX5_goesOn_21 N x)))
theorem kX5_goesOn_0 {d : Nat} {x0 : zv_X} {o : (zv_X × Int32)} (hd : 0 ≤ d) {N : Nat} (l0 : Int32) (x : zv_X) (h : mX5_goesOn_0 N l0 x = some o) : zv_V (fX5_goesOn d x0 o) 0 [(0, .int l0)] [] x := by
  unfold mX5_goesOn_0 at h
  refine zv_iload_n (n := 0) dX5_goesOn_0 rfl rfl ?_
  refine zv_sipush (v := 167) dX5_goesOn_1 (by decide) ?_
  refine zr_icmp_lt (tgt := 21) dX5_goesOn_4 (by decide) h (fun c3 h => ?_) (fun c3 h => ?_)
  · exact zv_fewer [] rfl (kX5_goesOn_21 hd _ h)
  · refine zv_iload_n (n := 0) dX5_goesOn_7 rfl rfl ?_
    refine zv_sipush (v := 177) dX5_goesOn_8 (by decide) ?_
    refine zr_icmp_le (tgt := 25) dX5_goesOn_11 (by decide) h (fun c2 h => ?_) (fun c2 h => ?_)
    · exact zv_fewer [] rfl (kX5_goesOn_25 hd _ h)
    · refine zv_iload_n (n := 0) dX5_goesOn_14 rfl rfl ?_
      refine zv_sipush (v := 191) dX5_goesOn_15 (by decide) ?_
      refine zr_icmp_eq (tgt := 25) dX5_goesOn_18 (by decide) h (fun c1 h => ?_) (fun c1 h => ?_)
      · exact zv_fewer [] rfl (kX5_goesOn_25 hd _ h)
      · exact zv_fewer [] rfl (kX5_goesOn_21 hd _ h)
def mX5_goesOn (N : Nat) (a0 : Int32) (x : zv_X) : Option (zv_X × Int32) := mX5_goesOn_0 N a0 x
theorem tX5_goesOn {d : Nat} (hd : 0 ≤ d) {N : Nat} {x : zv_X} {a0 : Int32} {o : (zv_X × Int32)} (h : mX5_goesOn N a0 x = some o) : zv_T d yX5_goesOn cX5_goesOn 1 ((some .boolean)) [.int a0] x o.1 (some (.int o.2)) := by
  unfold mX5_goesOn at h
  exact zv_enter (by decide) (Nat.le_of_ble_eq_true rfl) (kX5_goesOn_0 hd _ _ h)

abbrev fX5_jumps (d : Nat) (x0 : zv_X) (o : (zv_X × Int32)) : zv_G := (d, RX5, cX5_jumps, 1, (some .boolean), ("jumps", []), x0, o.1, zv_fin x0 o.1 (some (.int o.2)))
def mX5_jumps_33 (N : Nat) (s0 : Int32) (x : zv_X) : Option (zv_X × Int32) := if s0 = 0 ∨ s0 = 1 then some (x, s0) else none
theorem kX5_jumps_33 {d : Nat} {x0 : zv_X} {o : (zv_X × Int32)} (hd : 0 ≤ d) {N : Nat} (s0 : Int32) (x : zv_X) (h : mX5_jumps_33 N s0 x = some o) : zv_V (fX5_jumps d x0 o) 33 [] [.int s0] x := by
  unfold mX5_jumps_33 at h
  obtain ⟨hv, h⟩ := zg h
  cases h
  exact zv_zret dX5_jumps_33 rfl hv
def mX5_jumps_28 (N : Nat)  (x : zv_X) : Option (zv_X × Int32) := mX5_jumps_33 N (1 : Int32) x
theorem kX5_jumps_28 {d : Nat} {x0 : zv_X} {o : (zv_X × Int32)} (hd : 0 ≤ d) {N : Nat}  (x : zv_X) (h : mX5_jumps_28 N  x = some o) : zv_V (fX5_jumps d x0 o) 28 [] [] x := by
  unfold mX5_jumps_28 at h
  refine zv_iconst (v := 1) dX5_jumps_28 (by decide) ?_
  refine zv_goto (tgt := 33) dX5_jumps_29 (by decide) ?_
  exact kX5_jumps_33 hd _ _ h
def mX5_jumps_14 (N : Nat) (l0 : Int32) (x : zv_X) : Option (zv_X × Int32) := if l0 = (198 : Int32) then (mX5_jumps_28 N x) else (if l0 = (199 : Int32) then (mX5_jumps_28 N x) else (mX5_jumps_33 N (0 : Int32) x))
theorem kX5_jumps_14 {d : Nat} {x0 : zv_X} {o : (zv_X × Int32)} (hd : 0 ≤ d) {N : Nat} (l0 : Int32) (x : zv_X) (h : mX5_jumps_14 N l0 x = some o) : zv_V (fX5_jumps d x0 o) 14 [(0, .int l0)] [] x := by
  unfold mX5_jumps_14 at h
  refine zv_iload_n (n := 0) dX5_jumps_14 rfl rfl ?_
  refine zv_sipush (v := 198) dX5_jumps_15 (by decide) ?_
  refine zr_icmp_eq (tgt := 28) dX5_jumps_18 (by decide) h (fun c2 h => ?_) (fun c2 h => ?_)
  · exact zv_fewer [] rfl (kX5_jumps_28 hd _ h)
  · refine zv_iload_n (n := 0) dX5_jumps_21 rfl rfl ?_
    refine zv_sipush (v := 199) dX5_jumps_22 (by decide) ?_
    refine zr_icmp_ne (tgt := 32) dX5_jumps_25 (by decide) h (fun c1 h => ?_) (fun c1 h => ?_)
    · refine zv_iconst (v := 0) dX5_jumps_32 (by decide) ?_
      exact zv_fewer [] rfl (kX5_jumps_33 hd _ _ h)
    · exact zv_fewer [] rfl (kX5_jumps_28 hd _ h)
def mX5_jumps_0 (N : Nat) (l0 : Int32) (x : zv_X) : Option (zv_X × Int32) := if l0 < (153 : Int32) then (mX5_jumps_14 N l0 x) else (if l0 ≤ (167 : Int32) then (mX5_jumps_28 N x) else (mX5_jumps_14 N l0 x))
theorem kX5_jumps_0 {d : Nat} {x0 : zv_X} {o : (zv_X × Int32)} (hd : 0 ≤ d) {N : Nat} (l0 : Int32) (x : zv_X) (h : mX5_jumps_0 N l0 x = some o) : zv_V (fX5_jumps d x0 o) 0 [(0, .int l0)] [] x := by
  unfold mX5_jumps_0 at h
  refine zv_iload_n (n := 0) dX5_jumps_0 rfl rfl ?_
  refine zv_sipush (v := 153) dX5_jumps_1 (by decide) ?_
  refine zr_icmp_lt (tgt := 14) dX5_jumps_4 (by decide) h (fun c2 h => ?_) (fun c2 h => ?_)
  · exact kX5_jumps_14 hd _ _ h
  · refine zv_iload_n (n := 0) dX5_jumps_7 rfl rfl ?_
    refine zv_sipush (v := 167) dX5_jumps_8 (by decide) ?_
    refine zr_icmp_le (tgt := 28) dX5_jumps_11 (by decide) h (fun c1 h => ?_) (fun c1 h => ?_)
    · exact zv_fewer [] rfl (kX5_jumps_28 hd _ h)
    · exact kX5_jumps_14 hd _ _ h
def mX5_jumps (N : Nat) (a0 : Int32) (x : zv_X) : Option (zv_X × Int32) := mX5_jumps_0 N a0 x
theorem tX5_jumps {d : Nat} (hd : 0 ≤ d) {N : Nat} {x : zv_X} {a0 : Int32} {o : (zv_X × Int32)} (h : mX5_jumps N a0 x = some o) : zv_T d yX5_jumps cX5_jumps 1 ((some .boolean)) [.int a0] x o.1 (some (.int o.2)) := by
  unfold mX5_jumps at h
  exact zv_enter (by decide) (Nat.le_of_ble_eq_true rfl) (kX5_jumps_0 hd _ _ h)

abbrev fX5_pack (d : Nat) (x0 : zv_X) (o : (zv_X × Int32)) : zv_G := (d, RX5, cX5_pack, 3, (some .int), ("pack", []), x0, o.1, zv_fin x0 o.1 (some (.int o.2)))
def mX5_pack_0 (N : Nat) (l0 : Int32) (l1 : Int32) (l2 : Int32) (x : zv_X) : Option (zv_X × Int32) := some (x, ((l0 <<< ((16 : Int32) &&& 31)) ||| (l1 <<< ((8 : Int32) &&& 31))) ||| l2)
theorem kX5_pack_0 {d : Nat} {x0 : zv_X} {o : (zv_X × Int32)} (hd : 0 ≤ d) {N : Nat} (l0 : Int32) (l1 : Int32) (l2 : Int32) (x : zv_X) (h : mX5_pack_0 N l0 l1 l2 x = some o) : zv_V (fX5_pack d x0 o) 0 [(0, .int l0), (1, .int l1), (2, .int l2)] [] x := by
  unfold mX5_pack_0 at h
  refine zv_iload_n (n := 0) dX5_pack_0 rfl rfl ?_
  refine zv_bipush (v := 16) dX5_pack_1 (by decide) ?_
  refine zv_ishl dX5_pack_3 ?_
  refine zv_iload_n (n := 1) dX5_pack_4 rfl rfl ?_
  refine zv_bipush (v := 8) dX5_pack_5 (by decide) ?_
  refine zv_ishl dX5_pack_7 ?_
  refine zv_ior dX5_pack_8 ?_
  refine zv_iload_n (n := 2) dX5_pack_9 rfl rfl ?_
  refine zv_ior dX5_pack_10 ?_
  cases h
  exact zv_iret dX5_pack_11 rfl
def mX5_pack (N : Nat) (a0 : Int32) (a1 : Int32) (a2 : Int32) (x : zv_X) : Option (zv_X × Int32) := mX5_pack_0 N a0 a1 a2 x
theorem tX5_pack {d : Nat} (hd : 0 ≤ d) {N : Nat} {x : zv_X} {a0 : Int32} {a1 : Int32} {a2 : Int32} {o : (zv_X × Int32)} (h : mX5_pack N a0 a1 a2 x = some o) : zv_T d yX5_pack cX5_pack 3 ((some .int)) [.int a0, .int a1, .int a2] x o.1 (some (.int o.2)) := by
  unfold mX5_pack at h
  exact zv_enter (by decide) (Nat.le_of_ble_eq_true rfl) (kX5_pack_0 hd _ _ _ _ h)

abbrev fX5_shapeOfHeapUse (d : Nat) (x0 : zv_X) (o : (zv_X × Int32)) : zv_G := (d, RX5, cX5_shapeOfHeapUse, 1, (some .int), ("shapeOfHeapUse", []), x0, o.1, zv_fin x0 o.1 (some (.int o.2)))
def mX5_shapeOfHeapUse_142 (N : Nat)  (x : zv_X) : Option (zv_X × Int32) := some (x, (0 : Int32))
theorem kX5_shapeOfHeapUse_142 {d : Nat} {x0 : zv_X} {o : (zv_X × Int32)} (hd : 1 ≤ d) {N : Nat}  (x : zv_X) (h : mX5_shapeOfHeapUse_142 N  x = some o) : zv_V (fX5_shapeOfHeapUse d x0 o) 142 [] [] x := by
  unfold mX5_shapeOfHeapUse_142 at h
  refine zv_iconst (v := 0) dX5_shapeOfHeapUse_142 (by decide) ?_
  cases h
  exact zv_iret dX5_shapeOfHeapUse_143 rfl
def mX5_shapeOfHeapUse_0 (N : Nat) (l0 : Int32) (x : zv_X) : Option (zv_X × Int32) := if l0 = (180 : Int32) then ((mX5_pack N (3 : Int32) (3 : Int32) (0 : Int32) x).bind fun o1 => some (o1.1, o1.2)) else if l0 = (181 : Int32) then ((mX5_pack N (3 : Int32) (0 : Int32) (0 : Int32) x).bind fun o4 => some (o4.1, o4.2)) else if l0 = (182 : Int32) then (mX5_shapeOfHeapUse_142 N x) else if l0 = (183 : Int32) then (mX5_shapeOfHeapUse_142 N x) else if l0 = (184 : Int32) then ((mX5_pack N (2 : Int32) (0 : Int32) (0 : Int32) x).bind fun o9 => some (o9.1, o9.2)) else if l0 = (185 : Int32) then (mX5_shapeOfHeapUse_142 N x) else if l0 = (186 : Int32) then (mX5_shapeOfHeapUse_142 N x) else if l0 = (187 : Int32) then ((mX5_pack N (2 : Int32) (0 : Int32) (3 : Int32) x).bind fun o14 => some (o14.1, o14.2)) else if l0 = (188 : Int32) then ((mX5_pack N (2 : Int32) (1 : Int32) (3 : Int32) x).bind fun o17 => some (o17.1, o17.2)) else if l0 = (189 : Int32) then ((mX5_pack N (1 : Int32) (1 : Int32) (3 : Int32) x).bind fun o20 => some (o20.1, o20.2)) else if l0 = (190 : Int32) then ((mX5_pack N (1 : Int32) (3 : Int32) (1 : Int32) x).bind fun o23 => some (o23.1, o23.2)) else if l0 = (191 : Int32) then ((mX5_pack N (1 : Int32) (3 : Int32) (0 : Int32) x).bind fun o26 => some (o26.1, o26.2)) else if l0 = (192 : Int32) then ((mX5_pack N (2 : Int32) (3 : Int32) (3 : Int32) x).bind fun o29 => some (o29.1, o29.2)) else if l0 = (193 : Int32) then ((mX5_pack N (2 : Int32) (3 : Int32) (1 : Int32) x).bind fun o32 => some (o32.1, o32.2)) else (mX5_shapeOfHeapUse_142 N x)
theorem kX5_shapeOfHeapUse_0 {d : Nat} {x0 : zv_X} {o : (zv_X × Int32)} (hd : 1 ≤ d) {N : Nat} (l0 : Int32) (x : zv_X) (h : mX5_shapeOfHeapUse_0 N l0 x = some o) : zv_V (fX5_shapeOfHeapUse d x0 o) 0 [(0, .int l0)] [] x := by
  unfold mX5_shapeOfHeapUse_0 at h
  refine zv_iload_n (n := 0) dX5_shapeOfHeapUse_0 rfl rfl ?_
  rcases zif h with ⟨c3, h⟩ | ⟨c3, h⟩
  · refine zr_tabIn (tgt := 72) (off := 71) c3 dX5_shapeOfHeapUse_1 (by decide) (by decide) (by decide) (by decide) ?_
    refine zv_iconst (v := 3) dX5_shapeOfHeapUse_72 (by decide) ?_
    refine zv_iconst (v := 3) dX5_shapeOfHeapUse_73 (by decide) ?_
    refine zv_iconst (v := 0) dX5_shapeOfHeapUse_74 (by decide) ?_
    refine zr_cSi (st := []) dX5_shapeOfHeapUse_75 mw_X5_pack wd_668 wd_669 [.int (3 : Int32), .int (3 : Int32), .int (0 : Int32)] rfl rfl (Nat.le_of_ble_eq_true rfl) (show d - 1 + 1 ≤ d by omega) h (fun o1 e2 => tX5_pack (d := d - 1) (by omega) e2) (fun o1 e2 h => ?_)
    cases h
    exact zv_iret dX5_shapeOfHeapUse_78 rfl
  rcases zif h with ⟨c6, h⟩ | ⟨c6, h⟩
  · refine zr_tabIn (tgt := 79) (off := 78) c6 dX5_shapeOfHeapUse_1 (by decide) (by decide) (by decide) (by decide) ?_
    refine zv_iconst (v := 3) dX5_shapeOfHeapUse_79 (by decide) ?_
    refine zv_iconst (v := 0) dX5_shapeOfHeapUse_80 (by decide) ?_
    refine zv_iconst (v := 0) dX5_shapeOfHeapUse_81 (by decide) ?_
    refine zr_cSi (st := []) dX5_shapeOfHeapUse_82 mw_X5_pack wd_668 wd_669 [.int (3 : Int32), .int (0 : Int32), .int (0 : Int32)] rfl rfl (Nat.le_of_ble_eq_true rfl) (show d - 1 + 1 ≤ d by omega) h (fun o4 e5 => tX5_pack (d := d - 1) (by omega) e5) (fun o4 e5 h => ?_)
    cases h
    exact zv_iret dX5_shapeOfHeapUse_85 rfl
  rcases zif h with ⟨c7, h⟩ | ⟨c7, h⟩
  · refine zr_tabIn (tgt := 142) (off := 141) c7 dX5_shapeOfHeapUse_1 (by decide) (by decide) (by decide) (by decide) ?_
    exact zv_fewer [] rfl (kX5_shapeOfHeapUse_142 hd _ h)
  rcases zif h with ⟨c8, h⟩ | ⟨c8, h⟩
  · refine zr_tabIn (tgt := 142) (off := 141) c8 dX5_shapeOfHeapUse_1 (by decide) (by decide) (by decide) (by decide) ?_
    exact zv_fewer [] rfl (kX5_shapeOfHeapUse_142 hd _ h)
  rcases zif h with ⟨c11, h⟩ | ⟨c11, h⟩
  · refine zr_tabIn (tgt := 86) (off := 85) c11 dX5_shapeOfHeapUse_1 (by decide) (by decide) (by decide) (by decide) ?_
    refine zv_iconst (v := 2) dX5_shapeOfHeapUse_86 (by decide) ?_
    refine zv_iconst (v := 0) dX5_shapeOfHeapUse_87 (by decide) ?_
    refine zv_iconst (v := 0) dX5_shapeOfHeapUse_88 (by decide) ?_
    refine zr_cSi (st := []) dX5_shapeOfHeapUse_89 mw_X5_pack wd_668 wd_669 [.int (2 : Int32), .int (0 : Int32), .int (0 : Int32)] rfl rfl (Nat.le_of_ble_eq_true rfl) (show d - 1 + 1 ≤ d by omega) h (fun o9 e10 => tX5_pack (d := d - 1) (by omega) e10) (fun o9 e10 h => ?_)
    cases h
    exact zv_iret dX5_shapeOfHeapUse_92 rfl
  rcases zif h with ⟨c12, h⟩ | ⟨c12, h⟩
  · refine zr_tabIn (tgt := 142) (off := 141) c12 dX5_shapeOfHeapUse_1 (by decide) (by decide) (by decide) (by decide) ?_
    exact zv_fewer [] rfl (kX5_shapeOfHeapUse_142 hd _ h)
  rcases zif h with ⟨c13, h⟩ | ⟨c13, h⟩
  · refine zr_tabIn (tgt := 142) (off := 141) c13 dX5_shapeOfHeapUse_1 (by decide) (by decide) (by decide) (by decide) ?_
    exact zv_fewer [] rfl (kX5_shapeOfHeapUse_142 hd _ h)
  rcases zif h with ⟨c16, h⟩ | ⟨c16, h⟩
  · refine zr_tabIn (tgt := 93) (off := 92) c16 dX5_shapeOfHeapUse_1 (by decide) (by decide) (by decide) (by decide) ?_
    refine zv_iconst (v := 2) dX5_shapeOfHeapUse_93 (by decide) ?_
    refine zv_iconst (v := 0) dX5_shapeOfHeapUse_94 (by decide) ?_
    refine zv_iconst (v := 3) dX5_shapeOfHeapUse_95 (by decide) ?_
    refine zr_cSi (st := []) dX5_shapeOfHeapUse_96 mw_X5_pack wd_668 wd_669 [.int (2 : Int32), .int (0 : Int32), .int (3 : Int32)] rfl rfl (Nat.le_of_ble_eq_true rfl) (show d - 1 + 1 ≤ d by omega) h (fun o14 e15 => tX5_pack (d := d - 1) (by omega) e15) (fun o14 e15 h => ?_)
    cases h
    exact zv_iret dX5_shapeOfHeapUse_99 rfl
  rcases zif h with ⟨c19, h⟩ | ⟨c19, h⟩
  · refine zr_tabIn (tgt := 100) (off := 99) c19 dX5_shapeOfHeapUse_1 (by decide) (by decide) (by decide) (by decide) ?_
    refine zv_iconst (v := 2) dX5_shapeOfHeapUse_100 (by decide) ?_
    refine zv_iconst (v := 1) dX5_shapeOfHeapUse_101 (by decide) ?_
    refine zv_iconst (v := 3) dX5_shapeOfHeapUse_102 (by decide) ?_
    refine zr_cSi (st := []) dX5_shapeOfHeapUse_103 mw_X5_pack wd_668 wd_669 [.int (2 : Int32), .int (1 : Int32), .int (3 : Int32)] rfl rfl (Nat.le_of_ble_eq_true rfl) (show d - 1 + 1 ≤ d by omega) h (fun o17 e18 => tX5_pack (d := d - 1) (by omega) e18) (fun o17 e18 h => ?_)
    cases h
    exact zv_iret dX5_shapeOfHeapUse_106 rfl
  rcases zif h with ⟨c22, h⟩ | ⟨c22, h⟩
  · refine zr_tabIn (tgt := 107) (off := 106) c22 dX5_shapeOfHeapUse_1 (by decide) (by decide) (by decide) (by decide) ?_
    refine zv_iconst (v := 1) dX5_shapeOfHeapUse_107 (by decide) ?_
    refine zv_iconst (v := 1) dX5_shapeOfHeapUse_108 (by decide) ?_
    refine zv_iconst (v := 3) dX5_shapeOfHeapUse_109 (by decide) ?_
    refine zr_cSi (st := []) dX5_shapeOfHeapUse_110 mw_X5_pack wd_668 wd_669 [.int (1 : Int32), .int (1 : Int32), .int (3 : Int32)] rfl rfl (Nat.le_of_ble_eq_true rfl) (show d - 1 + 1 ≤ d by omega) h (fun o20 e21 => tX5_pack (d := d - 1) (by omega) e21) (fun o20 e21 h => ?_)
    cases h
    exact zv_iret dX5_shapeOfHeapUse_113 rfl
  rcases zif h with ⟨c25, h⟩ | ⟨c25, h⟩
  · refine zr_tabIn (tgt := 114) (off := 113) c25 dX5_shapeOfHeapUse_1 (by decide) (by decide) (by decide) (by decide) ?_
    refine zv_iconst (v := 1) dX5_shapeOfHeapUse_114 (by decide) ?_
    refine zv_iconst (v := 3) dX5_shapeOfHeapUse_115 (by decide) ?_
    refine zv_iconst (v := 1) dX5_shapeOfHeapUse_116 (by decide) ?_
    refine zr_cSi (st := []) dX5_shapeOfHeapUse_117 mw_X5_pack wd_668 wd_669 [.int (1 : Int32), .int (3 : Int32), .int (1 : Int32)] rfl rfl (Nat.le_of_ble_eq_true rfl) (show d - 1 + 1 ≤ d by omega) h (fun o23 e24 => tX5_pack (d := d - 1) (by omega) e24) (fun o23 e24 h => ?_)
    cases h
    exact zv_iret dX5_shapeOfHeapUse_120 rfl
  rcases zif h with ⟨c28, h⟩ | ⟨c28, h⟩
  · refine zr_tabIn (tgt := 121) (off := 120) c28 dX5_shapeOfHeapUse_1 (by decide) (by decide) (by decide) (by decide) ?_
    refine zv_iconst (v := 1) dX5_shapeOfHeapUse_121 (by decide) ?_
    refine zv_iconst (v := 3) dX5_shapeOfHeapUse_122 (by decide) ?_
    refine zv_iconst (v := 0) dX5_shapeOfHeapUse_123 (by decide) ?_
    refine zr_cSi (st := []) dX5_shapeOfHeapUse_124 mw_X5_pack wd_668 wd_669 [.int (1 : Int32), .int (3 : Int32), .int (0 : Int32)] rfl rfl (Nat.le_of_ble_eq_true rfl) (show d - 1 + 1 ≤ d by omega) h (fun o26 e27 => tX5_pack (d := d - 1) (by omega) e27) (fun o26 e27 h => ?_)
    cases h
    exact zv_iret dX5_shapeOfHeapUse_127 rfl
  rcases zif h with ⟨c31, h⟩ | ⟨c31, h⟩
  · refine zr_tabIn (tgt := 128) (off := 127) c31 dX5_shapeOfHeapUse_1 (by decide) (by decide) (by decide) (by decide) ?_
    refine zv_iconst (v := 2) dX5_shapeOfHeapUse_128 (by decide) ?_
    refine zv_iconst (v := 3) dX5_shapeOfHeapUse_129 (by decide) ?_
    refine zv_iconst (v := 3) dX5_shapeOfHeapUse_130 (by decide) ?_
    refine zr_cSi (st := []) dX5_shapeOfHeapUse_131 mw_X5_pack wd_668 wd_669 [.int (2 : Int32), .int (3 : Int32), .int (3 : Int32)] rfl rfl (Nat.le_of_ble_eq_true rfl) (show d - 1 + 1 ≤ d by omega) h (fun o29 e30 => tX5_pack (d := d - 1) (by omega) e30) (fun o29 e30 h => ?_)
    cases h
    exact zv_iret dX5_shapeOfHeapUse_134 rfl
  rcases zif h with ⟨c34, h⟩ | ⟨c34, h⟩
  · refine zr_tabIn (tgt := 135) (off := 134) c34 dX5_shapeOfHeapUse_1 (by decide) (by decide) (by decide) (by decide) ?_
    refine zv_iconst (v := 2) dX5_shapeOfHeapUse_135 (by decide) ?_
    refine zv_iconst (v := 3) dX5_shapeOfHeapUse_136 (by decide) ?_
    refine zv_iconst (v := 1) dX5_shapeOfHeapUse_137 (by decide) ?_
    refine zr_cSi (st := []) dX5_shapeOfHeapUse_138 mw_X5_pack wd_668 wd_669 [.int (2 : Int32), .int (3 : Int32), .int (1 : Int32)] rfl rfl (Nat.le_of_ble_eq_true rfl) (show d - 1 + 1 ≤ d by omega) h (fun o32 e33 => tX5_pack (d := d - 1) (by omega) e33) (fun o32 e33 h => ?_)
    cases h
    exact zv_iret dX5_shapeOfHeapUse_141 rfl
  refine zv_tableOut (tgt := 142) dX5_shapeOfHeapUse_1 (by have := lv_neT c3 (show (180 : Int32).toInt = 180 by decide); have := lv_neT c6 (show (181 : Int32).toInt = 181 by decide); have := lv_neT c7 (show (182 : Int32).toInt = 182 by decide); have := lv_neT c8 (show (183 : Int32).toInt = 183 by decide); have := lv_neT c11 (show (184 : Int32).toInt = 184 by decide); have := lv_neT c12 (show (185 : Int32).toInt = 185 by decide); have := lv_neT c13 (show (186 : Int32).toInt = 186 by decide); have := lv_neT c16 (show (187 : Int32).toInt = 187 by decide); have := lv_neT c19 (show (188 : Int32).toInt = 188 by decide); have := lv_neT c22 (show (189 : Int32).toInt = 189 by decide); have := lv_neT c25 (show (190 : Int32).toInt = 190 by decide); have := lv_neT c28 (show (191 : Int32).toInt = 191 by decide); have := lv_neT c31 (show (192 : Int32).toInt = 192 by decide); have := lv_neT c34 (show (193 : Int32).toInt = 193 by decide); omega) (by decide) ?_
  exact zv_fewer [] rfl (kX5_shapeOfHeapUse_142 hd _ h)
def mX5_shapeOfHeapUse (N : Nat) (a0 : Int32) (x : zv_X) : Option (zv_X × Int32) := mX5_shapeOfHeapUse_0 N a0 x
theorem tX5_shapeOfHeapUse {d : Nat} (hd : 1 ≤ d) {N : Nat} {x : zv_X} {a0 : Int32} {o : (zv_X × Int32)} (h : mX5_shapeOfHeapUse N a0 x = some o) : zv_T d yX5_shapeOfHeapUse cX5_shapeOfHeapUse 1 ((some .int)) [.int a0] x o.1 (some (.int o.2)) := by
  unfold mX5_shapeOfHeapUse at h
  exact zv_enter (by decide) (Nat.le_of_ble_eq_true rfl) (kX5_shapeOfHeapUse_0 hd _ _ h)

abbrev fX5_shapeOfMove (d : Nat) (x0 : zv_X) (o : (zv_X × Int32)) : zv_G := (d, RX5, cX5_shapeOfMove, 1, (some .int), ("shapeOfMove", []), x0, o.1, zv_fin x0 o.1 (some (.int o.2)))
def mX5_shapeOfMove_498 (N : Nat)  (x : zv_X) : Option (zv_X × Int32) := some (x, (0 : Int32))
theorem kX5_shapeOfMove_498 {d : Nat} {x0 : zv_X} {o : (zv_X × Int32)} (hd : 1 ≤ d) {N : Nat}  (x : zv_X) (h : mX5_shapeOfMove_498 N  x = some o) : zv_V (fX5_shapeOfMove d x0 o) 498 [] [] x := by
  unfold mX5_shapeOfMove_498 at h
  refine zv_iconst (v := 0) dX5_shapeOfMove_498 (by decide) ?_
  cases h
  exact zv_iret dX5_shapeOfMove_499 rfl
def mX5_shapeOfMove_394 (N : Nat)  (x : zv_X) : Option (zv_X × Int32) := (mX5_pack N (1 : Int32) (0 : Int32) (2 : Int32) x).bind fun o1 => some (o1.1, o1.2)
theorem kX5_shapeOfMove_394 {d : Nat} {x0 : zv_X} {o : (zv_X × Int32)} (hd : 1 ≤ d) {N : Nat}  (x : zv_X) (h : mX5_shapeOfMove_394 N  x = some o) : zv_V (fX5_shapeOfMove d x0 o) 394 [] [] x := by
  unfold mX5_shapeOfMove_394 at h
  refine zv_iconst (v := 1) dX5_shapeOfMove_394 (by decide) ?_
  refine zv_iconst (v := 0) dX5_shapeOfMove_395 (by decide) ?_
  refine zv_iconst (v := 2) dX5_shapeOfMove_396 (by decide) ?_
  refine zr_cSi (st := []) dX5_shapeOfMove_397 mw_X5_pack wd_668 wd_669 [.int (1 : Int32), .int (0 : Int32), .int (2 : Int32)] rfl rfl (Nat.le_of_ble_eq_true rfl) (show d - 1 + 1 ≤ d by omega) h (fun o1 e2 => tX5_pack (d := d - 1) (by omega) e2) (fun o1 e2 h => ?_)
  cases h
  exact zv_iret dX5_shapeOfMove_400 rfl
def mX5_shapeOfMove_401 (N : Nat)  (x : zv_X) : Option (zv_X × Int32) := (mX5_pack N (2 : Int32) (0 : Int32) (1 : Int32) x).bind fun o1 => some (o1.1, o1.2)
theorem kX5_shapeOfMove_401 {d : Nat} {x0 : zv_X} {o : (zv_X × Int32)} (hd : 1 ≤ d) {N : Nat}  (x : zv_X) (h : mX5_shapeOfMove_401 N  x = some o) : zv_V (fX5_shapeOfMove d x0 o) 401 [] [] x := by
  unfold mX5_shapeOfMove_401 at h
  refine zv_iconst (v := 2) dX5_shapeOfMove_401 (by decide) ?_
  refine zv_iconst (v := 0) dX5_shapeOfMove_402 (by decide) ?_
  refine zv_iconst (v := 1) dX5_shapeOfMove_403 (by decide) ?_
  refine zr_cSi (st := []) dX5_shapeOfMove_404 mw_X5_pack wd_668 wd_669 [.int (2 : Int32), .int (0 : Int32), .int (1 : Int32)] rfl rfl (Nat.le_of_ble_eq_true rfl) (show d - 1 + 1 ≤ d by omega) h (fun o1 e2 => tX5_pack (d := d - 1) (by omega) e2) (fun o1 e2 h => ?_)
  cases h
  exact zv_iret dX5_shapeOfMove_407 rfl
def mX5_shapeOfMove_450 (N : Nat)  (x : zv_X) : Option (zv_X × Int32) := (mX5_pack N (1 : Int32) (13 : Int32) (1 : Int32) x).bind fun o1 => some (o1.1, o1.2)
theorem kX5_shapeOfMove_450 {d : Nat} {x0 : zv_X} {o : (zv_X × Int32)} (hd : 1 ≤ d) {N : Nat}  (x : zv_X) (h : mX5_shapeOfMove_450 N  x = some o) : zv_V (fX5_shapeOfMove d x0 o) 450 [] [] x := by
  unfold mX5_shapeOfMove_450 at h
  refine zv_iconst (v := 1) dX5_shapeOfMove_450 (by decide) ?_
  refine zv_bipush (v := 13) dX5_shapeOfMove_451 (by decide) ?_
  refine zv_iconst (v := 1) dX5_shapeOfMove_453 (by decide) ?_
  refine zr_cSi (st := []) dX5_shapeOfMove_454 mw_X5_pack wd_668 wd_669 [.int (1 : Int32), .int (13 : Int32), .int (1 : Int32)] rfl rfl (Nat.le_of_ble_eq_true rfl) (show d - 1 + 1 ≤ d by omega) h (fun o1 e2 => tX5_pack (d := d - 1) (by omega) e2) (fun o1 e2 h => ?_)
  cases h
  exact zv_iret dX5_shapeOfMove_457 rfl
def mX5_shapeOfMove_474 (N : Nat)  (x : zv_X) : Option (zv_X × Int32) := (mX5_pack N (1 : Int32) (53 : Int32) (0 : Int32) x).bind fun o1 => some (o1.1, o1.2)
theorem kX5_shapeOfMove_474 {d : Nat} {x0 : zv_X} {o : (zv_X × Int32)} (hd : 1 ≤ d) {N : Nat}  (x : zv_X) (h : mX5_shapeOfMove_474 N  x = some o) : zv_V (fX5_shapeOfMove d x0 o) 474 [] [] x := by
  unfold mX5_shapeOfMove_474 at h
  refine zv_iconst (v := 1) dX5_shapeOfMove_474 (by decide) ?_
  refine zv_bipush (v := 53) dX5_shapeOfMove_475 (by decide) ?_
  refine zv_iconst (v := 0) dX5_shapeOfMove_477 (by decide) ?_
  refine zr_cSi (st := []) dX5_shapeOfMove_478 mw_X5_pack wd_668 wd_669 [.int (1 : Int32), .int (53 : Int32), .int (0 : Int32)] rfl rfl (Nat.le_of_ble_eq_true rfl) (show d - 1 + 1 ≤ d by omega) h (fun o1 e2 => tX5_pack (d := d - 1) (by omega) e2) (fun o1 e2 h => ?_)
  cases h
  exact zv_iret dX5_shapeOfMove_481 rfl
def mX5_shapeOfMove_18 (N : Nat) (l0 : Int32) (x : zv_X) : Option (zv_X × Int32) := if l0 = (0 : Int32) then ((mX5_pack N (1 : Int32) (0 : Int32) (0 : Int32) x).bind fun o1 => some (o1.1, o1.2)) else if l0 = (1 : Int32) then ((mX5_pack N (1 : Int32) (0 : Int32) (3 : Int32) x).bind fun o4 => some (o4.1, o4.2)) else if l0 = (2 : Int32) then (mX5_shapeOfMove_498 N x) else if l0 = (3 : Int32) then (mX5_shapeOfMove_498 N x) else if l0 = (4 : Int32) then (mX5_shapeOfMove_498 N x) else if l0 = (5 : Int32) then (mX5_shapeOfMove_498 N x) else if l0 = (6 : Int32) then (mX5_shapeOfMove_498 N x) else if l0 = (7 : Int32) then (mX5_shapeOfMove_498 N x) else if l0 = (8 : Int32) then (mX5_shapeOfMove_498 N x) else if l0 = (9 : Int32) then (mX5_shapeOfMove_394 N x) else if l0 = (10 : Int32) then (mX5_shapeOfMove_394 N x) else if l0 = (11 : Int32) then (mX5_shapeOfMove_498 N x) else if l0 = (12 : Int32) then (mX5_shapeOfMove_498 N x) else if l0 = (13 : Int32) then (mX5_shapeOfMove_498 N x) else if l0 = (14 : Int32) then (mX5_shapeOfMove_498 N x) else if l0 = (15 : Int32) then (mX5_shapeOfMove_498 N x) else if l0 = (16 : Int32) then (mX5_shapeOfMove_401 N x) else if l0 = (17 : Int32) then ((mX5_pack N (3 : Int32) (0 : Int32) (1 : Int32) x).bind fun o22 => some (o22.1, o22.2)) else if l0 = (18 : Int32) then (mX5_shapeOfMove_498 N x) else if l0 = (19 : Int32) then (mX5_shapeOfMove_498 N x) else if l0 = (20 : Int32) then (mX5_shapeOfMove_498 N x) else if l0 = (21 : Int32) then (mX5_shapeOfMove_401 N x) else if l0 = (22 : Int32) then ((mX5_pack N (2 : Int32) (0 : Int32) (2 : Int32) x).bind fun o29 => some (o29.1, o29.2)) else if l0 = (23 : Int32) then (mX5_shapeOfMove_498 N x) else if l0 = (24 : Int32) then (mX5_shapeOfMove_498 N x) else if l0 = (25 : Int32) then ((mX5_pack N (2 : Int32) (0 : Int32) (3 : Int32) x).bind fun o34 => some (o34.1, o34.2)) else if l0 = (26 : Int32) then (mX5_shapeOfMove_498 N x) else if l0 = (27 : Int32) then (mX5_shapeOfMove_498 N x) else if l0 = (28 : Int32) then (mX5_shapeOfMove_498 N x) else if l0 = (29 : Int32) then (mX5_shapeOfMove_498 N x) else if l0 = (30 : Int32) then (mX5_shapeOfMove_498 N x) else if l0 = (31 : Int32) then (mX5_shapeOfMove_498 N x) else if l0 = (32 : Int32) then (mX5_shapeOfMove_498 N x) else if l0 = (33 : Int32) then (mX5_shapeOfMove_498 N x) else if l0 = (34 : Int32) then (mX5_shapeOfMove_498 N x) else if l0 = (35 : Int32) then (mX5_shapeOfMove_498 N x) else if l0 = (36 : Int32) then (mX5_shapeOfMove_498 N x) else if l0 = (37 : Int32) then (mX5_shapeOfMove_498 N x) else if l0 = (38 : Int32) then (mX5_shapeOfMove_498 N x) else if l0 = (39 : Int32) then (mX5_shapeOfMove_498 N x) else if l0 = (40 : Int32) then (mX5_shapeOfMove_498 N x) else if l0 = (41 : Int32) then (mX5_shapeOfMove_498 N x) else if l0 = (42 : Int32) then (mX5_shapeOfMove_498 N x) else if l0 = (43 : Int32) then (mX5_shapeOfMove_498 N x) else if l0 = (44 : Int32) then (mX5_shapeOfMove_498 N x) else if l0 = (45 : Int32) then (mX5_shapeOfMove_498 N x) else if l0 = (46 : Int32) then (mX5_shapeOfMove_450 N x) else if l0 = (47 : Int32) then ((mX5_pack N (1 : Int32) (13 : Int32) (2 : Int32) x).bind fun o58 => some (o58.1, o58.2)) else if l0 = (48 : Int32) then (mX5_shapeOfMove_498 N x) else if l0 = (49 : Int32) then (mX5_shapeOfMove_498 N x) else if l0 = (50 : Int32) then ((mX5_pack N (1 : Int32) (13 : Int32) (3 : Int32) x).bind fun o63 => some (o63.1, o63.2)) else if l0 = (51 : Int32) then (mX5_shapeOfMove_450 N x) else if l0 = (52 : Int32) then (mX5_shapeOfMove_450 N x) else if l0 = (53 : Int32) then (mX5_shapeOfMove_450 N x) else if l0 = (54 : Int32) then ((mX5_pack N (2 : Int32) (1 : Int32) (0 : Int32) x).bind fun o69 => some (o69.1, o69.2)) else if l0 = (55 : Int32) then ((mX5_pack N (2 : Int32) (2 : Int32) (0 : Int32) x).bind fun o72 => some (o72.1, o72.2)) else if l0 = (56 : Int32) then (mX5_shapeOfMove_498 N x) else if l0 = (57 : Int32) then (mX5_shapeOfMove_498 N x) else if l0 = (58 : Int32) then ((mX5_pack N (2 : Int32) (3 : Int32) (0 : Int32) x).bind fun o77 => some (o77.1, o77.2)) else if l0 = (59 : Int32) then (mX5_shapeOfMove_498 N x) else if l0 = (60 : Int32) then (mX5_shapeOfMove_498 N x) else if l0 = (61 : Int32) then (mX5_shapeOfMove_498 N x) else if l0 = (62 : Int32) then (mX5_shapeOfMove_498 N x) else if l0 = (63 : Int32) then (mX5_shapeOfMove_498 N x) else if l0 = (64 : Int32) then (mX5_shapeOfMove_498 N x) else if l0 = (65 : Int32) then (mX5_shapeOfMove_498 N x) else if l0 = (66 : Int32) then (mX5_shapeOfMove_498 N x) else if l0 = (67 : Int32) then (mX5_shapeOfMove_498 N x) else if l0 = (68 : Int32) then (mX5_shapeOfMove_498 N x) else if l0 = (69 : Int32) then (mX5_shapeOfMove_498 N x) else if l0 = (70 : Int32) then (mX5_shapeOfMove_498 N x) else if l0 = (71 : Int32) then (mX5_shapeOfMove_498 N x) else if l0 = (72 : Int32) then (mX5_shapeOfMove_498 N x) else if l0 = (73 : Int32) then (mX5_shapeOfMove_498 N x) else if l0 = (74 : Int32) then (mX5_shapeOfMove_498 N x) else if l0 = (75 : Int32) then (mX5_shapeOfMove_498 N x) else if l0 = (76 : Int32) then (mX5_shapeOfMove_498 N x) else if l0 = (77 : Int32) then (mX5_shapeOfMove_498 N x) else if l0 = (78 : Int32) then (mX5_shapeOfMove_498 N x) else if l0 = (79 : Int32) then (mX5_shapeOfMove_474 N x) else if l0 = (80 : Int32) then ((mX5_pack N (1 : Int32) (54 : Int32) (0 : Int32) x).bind fun o101 => some (o101.1, o101.2)) else if l0 = (81 : Int32) then (mX5_shapeOfMove_498 N x) else if l0 = (82 : Int32) then (mX5_shapeOfMove_498 N x) else if l0 = (83 : Int32) then ((mX5_pack N (1 : Int32) (55 : Int32) (0 : Int32) x).bind fun o106 => some (o106.1, o106.2)) else if l0 = (84 : Int32) then (mX5_shapeOfMove_474 N x) else if l0 = (85 : Int32) then (mX5_shapeOfMove_474 N x) else if l0 = (86 : Int32) then (mX5_shapeOfMove_474 N x) else (mX5_shapeOfMove_498 N x)
theorem kX5_shapeOfMove_18 {d : Nat} {x0 : zv_X} {o : (zv_X × Int32)} (hd : 1 ≤ d) {N : Nat} (l0 : Int32) (x : zv_X) (h : mX5_shapeOfMove_18 N l0 x = some o) : zv_V (fX5_shapeOfMove d x0 o) 18 [(0, .int l0)] [] x := by
  unfold mX5_shapeOfMove_18 at h
  refine zv_iload_n (n := 0) dX5_shapeOfMove_18 rfl rfl ?_
  rcases zif h with ⟨c3, h⟩ | ⟨c3, h⟩
  · refine zr_tabIn (tgt := 380) (off := 361) c3 dX5_shapeOfMove_19 (by decide) (by decide) (by decide) (by decide) ?_
    refine zv_iconst (v := 1) dX5_shapeOfMove_380 (by decide) ?_
    refine zv_iconst (v := 0) dX5_shapeOfMove_381 (by decide) ?_
    refine zv_iconst (v := 0) dX5_shapeOfMove_382 (by decide) ?_
    refine zr_cSi (st := []) dX5_shapeOfMove_383 mw_X5_pack wd_668 wd_669 [.int (1 : Int32), .int (0 : Int32), .int (0 : Int32)] rfl rfl (Nat.le_of_ble_eq_true rfl) (show d - 1 + 1 ≤ d by omega) h (fun o1 e2 => tX5_pack (d := d - 1) (by omega) e2) (fun o1 e2 h => ?_)
    cases h
    exact zv_iret dX5_shapeOfMove_386 rfl
  rcases zif h with ⟨c6, h⟩ | ⟨c6, h⟩
  · refine zr_tabIn (tgt := 387) (off := 368) c6 dX5_shapeOfMove_19 (by decide) (by decide) (by decide) (by decide) ?_
    refine zv_iconst (v := 1) dX5_shapeOfMove_387 (by decide) ?_
    refine zv_iconst (v := 0) dX5_shapeOfMove_388 (by decide) ?_
    refine zv_iconst (v := 3) dX5_shapeOfMove_389 (by decide) ?_
    refine zr_cSi (st := []) dX5_shapeOfMove_390 mw_X5_pack wd_668 wd_669 [.int (1 : Int32), .int (0 : Int32), .int (3 : Int32)] rfl rfl (Nat.le_of_ble_eq_true rfl) (show d - 1 + 1 ≤ d by omega) h (fun o4 e5 => tX5_pack (d := d - 1) (by omega) e5) (fun o4 e5 h => ?_)
    cases h
    exact zv_iret dX5_shapeOfMove_393 rfl
  rcases zif h with ⟨c7, h⟩ | ⟨c7, h⟩
  · refine zr_tabIn (tgt := 498) (off := 479) c7 dX5_shapeOfMove_19 (by decide) (by decide) (by decide) (by decide) ?_
    exact zv_fewer [] rfl (kX5_shapeOfMove_498 hd _ h)
  rcases zif h with ⟨c8, h⟩ | ⟨c8, h⟩
  · refine zr_tabIn (tgt := 498) (off := 479) c8 dX5_shapeOfMove_19 (by decide) (by decide) (by decide) (by decide) ?_
    exact zv_fewer [] rfl (kX5_shapeOfMove_498 hd _ h)
  rcases zif h with ⟨c9, h⟩ | ⟨c9, h⟩
  · refine zr_tabIn (tgt := 498) (off := 479) c9 dX5_shapeOfMove_19 (by decide) (by decide) (by decide) (by decide) ?_
    exact zv_fewer [] rfl (kX5_shapeOfMove_498 hd _ h)
  rcases zif h with ⟨c10, h⟩ | ⟨c10, h⟩
  · refine zr_tabIn (tgt := 498) (off := 479) c10 dX5_shapeOfMove_19 (by decide) (by decide) (by decide) (by decide) ?_
    exact zv_fewer [] rfl (kX5_shapeOfMove_498 hd _ h)
  rcases zif h with ⟨c11, h⟩ | ⟨c11, h⟩
  · refine zr_tabIn (tgt := 498) (off := 479) c11 dX5_shapeOfMove_19 (by decide) (by decide) (by decide) (by decide) ?_
    exact zv_fewer [] rfl (kX5_shapeOfMove_498 hd _ h)
  rcases zif h with ⟨c12, h⟩ | ⟨c12, h⟩
  · refine zr_tabIn (tgt := 498) (off := 479) c12 dX5_shapeOfMove_19 (by decide) (by decide) (by decide) (by decide) ?_
    exact zv_fewer [] rfl (kX5_shapeOfMove_498 hd _ h)
  rcases zif h with ⟨c13, h⟩ | ⟨c13, h⟩
  · refine zr_tabIn (tgt := 498) (off := 479) c13 dX5_shapeOfMove_19 (by decide) (by decide) (by decide) (by decide) ?_
    exact zv_fewer [] rfl (kX5_shapeOfMove_498 hd _ h)
  rcases zif h with ⟨c14, h⟩ | ⟨c14, h⟩
  · refine zr_tabIn (tgt := 394) (off := 375) c14 dX5_shapeOfMove_19 (by decide) (by decide) (by decide) (by decide) ?_
    exact zv_fewer [] rfl (kX5_shapeOfMove_394 hd _ h)
  rcases zif h with ⟨c15, h⟩ | ⟨c15, h⟩
  · refine zr_tabIn (tgt := 394) (off := 375) c15 dX5_shapeOfMove_19 (by decide) (by decide) (by decide) (by decide) ?_
    exact zv_fewer [] rfl (kX5_shapeOfMove_394 hd _ h)
  rcases zif h with ⟨c16, h⟩ | ⟨c16, h⟩
  · refine zr_tabIn (tgt := 498) (off := 479) c16 dX5_shapeOfMove_19 (by decide) (by decide) (by decide) (by decide) ?_
    exact zv_fewer [] rfl (kX5_shapeOfMove_498 hd _ h)
  rcases zif h with ⟨c17, h⟩ | ⟨c17, h⟩
  · refine zr_tabIn (tgt := 498) (off := 479) c17 dX5_shapeOfMove_19 (by decide) (by decide) (by decide) (by decide) ?_
    exact zv_fewer [] rfl (kX5_shapeOfMove_498 hd _ h)
  rcases zif h with ⟨c18, h⟩ | ⟨c18, h⟩
  · refine zr_tabIn (tgt := 498) (off := 479) c18 dX5_shapeOfMove_19 (by decide) (by decide) (by decide) (by decide) ?_
    exact zv_fewer [] rfl (kX5_shapeOfMove_498 hd _ h)
  rcases zif h with ⟨c19, h⟩ | ⟨c19, h⟩
  · refine zr_tabIn (tgt := 498) (off := 479) c19 dX5_shapeOfMove_19 (by decide) (by decide) (by decide) (by decide) ?_
    exact zv_fewer [] rfl (kX5_shapeOfMove_498 hd _ h)
  rcases zif h with ⟨c20, h⟩ | ⟨c20, h⟩
  · refine zr_tabIn (tgt := 498) (off := 479) c20 dX5_shapeOfMove_19 (by decide) (by decide) (by decide) (by decide) ?_
    exact zv_fewer [] rfl (kX5_shapeOfMove_498 hd _ h)
  rcases zif h with ⟨c21, h⟩ | ⟨c21, h⟩
  · refine zr_tabIn (tgt := 401) (off := 382) c21 dX5_shapeOfMove_19 (by decide) (by decide) (by decide) (by decide) ?_
    exact zv_fewer [] rfl (kX5_shapeOfMove_401 hd _ h)
  rcases zif h with ⟨c24, h⟩ | ⟨c24, h⟩
  · refine zr_tabIn (tgt := 408) (off := 389) c24 dX5_shapeOfMove_19 (by decide) (by decide) (by decide) (by decide) ?_
    refine zv_iconst (v := 3) dX5_shapeOfMove_408 (by decide) ?_
    refine zv_iconst (v := 0) dX5_shapeOfMove_409 (by decide) ?_
    refine zv_iconst (v := 1) dX5_shapeOfMove_410 (by decide) ?_
    refine zr_cSi (st := []) dX5_shapeOfMove_411 mw_X5_pack wd_668 wd_669 [.int (3 : Int32), .int (0 : Int32), .int (1 : Int32)] rfl rfl (Nat.le_of_ble_eq_true rfl) (show d - 1 + 1 ≤ d by omega) h (fun o22 e23 => tX5_pack (d := d - 1) (by omega) e23) (fun o22 e23 h => ?_)
    cases h
    exact zv_iret dX5_shapeOfMove_414 rfl
  rcases zif h with ⟨c25, h⟩ | ⟨c25, h⟩
  · refine zr_tabIn (tgt := 498) (off := 479) c25 dX5_shapeOfMove_19 (by decide) (by decide) (by decide) (by decide) ?_
    exact zv_fewer [] rfl (kX5_shapeOfMove_498 hd _ h)
  rcases zif h with ⟨c26, h⟩ | ⟨c26, h⟩
  · refine zr_tabIn (tgt := 498) (off := 479) c26 dX5_shapeOfMove_19 (by decide) (by decide) (by decide) (by decide) ?_
    exact zv_fewer [] rfl (kX5_shapeOfMove_498 hd _ h)
  rcases zif h with ⟨c27, h⟩ | ⟨c27, h⟩
  · refine zr_tabIn (tgt := 498) (off := 479) c27 dX5_shapeOfMove_19 (by decide) (by decide) (by decide) (by decide) ?_
    exact zv_fewer [] rfl (kX5_shapeOfMove_498 hd _ h)
  rcases zif h with ⟨c28, h⟩ | ⟨c28, h⟩
  · refine zr_tabIn (tgt := 401) (off := 382) c28 dX5_shapeOfMove_19 (by decide) (by decide) (by decide) (by decide) ?_
    exact zv_fewer [] rfl (kX5_shapeOfMove_401 hd _ h)
  rcases zif h with ⟨c31, h⟩ | ⟨c31, h⟩
  · refine zr_tabIn (tgt := 415) (off := 396) c31 dX5_shapeOfMove_19 (by decide) (by decide) (by decide) (by decide) ?_
    refine zv_iconst (v := 2) dX5_shapeOfMove_415 (by decide) ?_
    refine zv_iconst (v := 0) dX5_shapeOfMove_416 (by decide) ?_
    refine zv_iconst (v := 2) dX5_shapeOfMove_417 (by decide) ?_
    refine zr_cSi (st := []) dX5_shapeOfMove_418 mw_X5_pack wd_668 wd_669 [.int (2 : Int32), .int (0 : Int32), .int (2 : Int32)] rfl rfl (Nat.le_of_ble_eq_true rfl) (show d - 1 + 1 ≤ d by omega) h (fun o29 e30 => tX5_pack (d := d - 1) (by omega) e30) (fun o29 e30 h => ?_)
    cases h
    exact zv_iret dX5_shapeOfMove_421 rfl
  rcases zif h with ⟨c32, h⟩ | ⟨c32, h⟩
  · refine zr_tabIn (tgt := 498) (off := 479) c32 dX5_shapeOfMove_19 (by decide) (by decide) (by decide) (by decide) ?_
    exact zv_fewer [] rfl (kX5_shapeOfMove_498 hd _ h)
  rcases zif h with ⟨c33, h⟩ | ⟨c33, h⟩
  · refine zr_tabIn (tgt := 498) (off := 479) c33 dX5_shapeOfMove_19 (by decide) (by decide) (by decide) (by decide) ?_
    exact zv_fewer [] rfl (kX5_shapeOfMove_498 hd _ h)
  rcases zif h with ⟨c36, h⟩ | ⟨c36, h⟩
  · refine zr_tabIn (tgt := 422) (off := 403) c36 dX5_shapeOfMove_19 (by decide) (by decide) (by decide) (by decide) ?_
    refine zv_iconst (v := 2) dX5_shapeOfMove_422 (by decide) ?_
    refine zv_iconst (v := 0) dX5_shapeOfMove_423 (by decide) ?_
    refine zv_iconst (v := 3) dX5_shapeOfMove_424 (by decide) ?_
    refine zr_cSi (st := []) dX5_shapeOfMove_425 mw_X5_pack wd_668 wd_669 [.int (2 : Int32), .int (0 : Int32), .int (3 : Int32)] rfl rfl (Nat.le_of_ble_eq_true rfl) (show d - 1 + 1 ≤ d by omega) h (fun o34 e35 => tX5_pack (d := d - 1) (by omega) e35) (fun o34 e35 h => ?_)
    cases h
    exact zv_iret dX5_shapeOfMove_428 rfl
  rcases zif h with ⟨c37, h⟩ | ⟨c37, h⟩
  · refine zr_tabIn (tgt := 498) (off := 479) c37 dX5_shapeOfMove_19 (by decide) (by decide) (by decide) (by decide) ?_
    exact zv_fewer [] rfl (kX5_shapeOfMove_498 hd _ h)
  rcases zif h with ⟨c38, h⟩ | ⟨c38, h⟩
  · refine zr_tabIn (tgt := 498) (off := 479) c38 dX5_shapeOfMove_19 (by decide) (by decide) (by decide) (by decide) ?_
    exact zv_fewer [] rfl (kX5_shapeOfMove_498 hd _ h)
  rcases zif h with ⟨c39, h⟩ | ⟨c39, h⟩
  · refine zr_tabIn (tgt := 498) (off := 479) c39 dX5_shapeOfMove_19 (by decide) (by decide) (by decide) (by decide) ?_
    exact zv_fewer [] rfl (kX5_shapeOfMove_498 hd _ h)
  rcases zif h with ⟨c40, h⟩ | ⟨c40, h⟩
  · refine zr_tabIn (tgt := 498) (off := 479) c40 dX5_shapeOfMove_19 (by decide) (by decide) (by decide) (by decide) ?_
    exact zv_fewer [] rfl (kX5_shapeOfMove_498 hd _ h)
  rcases zif h with ⟨c41, h⟩ | ⟨c41, h⟩
  · refine zr_tabIn (tgt := 498) (off := 479) c41 dX5_shapeOfMove_19 (by decide) (by decide) (by decide) (by decide) ?_
    exact zv_fewer [] rfl (kX5_shapeOfMove_498 hd _ h)
  rcases zif h with ⟨c42, h⟩ | ⟨c42, h⟩
  · refine zr_tabIn (tgt := 498) (off := 479) c42 dX5_shapeOfMove_19 (by decide) (by decide) (by decide) (by decide) ?_
    exact zv_fewer [] rfl (kX5_shapeOfMove_498 hd _ h)
  rcases zif h with ⟨c43, h⟩ | ⟨c43, h⟩
  · refine zr_tabIn (tgt := 498) (off := 479) c43 dX5_shapeOfMove_19 (by decide) (by decide) (by decide) (by decide) ?_
    exact zv_fewer [] rfl (kX5_shapeOfMove_498 hd _ h)
  rcases zif h with ⟨c44, h⟩ | ⟨c44, h⟩
  · refine zr_tabIn (tgt := 498) (off := 479) c44 dX5_shapeOfMove_19 (by decide) (by decide) (by decide) (by decide) ?_
    exact zv_fewer [] rfl (kX5_shapeOfMove_498 hd _ h)
  rcases zif h with ⟨c45, h⟩ | ⟨c45, h⟩
  · refine zr_tabIn (tgt := 498) (off := 479) c45 dX5_shapeOfMove_19 (by decide) (by decide) (by decide) (by decide) ?_
    exact zv_fewer [] rfl (kX5_shapeOfMove_498 hd _ h)
  rcases zif h with ⟨c46, h⟩ | ⟨c46, h⟩
  · refine zr_tabIn (tgt := 498) (off := 479) c46 dX5_shapeOfMove_19 (by decide) (by decide) (by decide) (by decide) ?_
    exact zv_fewer [] rfl (kX5_shapeOfMove_498 hd _ h)
  rcases zif h with ⟨c47, h⟩ | ⟨c47, h⟩
  · refine zr_tabIn (tgt := 498) (off := 479) c47 dX5_shapeOfMove_19 (by decide) (by decide) (by decide) (by decide) ?_
    exact zv_fewer [] rfl (kX5_shapeOfMove_498 hd _ h)
  rcases zif h with ⟨c48, h⟩ | ⟨c48, h⟩
  · refine zr_tabIn (tgt := 498) (off := 479) c48 dX5_shapeOfMove_19 (by decide) (by decide) (by decide) (by decide) ?_
    exact zv_fewer [] rfl (kX5_shapeOfMove_498 hd _ h)
  rcases zif h with ⟨c49, h⟩ | ⟨c49, h⟩
  · refine zr_tabIn (tgt := 498) (off := 479) c49 dX5_shapeOfMove_19 (by decide) (by decide) (by decide) (by decide) ?_
    exact zv_fewer [] rfl (kX5_shapeOfMove_498 hd _ h)
  rcases zif h with ⟨c50, h⟩ | ⟨c50, h⟩
  · refine zr_tabIn (tgt := 498) (off := 479) c50 dX5_shapeOfMove_19 (by decide) (by decide) (by decide) (by decide) ?_
    exact zv_fewer [] rfl (kX5_shapeOfMove_498 hd _ h)
  rcases zif h with ⟨c51, h⟩ | ⟨c51, h⟩
  · refine zr_tabIn (tgt := 498) (off := 479) c51 dX5_shapeOfMove_19 (by decide) (by decide) (by decide) (by decide) ?_
    exact zv_fewer [] rfl (kX5_shapeOfMove_498 hd _ h)
  rcases zif h with ⟨c52, h⟩ | ⟨c52, h⟩
  · refine zr_tabIn (tgt := 498) (off := 479) c52 dX5_shapeOfMove_19 (by decide) (by decide) (by decide) (by decide) ?_
    exact zv_fewer [] rfl (kX5_shapeOfMove_498 hd _ h)
  rcases zif h with ⟨c53, h⟩ | ⟨c53, h⟩
  · refine zr_tabIn (tgt := 498) (off := 479) c53 dX5_shapeOfMove_19 (by decide) (by decide) (by decide) (by decide) ?_
    exact zv_fewer [] rfl (kX5_shapeOfMove_498 hd _ h)
  rcases zif h with ⟨c54, h⟩ | ⟨c54, h⟩
  · refine zr_tabIn (tgt := 498) (off := 479) c54 dX5_shapeOfMove_19 (by decide) (by decide) (by decide) (by decide) ?_
    exact zv_fewer [] rfl (kX5_shapeOfMove_498 hd _ h)
  rcases zif h with ⟨c55, h⟩ | ⟨c55, h⟩
  · refine zr_tabIn (tgt := 498) (off := 479) c55 dX5_shapeOfMove_19 (by decide) (by decide) (by decide) (by decide) ?_
    exact zv_fewer [] rfl (kX5_shapeOfMove_498 hd _ h)
  rcases zif h with ⟨c56, h⟩ | ⟨c56, h⟩
  · refine zr_tabIn (tgt := 498) (off := 479) c56 dX5_shapeOfMove_19 (by decide) (by decide) (by decide) (by decide) ?_
    exact zv_fewer [] rfl (kX5_shapeOfMove_498 hd _ h)
  rcases zif h with ⟨c57, h⟩ | ⟨c57, h⟩
  · refine zr_tabIn (tgt := 450) (off := 431) c57 dX5_shapeOfMove_19 (by decide) (by decide) (by decide) (by decide) ?_
    exact zv_fewer [] rfl (kX5_shapeOfMove_450 hd _ h)
  rcases zif h with ⟨c60, h⟩ | ⟨c60, h⟩
  · refine zr_tabIn (tgt := 458) (off := 439) c60 dX5_shapeOfMove_19 (by decide) (by decide) (by decide) (by decide) ?_
    refine zv_iconst (v := 1) dX5_shapeOfMove_458 (by decide) ?_
    refine zv_bipush (v := 13) dX5_shapeOfMove_459 (by decide) ?_
    refine zv_iconst (v := 2) dX5_shapeOfMove_461 (by decide) ?_
    refine zr_cSi (st := []) dX5_shapeOfMove_462 mw_X5_pack wd_668 wd_669 [.int (1 : Int32), .int (13 : Int32), .int (2 : Int32)] rfl rfl (Nat.le_of_ble_eq_true rfl) (show d - 1 + 1 ≤ d by omega) h (fun o58 e59 => tX5_pack (d := d - 1) (by omega) e59) (fun o58 e59 h => ?_)
    cases h
    exact zv_iret dX5_shapeOfMove_465 rfl
  rcases zif h with ⟨c61, h⟩ | ⟨c61, h⟩
  · refine zr_tabIn (tgt := 498) (off := 479) c61 dX5_shapeOfMove_19 (by decide) (by decide) (by decide) (by decide) ?_
    exact zv_fewer [] rfl (kX5_shapeOfMove_498 hd _ h)
  rcases zif h with ⟨c62, h⟩ | ⟨c62, h⟩
  · refine zr_tabIn (tgt := 498) (off := 479) c62 dX5_shapeOfMove_19 (by decide) (by decide) (by decide) (by decide) ?_
    exact zv_fewer [] rfl (kX5_shapeOfMove_498 hd _ h)
  rcases zif h with ⟨c65, h⟩ | ⟨c65, h⟩
  · refine zr_tabIn (tgt := 466) (off := 447) c65 dX5_shapeOfMove_19 (by decide) (by decide) (by decide) (by decide) ?_
    refine zv_iconst (v := 1) dX5_shapeOfMove_466 (by decide) ?_
    refine zv_bipush (v := 13) dX5_shapeOfMove_467 (by decide) ?_
    refine zv_iconst (v := 3) dX5_shapeOfMove_469 (by decide) ?_
    refine zr_cSi (st := []) dX5_shapeOfMove_470 mw_X5_pack wd_668 wd_669 [.int (1 : Int32), .int (13 : Int32), .int (3 : Int32)] rfl rfl (Nat.le_of_ble_eq_true rfl) (show d - 1 + 1 ≤ d by omega) h (fun o63 e64 => tX5_pack (d := d - 1) (by omega) e64) (fun o63 e64 h => ?_)
    cases h
    exact zv_iret dX5_shapeOfMove_473 rfl
  rcases zif h with ⟨c66, h⟩ | ⟨c66, h⟩
  · refine zr_tabIn (tgt := 450) (off := 431) c66 dX5_shapeOfMove_19 (by decide) (by decide) (by decide) (by decide) ?_
    exact zv_fewer [] rfl (kX5_shapeOfMove_450 hd _ h)
  rcases zif h with ⟨c67, h⟩ | ⟨c67, h⟩
  · refine zr_tabIn (tgt := 450) (off := 431) c67 dX5_shapeOfMove_19 (by decide) (by decide) (by decide) (by decide) ?_
    exact zv_fewer [] rfl (kX5_shapeOfMove_450 hd _ h)
  rcases zif h with ⟨c68, h⟩ | ⟨c68, h⟩
  · refine zr_tabIn (tgt := 450) (off := 431) c68 dX5_shapeOfMove_19 (by decide) (by decide) (by decide) (by decide) ?_
    exact zv_fewer [] rfl (kX5_shapeOfMove_450 hd _ h)
  rcases zif h with ⟨c71, h⟩ | ⟨c71, h⟩
  · refine zr_tabIn (tgt := 429) (off := 410) c71 dX5_shapeOfMove_19 (by decide) (by decide) (by decide) (by decide) ?_
    refine zv_iconst (v := 2) dX5_shapeOfMove_429 (by decide) ?_
    refine zv_iconst (v := 1) dX5_shapeOfMove_430 (by decide) ?_
    refine zv_iconst (v := 0) dX5_shapeOfMove_431 (by decide) ?_
    refine zr_cSi (st := []) dX5_shapeOfMove_432 mw_X5_pack wd_668 wd_669 [.int (2 : Int32), .int (1 : Int32), .int (0 : Int32)] rfl rfl (Nat.le_of_ble_eq_true rfl) (show d - 1 + 1 ≤ d by omega) h (fun o69 e70 => tX5_pack (d := d - 1) (by omega) e70) (fun o69 e70 h => ?_)
    cases h
    exact zv_iret dX5_shapeOfMove_435 rfl
  rcases zif h with ⟨c74, h⟩ | ⟨c74, h⟩
  · refine zr_tabIn (tgt := 436) (off := 417) c74 dX5_shapeOfMove_19 (by decide) (by decide) (by decide) (by decide) ?_
    refine zv_iconst (v := 2) dX5_shapeOfMove_436 (by decide) ?_
    refine zv_iconst (v := 2) dX5_shapeOfMove_437 (by decide) ?_
    refine zv_iconst (v := 0) dX5_shapeOfMove_438 (by decide) ?_
    refine zr_cSi (st := []) dX5_shapeOfMove_439 mw_X5_pack wd_668 wd_669 [.int (2 : Int32), .int (2 : Int32), .int (0 : Int32)] rfl rfl (Nat.le_of_ble_eq_true rfl) (show d - 1 + 1 ≤ d by omega) h (fun o72 e73 => tX5_pack (d := d - 1) (by omega) e73) (fun o72 e73 h => ?_)
    cases h
    exact zv_iret dX5_shapeOfMove_442 rfl
  rcases zif h with ⟨c75, h⟩ | ⟨c75, h⟩
  · refine zr_tabIn (tgt := 498) (off := 479) c75 dX5_shapeOfMove_19 (by decide) (by decide) (by decide) (by decide) ?_
    exact zv_fewer [] rfl (kX5_shapeOfMove_498 hd _ h)
  rcases zif h with ⟨c76, h⟩ | ⟨c76, h⟩
  · refine zr_tabIn (tgt := 498) (off := 479) c76 dX5_shapeOfMove_19 (by decide) (by decide) (by decide) (by decide) ?_
    exact zv_fewer [] rfl (kX5_shapeOfMove_498 hd _ h)
  rcases zif h with ⟨c79, h⟩ | ⟨c79, h⟩
  · refine zr_tabIn (tgt := 443) (off := 424) c79 dX5_shapeOfMove_19 (by decide) (by decide) (by decide) (by decide) ?_
    refine zv_iconst (v := 2) dX5_shapeOfMove_443 (by decide) ?_
    refine zv_iconst (v := 3) dX5_shapeOfMove_444 (by decide) ?_
    refine zv_iconst (v := 0) dX5_shapeOfMove_445 (by decide) ?_
    refine zr_cSi (st := []) dX5_shapeOfMove_446 mw_X5_pack wd_668 wd_669 [.int (2 : Int32), .int (3 : Int32), .int (0 : Int32)] rfl rfl (Nat.le_of_ble_eq_true rfl) (show d - 1 + 1 ≤ d by omega) h (fun o77 e78 => tX5_pack (d := d - 1) (by omega) e78) (fun o77 e78 h => ?_)
    cases h
    exact zv_iret dX5_shapeOfMove_449 rfl
  rcases zif h with ⟨c80, h⟩ | ⟨c80, h⟩
  · refine zr_tabIn (tgt := 498) (off := 479) c80 dX5_shapeOfMove_19 (by decide) (by decide) (by decide) (by decide) ?_
    exact zv_fewer [] rfl (kX5_shapeOfMove_498 hd _ h)
  rcases zif h with ⟨c81, h⟩ | ⟨c81, h⟩
  · refine zr_tabIn (tgt := 498) (off := 479) c81 dX5_shapeOfMove_19 (by decide) (by decide) (by decide) (by decide) ?_
    exact zv_fewer [] rfl (kX5_shapeOfMove_498 hd _ h)
  rcases zif h with ⟨c82, h⟩ | ⟨c82, h⟩
  · refine zr_tabIn (tgt := 498) (off := 479) c82 dX5_shapeOfMove_19 (by decide) (by decide) (by decide) (by decide) ?_
    exact zv_fewer [] rfl (kX5_shapeOfMove_498 hd _ h)
  rcases zif h with ⟨c83, h⟩ | ⟨c83, h⟩
  · refine zr_tabIn (tgt := 498) (off := 479) c83 dX5_shapeOfMove_19 (by decide) (by decide) (by decide) (by decide) ?_
    exact zv_fewer [] rfl (kX5_shapeOfMove_498 hd _ h)
  rcases zif h with ⟨c84, h⟩ | ⟨c84, h⟩
  · refine zr_tabIn (tgt := 498) (off := 479) c84 dX5_shapeOfMove_19 (by decide) (by decide) (by decide) (by decide) ?_
    exact zv_fewer [] rfl (kX5_shapeOfMove_498 hd _ h)
  rcases zif h with ⟨c85, h⟩ | ⟨c85, h⟩
  · refine zr_tabIn (tgt := 498) (off := 479) c85 dX5_shapeOfMove_19 (by decide) (by decide) (by decide) (by decide) ?_
    exact zv_fewer [] rfl (kX5_shapeOfMove_498 hd _ h)
  rcases zif h with ⟨c86, h⟩ | ⟨c86, h⟩
  · refine zr_tabIn (tgt := 498) (off := 479) c86 dX5_shapeOfMove_19 (by decide) (by decide) (by decide) (by decide) ?_
    exact zv_fewer [] rfl (kX5_shapeOfMove_498 hd _ h)
  rcases zif h with ⟨c87, h⟩ | ⟨c87, h⟩
  · refine zr_tabIn (tgt := 498) (off := 479) c87 dX5_shapeOfMove_19 (by decide) (by decide) (by decide) (by decide) ?_
    exact zv_fewer [] rfl (kX5_shapeOfMove_498 hd _ h)
  rcases zif h with ⟨c88, h⟩ | ⟨c88, h⟩
  · refine zr_tabIn (tgt := 498) (off := 479) c88 dX5_shapeOfMove_19 (by decide) (by decide) (by decide) (by decide) ?_
    exact zv_fewer [] rfl (kX5_shapeOfMove_498 hd _ h)
  rcases zif h with ⟨c89, h⟩ | ⟨c89, h⟩
  · refine zr_tabIn (tgt := 498) (off := 479) c89 dX5_shapeOfMove_19 (by decide) (by decide) (by decide) (by decide) ?_
    exact zv_fewer [] rfl (kX5_shapeOfMove_498 hd _ h)
  rcases zif h with ⟨c90, h⟩ | ⟨c90, h⟩
  · refine zr_tabIn (tgt := 498) (off := 479) c90 dX5_shapeOfMove_19 (by decide) (by decide) (by decide) (by decide) ?_
    exact zv_fewer [] rfl (kX5_shapeOfMove_498 hd _ h)
  rcases zif h with ⟨c91, h⟩ | ⟨c91, h⟩
  · refine zr_tabIn (tgt := 498) (off := 479) c91 dX5_shapeOfMove_19 (by decide) (by decide) (by decide) (by decide) ?_
    exact zv_fewer [] rfl (kX5_shapeOfMove_498 hd _ h)
  rcases zif h with ⟨c92, h⟩ | ⟨c92, h⟩
  · refine zr_tabIn (tgt := 498) (off := 479) c92 dX5_shapeOfMove_19 (by decide) (by decide) (by decide) (by decide) ?_
    exact zv_fewer [] rfl (kX5_shapeOfMove_498 hd _ h)
  rcases zif h with ⟨c93, h⟩ | ⟨c93, h⟩
  · refine zr_tabIn (tgt := 498) (off := 479) c93 dX5_shapeOfMove_19 (by decide) (by decide) (by decide) (by decide) ?_
    exact zv_fewer [] rfl (kX5_shapeOfMove_498 hd _ h)
  rcases zif h with ⟨c94, h⟩ | ⟨c94, h⟩
  · refine zr_tabIn (tgt := 498) (off := 479) c94 dX5_shapeOfMove_19 (by decide) (by decide) (by decide) (by decide) ?_
    exact zv_fewer [] rfl (kX5_shapeOfMove_498 hd _ h)
  rcases zif h with ⟨c95, h⟩ | ⟨c95, h⟩
  · refine zr_tabIn (tgt := 498) (off := 479) c95 dX5_shapeOfMove_19 (by decide) (by decide) (by decide) (by decide) ?_
    exact zv_fewer [] rfl (kX5_shapeOfMove_498 hd _ h)
  rcases zif h with ⟨c96, h⟩ | ⟨c96, h⟩
  · refine zr_tabIn (tgt := 498) (off := 479) c96 dX5_shapeOfMove_19 (by decide) (by decide) (by decide) (by decide) ?_
    exact zv_fewer [] rfl (kX5_shapeOfMove_498 hd _ h)
  rcases zif h with ⟨c97, h⟩ | ⟨c97, h⟩
  · refine zr_tabIn (tgt := 498) (off := 479) c97 dX5_shapeOfMove_19 (by decide) (by decide) (by decide) (by decide) ?_
    exact zv_fewer [] rfl (kX5_shapeOfMove_498 hd _ h)
  rcases zif h with ⟨c98, h⟩ | ⟨c98, h⟩
  · refine zr_tabIn (tgt := 498) (off := 479) c98 dX5_shapeOfMove_19 (by decide) (by decide) (by decide) (by decide) ?_
    exact zv_fewer [] rfl (kX5_shapeOfMove_498 hd _ h)
  rcases zif h with ⟨c99, h⟩ | ⟨c99, h⟩
  · refine zr_tabIn (tgt := 498) (off := 479) c99 dX5_shapeOfMove_19 (by decide) (by decide) (by decide) (by decide) ?_
    exact zv_fewer [] rfl (kX5_shapeOfMove_498 hd _ h)
  rcases zif h with ⟨c100, h⟩ | ⟨c100, h⟩
  · refine zr_tabIn (tgt := 474) (off := 455) c100 dX5_shapeOfMove_19 (by decide) (by decide) (by decide) (by decide) ?_
    exact zv_fewer [] rfl (kX5_shapeOfMove_474 hd _ h)
  rcases zif h with ⟨c103, h⟩ | ⟨c103, h⟩
  · refine zr_tabIn (tgt := 482) (off := 463) c103 dX5_shapeOfMove_19 (by decide) (by decide) (by decide) (by decide) ?_
    refine zv_iconst (v := 1) dX5_shapeOfMove_482 (by decide) ?_
    refine zv_bipush (v := 54) dX5_shapeOfMove_483 (by decide) ?_
    refine zv_iconst (v := 0) dX5_shapeOfMove_485 (by decide) ?_
    refine zr_cSi (st := []) dX5_shapeOfMove_486 mw_X5_pack wd_668 wd_669 [.int (1 : Int32), .int (54 : Int32), .int (0 : Int32)] rfl rfl (Nat.le_of_ble_eq_true rfl) (show d - 1 + 1 ≤ d by omega) h (fun o101 e102 => tX5_pack (d := d - 1) (by omega) e102) (fun o101 e102 h => ?_)
    cases h
    exact zv_iret dX5_shapeOfMove_489 rfl
  rcases zif h with ⟨c104, h⟩ | ⟨c104, h⟩
  · refine zr_tabIn (tgt := 498) (off := 479) c104 dX5_shapeOfMove_19 (by decide) (by decide) (by decide) (by decide) ?_
    exact zv_fewer [] rfl (kX5_shapeOfMove_498 hd _ h)
  rcases zif h with ⟨c105, h⟩ | ⟨c105, h⟩
  · refine zr_tabIn (tgt := 498) (off := 479) c105 dX5_shapeOfMove_19 (by decide) (by decide) (by decide) (by decide) ?_
    exact zv_fewer [] rfl (kX5_shapeOfMove_498 hd _ h)
  rcases zif h with ⟨c108, h⟩ | ⟨c108, h⟩
  · refine zr_tabIn (tgt := 490) (off := 471) c108 dX5_shapeOfMove_19 (by decide) (by decide) (by decide) (by decide) ?_
    refine zv_iconst (v := 1) dX5_shapeOfMove_490 (by decide) ?_
    refine zv_bipush (v := 55) dX5_shapeOfMove_491 (by decide) ?_
    refine zv_iconst (v := 0) dX5_shapeOfMove_493 (by decide) ?_
    refine zr_cSi (st := []) dX5_shapeOfMove_494 mw_X5_pack wd_668 wd_669 [.int (1 : Int32), .int (55 : Int32), .int (0 : Int32)] rfl rfl (Nat.le_of_ble_eq_true rfl) (show d - 1 + 1 ≤ d by omega) h (fun o106 e107 => tX5_pack (d := d - 1) (by omega) e107) (fun o106 e107 h => ?_)
    cases h
    exact zv_iret dX5_shapeOfMove_497 rfl
  rcases zif h with ⟨c109, h⟩ | ⟨c109, h⟩
  · refine zr_tabIn (tgt := 474) (off := 455) c109 dX5_shapeOfMove_19 (by decide) (by decide) (by decide) (by decide) ?_
    exact zv_fewer [] rfl (kX5_shapeOfMove_474 hd _ h)
  rcases zif h with ⟨c110, h⟩ | ⟨c110, h⟩
  · refine zr_tabIn (tgt := 474) (off := 455) c110 dX5_shapeOfMove_19 (by decide) (by decide) (by decide) (by decide) ?_
    exact zv_fewer [] rfl (kX5_shapeOfMove_474 hd _ h)
  rcases zif h with ⟨c111, h⟩ | ⟨c111, h⟩
  · refine zr_tabIn (tgt := 474) (off := 455) c111 dX5_shapeOfMove_19 (by decide) (by decide) (by decide) (by decide) ?_
    exact zv_fewer [] rfl (kX5_shapeOfMove_474 hd _ h)
  refine zv_tableOut (tgt := 498) dX5_shapeOfMove_19 (by have := lv_neT c3 (show (0 : Int32).toInt = 0 by decide); have := lv_neT c6 (show (1 : Int32).toInt = 1 by decide); have := lv_neT c7 (show (2 : Int32).toInt = 2 by decide); have := lv_neT c8 (show (3 : Int32).toInt = 3 by decide); have := lv_neT c9 (show (4 : Int32).toInt = 4 by decide); have := lv_neT c10 (show (5 : Int32).toInt = 5 by decide); have := lv_neT c11 (show (6 : Int32).toInt = 6 by decide); have := lv_neT c12 (show (7 : Int32).toInt = 7 by decide); have := lv_neT c13 (show (8 : Int32).toInt = 8 by decide); have := lv_neT c14 (show (9 : Int32).toInt = 9 by decide); have := lv_neT c15 (show (10 : Int32).toInt = 10 by decide); have := lv_neT c16 (show (11 : Int32).toInt = 11 by decide); have := lv_neT c17 (show (12 : Int32).toInt = 12 by decide); have := lv_neT c18 (show (13 : Int32).toInt = 13 by decide); have := lv_neT c19 (show (14 : Int32).toInt = 14 by decide); have := lv_neT c20 (show (15 : Int32).toInt = 15 by decide); have := lv_neT c21 (show (16 : Int32).toInt = 16 by decide); have := lv_neT c24 (show (17 : Int32).toInt = 17 by decide); have := lv_neT c25 (show (18 : Int32).toInt = 18 by decide); have := lv_neT c26 (show (19 : Int32).toInt = 19 by decide); have := lv_neT c27 (show (20 : Int32).toInt = 20 by decide); have := lv_neT c28 (show (21 : Int32).toInt = 21 by decide); have := lv_neT c31 (show (22 : Int32).toInt = 22 by decide); have := lv_neT c32 (show (23 : Int32).toInt = 23 by decide); have := lv_neT c33 (show (24 : Int32).toInt = 24 by decide); have := lv_neT c36 (show (25 : Int32).toInt = 25 by decide); have := lv_neT c37 (show (26 : Int32).toInt = 26 by decide); have := lv_neT c38 (show (27 : Int32).toInt = 27 by decide); have := lv_neT c39 (show (28 : Int32).toInt = 28 by decide); have := lv_neT c40 (show (29 : Int32).toInt = 29 by decide); have := lv_neT c41 (show (30 : Int32).toInt = 30 by decide); have := lv_neT c42 (show (31 : Int32).toInt = 31 by decide); have := lv_neT c43 (show (32 : Int32).toInt = 32 by decide); have := lv_neT c44 (show (33 : Int32).toInt = 33 by decide); have := lv_neT c45 (show (34 : Int32).toInt = 34 by decide); have := lv_neT c46 (show (35 : Int32).toInt = 35 by decide); have := lv_neT c47 (show (36 : Int32).toInt = 36 by decide); have := lv_neT c48 (show (37 : Int32).toInt = 37 by decide); have := lv_neT c49 (show (38 : Int32).toInt = 38 by decide); have := lv_neT c50 (show (39 : Int32).toInt = 39 by decide); have := lv_neT c51 (show (40 : Int32).toInt = 40 by decide); have := lv_neT c52 (show (41 : Int32).toInt = 41 by decide); have := lv_neT c53 (show (42 : Int32).toInt = 42 by decide); have := lv_neT c54 (show (43 : Int32).toInt = 43 by decide); have := lv_neT c55 (show (44 : Int32).toInt = 44 by decide); have := lv_neT c56 (show (45 : Int32).toInt = 45 by decide); have := lv_neT c57 (show (46 : Int32).toInt = 46 by decide); have := lv_neT c60 (show (47 : Int32).toInt = 47 by decide); have := lv_neT c61 (show (48 : Int32).toInt = 48 by decide); have := lv_neT c62 (show (49 : Int32).toInt = 49 by decide); have := lv_neT c65 (show (50 : Int32).toInt = 50 by decide); have := lv_neT c66 (show (51 : Int32).toInt = 51 by decide); have := lv_neT c67 (show (52 : Int32).toInt = 52 by decide); have := lv_neT c68 (show (53 : Int32).toInt = 53 by decide); have := lv_neT c71 (show (54 : Int32).toInt = 54 by decide); have := lv_neT c74 (show (55 : Int32).toInt = 55 by decide); have := lv_neT c75 (show (56 : Int32).toInt = 56 by decide); have := lv_neT c76 (show (57 : Int32).toInt = 57 by decide); have := lv_neT c79 (show (58 : Int32).toInt = 58 by decide); have := lv_neT c80 (show (59 : Int32).toInt = 59 by decide); have := lv_neT c81 (show (60 : Int32).toInt = 60 by decide); have := lv_neT c82 (show (61 : Int32).toInt = 61 by decide); have := lv_neT c83 (show (62 : Int32).toInt = 62 by decide); have := lv_neT c84 (show (63 : Int32).toInt = 63 by decide); have := lv_neT c85 (show (64 : Int32).toInt = 64 by decide); have := lv_neT c86 (show (65 : Int32).toInt = 65 by decide); have := lv_neT c87 (show (66 : Int32).toInt = 66 by decide); have := lv_neT c88 (show (67 : Int32).toInt = 67 by decide); have := lv_neT c89 (show (68 : Int32).toInt = 68 by decide); have := lv_neT c90 (show (69 : Int32).toInt = 69 by decide); have := lv_neT c91 (show (70 : Int32).toInt = 70 by decide); have := lv_neT c92 (show (71 : Int32).toInt = 71 by decide); have := lv_neT c93 (show (72 : Int32).toInt = 72 by decide); have := lv_neT c94 (show (73 : Int32).toInt = 73 by decide); have := lv_neT c95 (show (74 : Int32).toInt = 74 by decide); have := lv_neT c96 (show (75 : Int32).toInt = 75 by decide); have := lv_neT c97 (show (76 : Int32).toInt = 76 by decide); have := lv_neT c98 (show (77 : Int32).toInt = 77 by decide); have := lv_neT c99 (show (78 : Int32).toInt = 78 by decide); have := lv_neT c100 (show (79 : Int32).toInt = 79 by decide); have := lv_neT c103 (show (80 : Int32).toInt = 80 by decide); have := lv_neT c104 (show (81 : Int32).toInt = 81 by decide); have := lv_neT c105 (show (82 : Int32).toInt = 82 by decide); have := lv_neT c108 (show (83 : Int32).toInt = 83 by decide); have := lv_neT c109 (show (84 : Int32).toInt = 84 by decide); have := lv_neT c110 (show (85 : Int32).toInt = 85 by decide); have := lv_neT c111 (show (86 : Int32).toInt = 86 by decide); omega) (by decide) ?_
  exact zv_fewer [] rfl (kX5_shapeOfMove_498 hd _ h)
def mX5_shapeOfMove_0 (N : Nat) (l0 : Int32) (x : zv_X) : Option (zv_X × Int32) := if l0 < (2 : Int32) then (mX5_shapeOfMove_18 N l0 x) else (if (8 : Int32) < l0 then (mX5_shapeOfMove_18 N l0 x) else ((mX5_pack N (1 : Int32) (0 : Int32) (1 : Int32) x).bind fun o1 => some (o1.1, o1.2)))
theorem kX5_shapeOfMove_0 {d : Nat} {x0 : zv_X} {o : (zv_X × Int32)} (hd : 1 ≤ d) {N : Nat} (l0 : Int32) (x : zv_X) (h : mX5_shapeOfMove_0 N l0 x = some o) : zv_V (fX5_shapeOfMove d x0 o) 0 [(0, .int l0)] [] x := by
  unfold mX5_shapeOfMove_0 at h
  refine zv_iload_n (n := 0) dX5_shapeOfMove_0 rfl rfl ?_
  refine zv_iconst (v := 2) dX5_shapeOfMove_1 (by decide) ?_
  refine zr_icmp_lt (tgt := 18) dX5_shapeOfMove_2 (by decide) h (fun c4 h => ?_) (fun c4 h => ?_)
  · exact kX5_shapeOfMove_18 hd _ _ h
  · refine zv_iload_n (n := 0) dX5_shapeOfMove_5 rfl rfl ?_
    refine zv_bipush (v := 8) dX5_shapeOfMove_6 (by decide) ?_
    refine zr_icmp_gt (tgt := 18) dX5_shapeOfMove_8 (by decide) h (fun c3 h => ?_) (fun c3 h => ?_)
    · exact kX5_shapeOfMove_18 hd _ _ h
    · refine zv_iconst (v := 1) dX5_shapeOfMove_11 (by decide) ?_
      refine zv_iconst (v := 0) dX5_shapeOfMove_12 (by decide) ?_
      refine zv_iconst (v := 1) dX5_shapeOfMove_13 (by decide) ?_
      refine zr_cSi (st := []) dX5_shapeOfMove_14 mw_X5_pack wd_668 wd_669 [.int (1 : Int32), .int (0 : Int32), .int (1 : Int32)] rfl rfl (Nat.le_of_ble_eq_true rfl) (show d - 1 + 1 ≤ d by omega) h (fun o1 e2 => tX5_pack (d := d - 1) (by omega) e2) (fun o1 e2 h => ?_)
      cases h
      exact zv_iret dX5_shapeOfMove_17 rfl
def mX5_shapeOfMove (N : Nat) (a0 : Int32) (x : zv_X) : Option (zv_X × Int32) := mX5_shapeOfMove_0 N a0 x
theorem tX5_shapeOfMove {d : Nat} (hd : 1 ≤ d) {N : Nat} {x : zv_X} {a0 : Int32} {o : (zv_X × Int32)} (h : mX5_shapeOfMove N a0 x = some o) : zv_T d yX5_shapeOfMove cX5_shapeOfMove 1 ((some .int)) [.int a0] x o.1 (some (.int o.2)) := by
  unfold mX5_shapeOfMove at h
  exact zv_enter (by decide) (Nat.le_of_ble_eq_true rfl) (kX5_shapeOfMove_0 hd _ _ h)
