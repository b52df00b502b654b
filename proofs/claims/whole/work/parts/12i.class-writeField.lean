abbrev fX4_reckon (d : Nat) (x0 : zv_X) (o : (zv_X × Int32)) : zv_G := (d, RX4, cX4_reckon, 11, (some .int), ("reckon", []), x0, o.1, zv_fin x0 o.1 (some (.int o.2)))
def mX4_reckon_172 (N : Nat) (l0 : Nat) (s0 : Int64) (s1 : Nat) (x : zv_X) : Option (zv_X × Int32) := if zm_k x s1 1 = true then ((mX1_pushNumber N s1 s0 x).bind fun o1 => if zm_k o1 l0 4 = true then ((mX4_goOn N l0 (1 : Int32) o1).bind fun o3 => some (o3.1, o3.2)) else none) else none
theorem kX4_reckon_172 {d : Nat} {x0 : zv_X} {o : (zv_X × Int32)} (hd : 2 ≤ d) {N : Nat} (l0 : Nat) (s0 : Int64) (s1 : Nat) (x : zv_X) (h : mX4_reckon_172 N l0 s0 s1 x = some o) : zv_V (fX4_reckon d x0 o) 172 [(0, .ref l0)] [.long s0, .ref s1] x := by
  unfold mX4_reckon_172 at h
  refine zr_cVv (ci := 1) (st := []) dX4_reckon_172 mw_X1_pushNumber wd_1125 wd_1126 wd_1127 rfl rfl [.long s0] rfl rfl (Nat.le_of_ble_eq_true rfl) (show d - 1 + 1 ≤ d by omega) h (fun o1 e2 => tX1_pushNumber (d := d - 1) (by omega) e2) (fun o1 e2 h => ?_)
  refine zv_aload_n (n := 0) dX4_reckon_175 rfl rfl ?_
  refine zv_iconst (v := 1) dX4_reckon_176 (by decide) ?_
  refine zr_cVi (ci := 4) (st := []) dX4_reckon_177 mw_X4_goOn wd_1117 wd_1119 wd_22 rfl rfl [.int (1 : Int32)] rfl rfl (Nat.le_of_ble_eq_true rfl) (show d - 1 + 1 ≤ d by omega) h (fun o3 e4 => tX4_goOn (d := d - 1) (by omega) e4) (fun o3 e4 h => ?_)
  cases h
  exact zv_iret dX4_reckon_180 rfl
def mX4_reckon_145 (N : Nat) (l0 : Nat) (l2 : Int32) (s0 : Int64) (x : zv_X) : Option (zv_X × Int32) := (zm_R x l0 4 5).bind fun v1 => if zm_k x v1 1 = true then ((mX1_drop N v1 (2 : Int32) x).bind fun o3 => (zm_R o3 l0 4 5).bind fun v5 => if l2 = 0 then (mX4_reckon_172 N l0 s0 v5 o3) else (mX4_reckon_172 N l0 (Int32.toInt64 (Int64.toInt32 s0)) v5 o3)) else none
theorem kX4_reckon_145 {d : Nat} {x0 : zv_X} {o : (zv_X × Int32)} (hd : 2 ≤ d) {N : Nat} (l0 : Nat) (l2 : Int32) (s0 : Int64) (x : zv_X) (h : mX4_reckon_145 N l0 l2 s0 x = some o) : zv_V (fX4_reckon d x0 o) 145 [(0, .ref l0), (2, .int l2)] [.long s0] x := by
  unfold mX4_reckon_145 at h
  refine zv_lstore (L' := [(9, .long s0), (0, .ref l0), (2, .int l2)]) dX4_reckon_145 (Nat.le_of_ble_eq_true rfl) rfl ?_
  refine zv_aload_n (n := 1) dX4_reckon_147 rfl rfl ?_
  refine zr_gR dX4_reckon_148 fg_371 h (fun v1 e2 h => ?_)
  refine zv_iconst (v := 2) dX4_reckon_151 (by decide) ?_
  refine zr_cVv (ci := 1) (st := []) dX4_reckon_152 mw_X1_drop wd_1180 wd_1181 wd_1182 rfl rfl [.int (2 : Int32)] rfl rfl (Nat.le_of_ble_eq_true rfl) (show d - 1 + 1 ≤ d by omega) h (fun o3 e4 => tX1_drop (d := d - 1) (by omega) e4) (fun o3 e4 h => ?_)
  refine zv_aload_n (n := 1) dX4_reckon_155 rfl rfl ?_
  refine zr_gR dX4_reckon_156 fg_371 h (fun v5 e6 h => ?_)
  refine zv_iload_n (n := 2) dX4_reckon_159 rfl rfl ?_
  refine zr_if_eq (tgt := 170) dX4_reckon_160 (by decide) h (fun c7 h => ?_) (fun c7 h => ?_)
  · refine zv_lload (n := 0) dX4_reckon_170 rfl ?_
    exact zv_fewer [1] rfl (kX4_reckon_172 hd _ _ _ _ h)
  · refine zv_lload (n := 0) dX4_reckon_163 rfl ?_
    refine zv_l2i dX4_reckon_165 ?_
    refine zv_i2l dX4_reckon_166 ?_
    refine zv_goto (tgt := 172) dX4_reckon_167 (by decide) ?_
    exact zv_fewer [1] rfl (kX4_reckon_172 hd _ _ _ _ h)
def mX4_reckon_118 (N : Nat) (l0 : Nat) (l2 : Int32) (l3 : Int32) (l4 : Int64) (l6 : Int64) (s0 : Int32) (x : zv_X) : Option (zv_X × Int32) := if s0 = 0 then ((mX4_combined N l3 l6 l4 x).bind fun o1 => mX4_reckon_145 N l0 l2 o1.2 o1.1) else ((mX4_moved N l3 l6 l4 l2 x).bind fun o3 => mX4_reckon_145 N l0 l2 o3.2 o3.1)
theorem kX4_reckon_118 {d : Nat} {x0 : zv_X} {o : (zv_X × Int32)} (hd : 2 ≤ d) {N : Nat} (l0 : Nat) (l2 : Int32) (l3 : Int32) (l4 : Int64) (l6 : Int64) (s0 : Int32) (x : zv_X) (h : mX4_reckon_118 N l0 l2 l3 l4 l6 s0 x = some o) : zv_V (fX4_reckon d x0 o) 118 [(0, .ref l0), (2, .int l2), (3, .int l3), (4, .long l4), (6, .long l6)] [.int s0] x := by
  unfold mX4_reckon_118 at h
  refine zv_istore (L' := [(8, .int s0), (0, .ref l0), (2, .int l2), (3, .int l3), (4, .long l4), (6, .long l6)]) dX4_reckon_118 (Nat.le_of_ble_eq_true rfl) rfl ?_
  refine zv_iload (n := 0) dX4_reckon_120 rfl ?_
  refine zr_if_eq (tgt := 137) dX4_reckon_122 (by decide) h (fun c5 h => ?_) (fun c5 h => ?_)
  · refine zv_iload_n (n := 3) dX4_reckon_137 rfl rfl ?_
    refine zv_lload (n := 5) dX4_reckon_138 rfl ?_
    refine zv_lload (n := 4) dX4_reckon_140 rfl ?_
    refine zr_cSl (st := []) dX4_reckon_142 mw_X4_combined wd_1225 wd_1226 [.int l3, .long l6, .long l4] rfl rfl (Nat.le_of_ble_eq_true rfl) (show d - 1 + 1 ≤ d by omega) h (fun o1 e2 => tX4_combined (d := d - 1) (by omega) e2) (fun o1 e2 h => ?_)
    exact zv_fewer [1, 2] rfl (kX4_reckon_145 hd _ _ _ _ h)
  · refine zv_iload_n (n := 3) dX4_reckon_125 rfl rfl ?_
    refine zv_lload (n := 5) dX4_reckon_126 rfl ?_
    refine zv_lload (n := 4) dX4_reckon_128 rfl ?_
    refine zv_iload_n (n := 2) dX4_reckon_130 rfl rfl ?_
    refine zr_cSl (st := []) dX4_reckon_131 mw_X4_moved wd_1221 wd_1222 [.int l3, .long l6, .long l4, .int l2] rfl rfl (Nat.le_of_ble_eq_true rfl) (show d - 1 + 1 ≤ d by omega) h (fun o3 e4 => tX4_moved (d := d - 1) (by omega) e4) (fun o3 e4 h => ?_)
    refine zv_goto (tgt := 145) dX4_reckon_134 (by decide) ?_
    exact zv_fewer [1, 2] rfl (kX4_reckon_145 hd _ _ _ _ h)
def mX4_reckon_117 (N : Nat) (l0 : Nat) (l2 : Int32) (l3 : Int32) (l4 : Int64) (l6 : Int64) (x : zv_X) : Option (zv_X × Int32) := mX4_reckon_118 N l0 l2 l3 l4 l6 (0 : Int32) x
theorem kX4_reckon_117 {d : Nat} {x0 : zv_X} {o : (zv_X × Int32)} (hd : 2 ≤ d) {N : Nat} (l0 : Nat) (l2 : Int32) (l3 : Int32) (l4 : Int64) (l6 : Int64) (x : zv_X) (h : mX4_reckon_117 N l0 l2 l3 l4 l6 x = some o) : zv_V (fX4_reckon d x0 o) 117 [(0, .ref l0), (2, .int l2), (3, .int l3), (4, .long l4), (6, .long l6)] [] x := by
  unfold mX4_reckon_117 at h
  refine zv_iconst (v := 0) dX4_reckon_117 (by decide) ?_
  exact kX4_reckon_118 hd _ _ _ _ _ _ _ h
def mX4_reckon_91 (N : Nat) (l0 : Nat) (l2 : Int32) (l3 : Int32) (l4 : Int64) (x : zv_X) : Option (zv_X × Int32) := (zm_R x l0 4 5).bind fun v1 => if zm_k x v1 1 = true then ((mX1_number N v1 (1 : Int32) x).bind fun o3 => if l3 < (120 : Int32) then (mX4_reckon_117 N l0 l2 l3 l4 o3.2 o3.1) else (if (124 : Int32) < l3 then (mX4_reckon_117 N l0 l2 l3 l4 o3.2 o3.1) else (mX4_reckon_118 N l0 l2 l3 l4 o3.2 (1 : Int32) o3.1))) else none
theorem kX4_reckon_91 {d : Nat} {x0 : zv_X} {o : (zv_X × Int32)} (hd : 2 ≤ d) {N : Nat} (l0 : Nat) (l2 : Int32) (l3 : Int32) (l4 : Int64) (x : zv_X) (h : mX4_reckon_91 N l0 l2 l3 l4 x = some o) : zv_V (fX4_reckon d x0 o) 91 [(0, .ref l0), (2, .int l2), (3, .int l3), (4, .long l4)] [] x := by
  unfold mX4_reckon_91 at h
  refine zv_aload_n (n := 0) dX4_reckon_91 rfl rfl ?_
  refine zr_gR dX4_reckon_92 fg_371 h (fun v1 e2 h => ?_)
  refine zv_iconst (v := 1) dX4_reckon_95 (by decide) ?_
  refine zr_cVl (ci := 1) (st := []) dX4_reckon_96 mw_X1_number wd_1155 wd_1156 wd_1157 rfl rfl [.int (1 : Int32)] rfl rfl (Nat.le_of_ble_eq_true rfl) (show d - 1 + 1 ≤ d by omega) h (fun o3 e4 => tX1_number (d := d - 1) (by omega) e4) (fun o3 e4 h => ?_)
  refine zv_lstore (L' := [(6, .long o3.2), (0, .ref l0), (2, .int l2), (3, .int l3), (4, .long l4)]) dX4_reckon_99 (Nat.le_of_ble_eq_true rfl) rfl ?_
  refine zv_iload_n (n := 3) dX4_reckon_101 rfl rfl ?_
  refine zv_bipush (v := 120) dX4_reckon_102 (by decide) ?_
  refine zr_icmp_lt (tgt := 117) dX4_reckon_104 (by decide) h (fun c6 h => ?_) (fun c6 h => ?_)
  · exact zv_fewer [1, 2, 3, 4, 0] rfl (kX4_reckon_117 hd _ _ _ _ _ _ h)
  · refine zv_iload_n (n := 3) dX4_reckon_107 rfl rfl ?_
    refine zv_bipush (v := 124) dX4_reckon_108 (by decide) ?_
    refine zr_icmp_gt (tgt := 117) dX4_reckon_110 (by decide) h (fun c5 h => ?_) (fun c5 h => ?_)
    · exact zv_fewer [1, 2, 3, 4, 0] rfl (kX4_reckon_117 hd _ _ _ _ _ _ h)
    · refine zv_iconst (v := 1) dX4_reckon_113 (by decide) ?_
      refine zv_goto (tgt := 118) dX4_reckon_114 (by decide) ?_
      exact zv_fewer [1, 2, 3, 4, 0] rfl (kX4_reckon_118 hd _ _ _ _ _ _ _ h)
def mX4_reckon_82 (N : Nat) (l0 : Nat) (l2 : Int32) (l3 : Int32) (l4 : Int64) (x : zv_X) : Option (zv_X × Int32) := if (lg_cmp l4 (0 : Int64)) = 0 then (some (x, (1 : Int32))) else (mX4_reckon_91 N l0 l2 l3 l4 x)
theorem kX4_reckon_82 {d : Nat} {x0 : zv_X} {o : (zv_X × Int32)} (hd : 2 ≤ d) {N : Nat} (l0 : Nat) (l2 : Int32) (l3 : Int32) (l4 : Int64) (x : zv_X) (h : mX4_reckon_82 N l0 l2 l3 l4 x = some o) : zv_V (fX4_reckon d x0 o) 82 [(0, .ref l0), (2, .int l2), (3, .int l3), (4, .long l4)] [] x := by
  unfold mX4_reckon_82 at h
  refine zv_lload (n := 3) dX4_reckon_82 rfl ?_
  refine zv_lconst (v := 0) dX4_reckon_84 (by decide) ?_
  refine zv_lcmp dX4_reckon_85 ?_
  refine zr_if_ne (tgt := 91) dX4_reckon_86 (by decide) h (fun c1 h => ?_) (fun c1 h => ?_)
  · exact kX4_reckon_91 hd _ _ _ _ _ h
  · refine zv_iconst (v := 1) dX4_reckon_89 (by decide) ?_
    cases h
    exact zv_iret dX4_reckon_90 rfl
def mX4_reckon_61 (N : Nat) (l0 : Nat) (s0 : Int64) (s1 : Nat) (x : zv_X) : Option (zv_X × Int32) := if zm_k x s1 1 = true then ((mX1_pushNumber N s1 s0 x).bind fun o1 => if zm_k o1 l0 4 = true then ((mX4_goOn N l0 (1 : Int32) o1).bind fun o3 => some (o3.1, o3.2)) else none) else none
theorem kX4_reckon_61 {d : Nat} {x0 : zv_X} {o : (zv_X × Int32)} (hd : 2 ≤ d) {N : Nat} (l0 : Nat) (s0 : Int64) (s1 : Nat) (x : zv_X) (h : mX4_reckon_61 N l0 s0 s1 x = some o) : zv_V (fX4_reckon d x0 o) 61 [(0, .ref l0)] [.long s0, .ref s1] x := by
  unfold mX4_reckon_61 at h
  refine zr_cVv (ci := 1) (st := []) dX4_reckon_61 mw_X1_pushNumber wd_1125 wd_1126 wd_1127 rfl rfl [.long s0] rfl rfl (Nat.le_of_ble_eq_true rfl) (show d - 1 + 1 ≤ d by omega) h (fun o1 e2 => tX1_pushNumber (d := d - 1) (by omega) e2) (fun o1 e2 h => ?_)
  refine zv_aload_n (n := 0) dX4_reckon_64 rfl rfl ?_
  refine zv_iconst (v := 1) dX4_reckon_65 (by decide) ?_
  refine zr_cVi (ci := 4) (st := []) dX4_reckon_66 mw_X4_goOn wd_1117 wd_1119 wd_22 rfl rfl [.int (1 : Int32)] rfl rfl (Nat.le_of_ble_eq_true rfl) (show d - 1 + 1 ≤ d by omega) h (fun o3 e4 => tX4_goOn (d := d - 1) (by omega) e4) (fun o3 e4 h => ?_)
  cases h
  exact zv_iret dX4_reckon_69 rfl
def mX4_reckon_11 (N : Nat) (l0 : Nat) (l1 : Int32) (s0 : Int32) (x : zv_X) : Option (zv_X × Int32) := (zm_R x l0 4 5).bind fun v1 => if zm_k x v1 1 = true then ((mX1_number N v1 (0 : Int32) x).bind fun o3 => if (l1 - (l1 - l1 / (2 : Int32) * (2 : Int32))) = (116 : Int32) then ((zm_R o3.1 l0 4 5).bind fun v7 => if zm_k o3.1 v7 1 = true then ((mX1_drop N v7 (1 : Int32) o3.1).bind fun o9 => (zm_R o9 l0 4 5).bind fun v11 => if s0 = 0 then (mX4_reckon_61 N l0 (-o3.2) v11 o9) else (mX4_reckon_61 N l0 (Int32.toInt64 (Int64.toInt32 (-o3.2))) v11 o9)) else none) else (if (l1 - (l1 - l1 / (2 : Int32) * (2 : Int32))) = (108 : Int32) then (mX4_reckon_82 N l0 s0 (l1 - (l1 - l1 / (2 : Int32) * (2 : Int32))) o3.2 o3.1) else (if (l1 - (l1 - l1 / (2 : Int32) * (2 : Int32))) = (112 : Int32) then (mX4_reckon_82 N l0 s0 (l1 - (l1 - l1 / (2 : Int32) * (2 : Int32))) o3.2 o3.1) else (mX4_reckon_91 N l0 s0 (l1 - (l1 - l1 / (2 : Int32) * (2 : Int32))) o3.2 o3.1)))) else none
theorem kX4_reckon_11 {d : Nat} {x0 : zv_X} {o : (zv_X × Int32)} (hd : 2 ≤ d) {N : Nat} (l0 : Nat) (l1 : Int32) (s0 : Int32) (x : zv_X) (h : mX4_reckon_11 N l0 l1 s0 x = some o) : zv_V (fX4_reckon d x0 o) 11 [(0, .ref l0), (1, .int l1)] [.int s0] x := by
  unfold mX4_reckon_11 at h
  refine zv_istore_n (L' := [(2, .int s0), (0, .ref l0), (1, .int l1)]) dX4_reckon_11 rfl (Nat.le_of_ble_eq_true rfl) rfl ?_
  refine zv_iload_n (n := 2) dX4_reckon_12 rfl rfl ?_
  refine zv_iload_n (n := 2) dX4_reckon_13 rfl rfl ?_
  refine zv_iconst (v := 2) dX4_reckon_14 (by decide) ?_
  refine zv_irem dX4_reckon_15 (by decide) ?_
  refine zv_isub dX4_reckon_16 ?_
  refine zv_istore_n (L' := [(3, .int (l1 - (l1 - l1 / (2 : Int32) * (2 : Int32)))), (2, .int s0), (0, .ref l0), (1, .int l1)]) dX4_reckon_17 rfl (Nat.le_of_ble_eq_true rfl) rfl ?_
  refine zv_aload_n (n := 2) dX4_reckon_18 rfl rfl ?_
  refine zr_gR dX4_reckon_19 fg_371 h (fun v1 e2 h => ?_)
  refine zv_iconst (v := 0) dX4_reckon_22 (by decide) ?_
  refine zr_cVl (ci := 1) (st := []) dX4_reckon_23 mw_X1_number wd_1155 wd_1156 wd_1157 rfl rfl [.int (0 : Int32)] rfl rfl (Nat.le_of_ble_eq_true rfl) (show d - 1 + 1 ≤ d by omega) h (fun o3 e4 => tX1_number (d := d - 1) (by omega) e4) (fun o3 e4 h => ?_)
  refine zv_lstore (L' := [(4, .long o3.2), (3, .int (l1 - (l1 - l1 / (2 : Int32) * (2 : Int32)))), (2, .int s0), (0, .ref l0), (1, .int l1)]) dX4_reckon_26 (Nat.le_of_ble_eq_true rfl) rfl ?_
  refine zv_iload_n (n := 1) dX4_reckon_28 rfl rfl ?_
  refine zv_bipush (v := 116) dX4_reckon_29 (by decide) ?_
  refine zr_icmp_ne (tgt := 70) dX4_reckon_31 (by decide) h (fun c14 h => ?_) (fun c14 h => ?_)
  · refine zv_iload_n (n := 1) dX4_reckon_70 rfl rfl ?_
    refine zv_bipush (v := 108) dX4_reckon_71 (by decide) ?_
    refine zr_icmp_eq (tgt := 82) dX4_reckon_73 (by decide) h (fun c6 h => ?_) (fun c6 h => ?_)
    · exact zv_fewer [3, 2, 1, 0] rfl (kX4_reckon_82 hd _ _ _ _ _ h)
    · refine zv_iload_n (n := 1) dX4_reckon_76 rfl rfl ?_
      refine zv_bipush (v := 112) dX4_reckon_77 (by decide) ?_
      refine zr_icmp_ne (tgt := 91) dX4_reckon_79 (by decide) h (fun c5 h => ?_) (fun c5 h => ?_)
      · exact zv_fewer [3, 2, 1, 0] rfl (kX4_reckon_91 hd _ _ _ _ _ h)
      · exact zv_fewer [3, 2, 1, 0] rfl (kX4_reckon_82 hd _ _ _ _ _ h)
  · refine zv_aload_n (n := 3) dX4_reckon_34 rfl rfl ?_
    refine zr_gR dX4_reckon_35 fg_371 h (fun v7 e8 h => ?_)
    refine zv_iconst (v := 1) dX4_reckon_38 (by decide) ?_
    refine zr_cVv (ci := 1) (st := []) dX4_reckon_39 mw_X1_drop wd_1180 wd_1181 wd_1182 rfl rfl [.int (1 : Int32)] rfl rfl (Nat.le_of_ble_eq_true rfl) (show d - 1 + 1 ≤ d by omega) h (fun o9 e10 => tX1_drop (d := d - 1) (by omega) e10) (fun o9 e10 h => ?_)
    refine zv_aload_n (n := 3) dX4_reckon_42 rfl rfl ?_
    refine zr_gR dX4_reckon_43 fg_371 h (fun v11 e12 h => ?_)
    refine zv_iload_n (n := 2) dX4_reckon_46 rfl rfl ?_
    refine zr_if_eq (tgt := 58) dX4_reckon_47 (by decide) h (fun c13 h => ?_) (fun c13 h => ?_)
    · refine zv_lload (n := 0) dX4_reckon_58 rfl ?_
      refine zv_lneg dX4_reckon_60 ?_
      exact zv_fewer [3] rfl (kX4_reckon_61 hd _ _ _ _ h)
    · refine zv_lload (n := 0) dX4_reckon_50 rfl ?_
      refine zv_lneg dX4_reckon_52 ?_
      refine zv_l2i dX4_reckon_53 ?_
      refine zv_i2l dX4_reckon_54 ?_
      refine zv_goto (tgt := 61) dX4_reckon_55 (by decide) ?_
      exact zv_fewer [3] rfl (kX4_reckon_61 hd _ _ _ _ h)
def mX4_reckon_0 (N : Nat) (l0 : Nat) (l1 : Int32) (x : zv_X) : Option (zv_X × Int32) := if (l1 - l1 / (2 : Int32) * (2 : Int32)) = 0 then (mX4_reckon_11 N l0 l1 (1 : Int32) x) else (mX4_reckon_11 N l0 l1 (0 : Int32) x)
theorem kX4_reckon_0 {d : Nat} {x0 : zv_X} {o : (zv_X × Int32)} (hd : 2 ≤ d) {N : Nat} (l0 : Nat) (l1 : Int32) (x : zv_X) (h : mX4_reckon_0 N l0 l1 x = some o) : zv_V (fX4_reckon d x0 o) 0 [(0, .ref l0), (1, .int l1)] [] x := by
  unfold mX4_reckon_0 at h
  refine zv_iload_n (n := 1) dX4_reckon_0 rfl rfl ?_
  refine zv_iconst (v := 2) dX4_reckon_1 (by decide) ?_
  refine zv_irem dX4_reckon_2 (by decide) ?_
  refine zr_if_ne (tgt := 10) dX4_reckon_3 (by decide) h (fun c1 h => ?_) (fun c1 h => ?_)
  · refine zv_iconst (v := 0) dX4_reckon_10 (by decide) ?_
    exact kX4_reckon_11 hd _ _ _ _ h
  · refine zv_iconst (v := 1) dX4_reckon_6 (by decide) ?_
    refine zv_goto (tgt := 11) dX4_reckon_7 (by decide) ?_
    exact kX4_reckon_11 hd _ _ _ _ h
def mX4_reckon (N : Nat) (a0 : Nat) (a1 : Int32) (x : zv_X) : Option (zv_X × Int32) := mX4_reckon_0 N a0 a1 x
theorem tX4_reckon {d : Nat} (hd : 2 ≤ d) {N : Nat} {x : zv_X} {a0 : Nat} {a1 : Int32} {o : (zv_X × Int32)} (h : mX4_reckon N a0 a1 x = some o) : zv_T d yX4_reckon cX4_reckon 11 ((some .int)) [.ref a0, .int a1] x o.1 (some (.int o.2)) := by
  unfold mX4_reckon at h
  exact zv_enter (by decide) (Nat.le_of_ble_eq_true rfl) (kX4_reckon_0 hd _ _ _ h)

abbrev fX1_duplicate (d : Nat) (x0 : zv_X) (o : zv_X) : zv_G := (d, RX1, cX1_duplicate, 1, none, ("duplicate", []), x0, o, zv_fin x0 o none)
def mX1_duplicate_0 (N : Nat) (l0 : Nat) (x : zv_X) : Option zv_X := (zm_I x l0 1 2).bind fun v1 => (zm_I x l0 1 2).bind fun v3 => if zm_k x l0 1 = true then ((mX1_copySlot N l0 l0 (v1 - (1 : Int32)) v3 x).bind fun o5 => (zm_I o5 l0 1 2).bind fun v7 => (zm_p o5 l0 1 2 (.int (v7 + (1 : Int32)))).bind fun x9 => some x9) else none
theorem kX1_duplicate_0 {d : Nat} {x0 : zv_X} {o : zv_X} (hd : 1 ≤ d) {N : Nat} (l0 : Nat) (x : zv_X) (h : mX1_duplicate_0 N l0 x = some o) : zv_V (fX1_duplicate d x0 o) 0 [(0, .ref l0)] [] x := by
  unfold mX1_duplicate_0 at h
  refine zv_aload_n (n := 0) dX1_duplicate_0 rfl rfl ?_
  refine zv_aload_n (n := 0) dX1_duplicate_1 rfl rfl ?_
  refine zv_aload_n (n := 0) dX1_duplicate_2 rfl rfl ?_
  refine zr_gI dX1_duplicate_3 fg_350 h (fun v1 e2 h => ?_)
  refine zv_iconst (v := 1) dX1_duplicate_6 (by decide) ?_
  refine zv_isub dX1_duplicate_7 ?_
  refine zv_aload_n (n := 0) dX1_duplicate_8 rfl rfl ?_
  refine zr_gI dX1_duplicate_9 fg_350 h (fun v3 e4 h => ?_)
  refine zr_cVv (ci := 1) (st := []) dX1_duplicate_12 mw_X1_copySlot wd_1143 wd_1145 wd_23 rfl rfl [.ref l0, .int (v1 - (1 : Int32)), .int v3] rfl rfl (Nat.le_of_ble_eq_true rfl) (show d - 1 + 1 ≤ d by omega) h (fun o5 e6 => tX1_copySlot (d := d - 1) (by omega) e6) (fun o5 e6 h => ?_)
  refine zv_aload_n (n := 0) dX1_duplicate_15 rfl rfl ?_
  refine zv_dup dX1_duplicate_16 rfl ?_
  refine zr_gI dX1_duplicate_17 fg_350 h (fun v7 e8 h => ?_)
  refine zv_iconst (v := 1) dX1_duplicate_20 (by decide) ?_
  refine zv_iadd dX1_duplicate_21 ?_
  refine zr_p dX1_duplicate_22 fl_350 (fun q => nomatch q) rfl rfl h (fun x9 e10 h => ?_)
  cases h
  exact zv_vret dX1_duplicate_25 rfl
def mX1_duplicate (N : Nat) (a0 : Nat) (x : zv_X) : Option zv_X := mX1_duplicate_0 N a0 x
theorem tX1_duplicate {d : Nat} (hd : 1 ≤ d) {N : Nat} {x : zv_X} {a0 : Nat} {o : zv_X} (h : mX1_duplicate N a0 x = some o) : zv_T d yX1_duplicate cX1_duplicate 1 (none) [.ref a0] x o none := by
  unfold mX1_duplicate at h
  exact zv_enter (by decide) (Nat.le_of_ble_eq_true rfl) (kX1_duplicate_0 hd _ _ h)

abbrev fX1_exchange (d : Nat) (x0 : zv_X) (o : zv_X) : zv_G := (d, RX1, cX1_exchange, 4, none, ("exchange", []), x0, o, zv_fin x0 o none)
def mX1_exchange_0 (N : Nat) (l0 : Nat) (x : zv_X) : Option zv_X := (zm_R x l0 1 0).bind fun v1 => (zm_I x l0 1 2).bind fun v3 => (zm_aL x v1 (v3 - (1 : Int32))).bind fun v5 => (zm_R x l0 1 1).bind fun v7 => (zm_I x l0 1 2).bind fun v9 => (zm_aI x v7 (v9 - (1 : Int32))).bind fun v11 => (zm_I x l0 1 2).bind fun v13 => (zm_I x l0 1 2).bind fun v15 => if zm_k x l0 1 = true then ((mX1_copySlot N l0 l0 (v13 - (2 : Int32)) (v15 - (1 : Int32)) x).bind fun o17 => (zm_R o17 l0 1 0).bind fun v19 => (zm_I o17 l0 1 2).bind fun v21 => (zm_sL o17 v19 (v21 - (2 : Int32)) v5).bind fun x23 => (zm_R x23 l0 1 1).bind fun v25 => (zm_I x23 l0 1 2).bind fun v27 => (zm_sI x23 v25 (v27 - (2 : Int32)) v11).bind fun x29 => some x29) else none
theorem kX1_exchange_0 {d : Nat} {x0 : zv_X} {o : zv_X} (hd : 1 ≤ d) {N : Nat} (l0 : Nat) (x : zv_X) (h : mX1_exchange_0 N l0 x = some o) : zv_V (fX1_exchange d x0 o) 0 [(0, .ref l0)] [] x := by
  unfold mX1_exchange_0 at h
  refine zv_aload_n (n := 0) dX1_exchange_0 rfl rfl ?_
  refine zr_gR dX1_exchange_1 fg_348 h (fun v1 e2 h => ?_)
  refine zv_aload_n (n := 0) dX1_exchange_4 rfl rfl ?_
  refine zr_gI dX1_exchange_5 fg_350 h (fun v3 e4 h => ?_)
  refine zv_iconst (v := 1) dX1_exchange_8 (by decide) ?_
  refine zv_isub dX1_exchange_9 ?_
  refine zr_aL dX1_exchange_10 h (fun v5 e6 h => ?_)
  refine zv_lstore_n (L' := [(1, .long v5), (0, .ref l0)]) dX1_exchange_11 rfl (Nat.le_of_ble_eq_true rfl) rfl ?_
  refine zv_aload_n (n := 1) dX1_exchange_12 rfl rfl ?_
  refine zr_gR dX1_exchange_13 fg_349 h (fun v7 e8 h => ?_)
  refine zv_aload_n (n := 1) dX1_exchange_16 rfl rfl ?_
  refine zr_gI dX1_exchange_17 fg_350 h (fun v9 e10 h => ?_)
  refine zv_iconst (v := 1) dX1_exchange_20 (by decide) ?_
  refine zv_isub dX1_exchange_21 ?_
  refine zr_aI dX1_exchange_22 h (fun v11 e12 h => ?_)
  refine zv_istore_n (L' := [(3, .int v11), (1, .long v5), (0, .ref l0)]) dX1_exchange_23 rfl (Nat.le_of_ble_eq_true rfl) rfl ?_
  refine zv_aload_n (n := 2) dX1_exchange_24 rfl rfl ?_
  refine zv_aload_n (n := 2) dX1_exchange_25 rfl rfl ?_
  refine zv_aload_n (n := 2) dX1_exchange_26 rfl rfl ?_
  refine zr_gI dX1_exchange_27 fg_350 h (fun v13 e14 h => ?_)
  refine zv_iconst (v := 2) dX1_exchange_30 (by decide) ?_
  refine zv_isub dX1_exchange_31 ?_
  refine zv_aload_n (n := 2) dX1_exchange_32 rfl rfl ?_
  refine zr_gI dX1_exchange_33 fg_350 h (fun v15 e16 h => ?_)
  refine zv_iconst (v := 1) dX1_exchange_36 (by decide) ?_
  refine zv_isub dX1_exchange_37 ?_
  refine zr_cVv (ci := 1) (st := []) dX1_exchange_38 mw_X1_copySlot wd_1143 wd_1145 wd_23 rfl rfl [.ref l0, .int (v13 - (2 : Int32)), .int (v15 - (1 : Int32))] rfl rfl (Nat.le_of_ble_eq_true rfl) (show d - 1 + 1 ≤ d by omega) h (fun o17 e18 => tX1_copySlot (d := d - 1) (by omega) e18) (fun o17 e18 h => ?_)
  refine zv_aload_n (n := 2) dX1_exchange_41 rfl rfl ?_
  refine zr_gR dX1_exchange_42 fg_348 h (fun v19 e20 h => ?_)
  refine zv_aload_n (n := 2) dX1_exchange_45 rfl rfl ?_
  refine zr_gI dX1_exchange_46 fg_350 h (fun v21 e22 h => ?_)
  refine zv_iconst (v := 2) dX1_exchange_49 (by decide) ?_
  refine zv_isub dX1_exchange_50 ?_
  refine zv_lload_n (n := 1) dX1_exchange_51 rfl rfl ?_
  refine zr_sL dX1_exchange_52 h (fun x23 e24 h => ?_)
  refine zv_aload_n (n := 2) dX1_exchange_53 rfl rfl ?_
  refine zr_gR dX1_exchange_54 fg_349 h (fun v25 e26 h => ?_)
  refine zv_aload_n (n := 2) dX1_exchange_57 rfl rfl ?_
  refine zr_gI dX1_exchange_58 fg_350 h (fun v27 e28 h => ?_)
  refine zv_iconst (v := 2) dX1_exchange_61 (by decide) ?_
  refine zv_isub dX1_exchange_62 ?_
  refine zv_iload_n (n := 0) dX1_exchange_63 rfl rfl ?_
  refine zr_sI dX1_exchange_64 h (fun x29 e30 h => ?_)
  cases h
  exact zv_vret dX1_exchange_65 rfl
def mX1_exchange (N : Nat) (a0 : Nat) (x : zv_X) : Option zv_X := mX1_exchange_0 N a0 x
theorem tX1_exchange {d : Nat} (hd : 1 ≤ d) {N : Nat} {x : zv_X} {a0 : Nat} {o : zv_X} (h : mX1_exchange N a0 x = some o) : zv_T d yX1_exchange cX1_exchange 4 (none) [.ref a0] x o none := by
  unfold mX1_exchange at h
  exact zv_enter (by decide) (Nat.le_of_ble_eq_true rfl) (kX1_exchange_0 hd _ _ h)

abbrev fX4_shuffle (d : Nat) (x0 : zv_X) (o : (zv_X × Int32)) : zv_G := (d, RX4, cX4_shuffle, 2, (some .int), ("shuffle", []), x0, o.1, zv_fin x0 o.1 (some (.int o.2)))
def mX4_shuffle_56 (N : Nat) (l0 : Nat) (x : zv_X) : Option (zv_X × Int32) := if zm_k x l0 4 = true then ((mX4_goOn N l0 (1 : Int32) x).bind fun o1 => some (o1.1, o1.2)) else none
theorem kX4_shuffle_56 {d : Nat} {x0 : zv_X} {o : (zv_X × Int32)} (hd : 2 ≤ d) {N : Nat} (l0 : Nat) (x : zv_X) (h : mX4_shuffle_56 N l0 x = some o) : zv_V (fX4_shuffle d x0 o) 56 [(0, .ref l0)] [] x := by
  unfold mX4_shuffle_56 at h
  refine zv_aload_n (n := 0) dX4_shuffle_56 rfl rfl ?_
  refine zv_iconst (v := 1) dX4_shuffle_57 (by decide) ?_
  refine zr_cVi (ci := 4) (st := []) dX4_shuffle_58 mw_X4_goOn wd_1117 wd_1119 wd_22 rfl rfl [.int (1 : Int32)] rfl rfl (Nat.le_of_ble_eq_true rfl) (show d - 1 + 1 ≤ d by omega) h (fun o1 e2 => tX4_goOn (d := d - 1) (by omega) e2) (fun o1 e2 h => ?_)
  cases h
  exact zv_iret dX4_shuffle_61 rfl
def mX4_shuffle_0 (N : Nat) (l0 : Nat) (l1 : Int32) (x : zv_X) : Option (zv_X × Int32) := if l1 = (89 : Int32) then ((zm_R x l0 4 5).bind fun v1 => if zm_k x v1 1 = true then ((mX1_duplicate N v1 x).bind fun o3 => mX4_shuffle_56 N l0 o3) else none) else if l1 = (95 : Int32) then ((zm_R x l0 4 5).bind fun v6 => if zm_k x v6 1 = true then ((mX1_exchange N v6 x).bind fun o8 => mX4_shuffle_56 N l0 o8) else none) else ((zm_R x l0 4 5).bind fun v11 => if zm_k x v11 1 = true then ((mX1_drop N v11 (1 : Int32) x).bind fun o13 => mX4_shuffle_56 N l0 o13) else none)
theorem kX4_shuffle_0 {d : Nat} {x0 : zv_X} {o : (zv_X × Int32)} (hd : 2 ≤ d) {N : Nat} (l0 : Nat) (l1 : Int32) (x : zv_X) (h : mX4_shuffle_0 N l0 l1 x = some o) : zv_V (fX4_shuffle d x0 o) 0 [(0, .ref l0), (1, .int l1)] [] x := by
  unfold mX4_shuffle_0 at h
  refine zv_iload_n (n := 1) dX4_shuffle_0 rfl rfl ?_
  rcases zif h with ⟨c5, h⟩ | ⟨c5, h⟩
  · refine zr_lookIn (tgt := 28) (off := 27) c5 dX4_shuffle_1 (by decide) (by decide) (by decide) ?_
    refine zv_aload_n (n := 0) dX4_shuffle_28 rfl rfl ?_
    refine zr_gR dX4_shuffle_29 fg_371 h (fun v1 e2 h => ?_)
    refine zr_cVv (ci := 1) (st := []) dX4_shuffle_32 mw_X1_duplicate wd_1209 wd_1210 wd_1211 rfl rfl [] rfl rfl (Nat.le_of_ble_eq_true rfl) (show d - 1 + 1 ≤ d by omega) h (fun o3 e4 => tX1_duplicate (d := d - 1) (by omega) e4) (fun o3 e4 h => ?_)
    refine zv_goto (tgt := 56) dX4_shuffle_35 (by decide) ?_
    exact zv_fewer [0] rfl (kX4_shuffle_56 hd _ _ h)
  rcases zif h with ⟨c10, h⟩ | ⟨c10, h⟩
  · refine zr_lookIn (tgt := 38) (off := 37) c10 dX4_shuffle_1 (by decide) (by decide) (by decide) ?_
    refine zv_aload_n (n := 0) dX4_shuffle_38 rfl rfl ?_
    refine zr_gR dX4_shuffle_39 fg_371 h (fun v6 e7 h => ?_)
    refine zr_cVv (ci := 1) (st := []) dX4_shuffle_42 mw_X1_exchange wd_1213 wd_1214 wd_1215 rfl rfl [] rfl rfl (Nat.le_of_ble_eq_true rfl) (show d - 1 + 1 ≤ d by omega) h (fun o8 e9 => tX1_exchange (d := d - 1) (by omega) e9) (fun o8 e9 h => ?_)
    refine zv_goto (tgt := 56) dX4_shuffle_45 (by decide) ?_
    exact zv_fewer [0] rfl (kX4_shuffle_56 hd _ _ h)
  refine zv_lookup (tgt := 48) (off := 47) dX4_shuffle_1 (by decide) (by show Op.lookupswitch.offset [((89 : Int), (27 : Int)), ((95 : Int), (37 : Int))] 47 _ = _; rw [lv_osw c5 (show (89 : Int32).toInt = 89 by decide), lv_osw c10 (show (95 : Int32).toInt = 95 by decide)]; rfl) (by decide) ?_
  refine zv_aload_n (n := 0) dX4_shuffle_48 rfl rfl ?_
  refine zr_gR dX4_shuffle_49 fg_371 h (fun v11 e12 h => ?_)
  refine zv_iconst (v := 1) dX4_shuffle_52 (by decide) ?_
  refine zr_cVv (ci := 1) (st := []) dX4_shuffle_53 mw_X1_drop wd_1180 wd_1181 wd_1182 rfl rfl [.int (1 : Int32)] rfl rfl (Nat.le_of_ble_eq_true rfl) (show d - 1 + 1 ≤ d by omega) h (fun o13 e14 => tX1_drop (d := d - 1) (by omega) e14) (fun o13 e14 h => ?_)
  exact zv_fewer [0] rfl (kX4_shuffle_56 hd _ _ h)
def mX4_shuffle (N : Nat) (a0 : Nat) (a1 : Int32) (x : zv_X) : Option (zv_X × Int32) := mX4_shuffle_0 N a0 a1 x
theorem tX4_shuffle {d : Nat} (hd : 2 ≤ d) {N : Nat} {x : zv_X} {a0 : Nat} {a1 : Int32} {o : (zv_X × Int32)} (h : mX4_shuffle N a0 a1 x = some o) : zv_T d yX4_shuffle cX4_shuffle 2 ((some .int)) [.ref a0, .int a1] x o.1 (some (.int o.2)) := by
  unfold mX4_shuffle at h
  exact zv_enter (by decide) (Nat.le_of_ble_eq_true rfl) (kX4_shuffle_0 hd _ _ _ h)

abbrev fX2_setBits (d : Nat) (x0 : zv_X) (o : zv_X) : zv_G := (d, RX2, cX2_setBits, 5, none, ("setBits", []), x0, o, zv_fin x0 o none)
def mX2_setBits_0 (N : Nat) (l0 : Nat) (l1 : Int32) (l2 : Int32) (l3 : Int32) (l4 : Int32) (x : zv_X) : Option zv_X := (zm_R x l0 2 1).bind fun v1 => (zm_R x l0 2 1).bind fun v3 => (zm_aI x v3 l1).bind fun v5 => (zm_sI x v1 l1 ((v5 &&& ((l3 <<< (l2 &&& 31)) ^^^ (-1 : Int32))) ||| ((l4 &&& l3) <<< (l2 &&& 31)))).bind fun x7 => some x7
theorem kX2_setBits_0 {d : Nat} {x0 : zv_X} {o : zv_X} (hd : 0 ≤ d) {N : Nat} (l0 : Nat) (l1 : Int32) (l2 : Int32) (l3 : Int32) (l4 : Int32) (x : zv_X) (h : mX2_setBits_0 N l0 l1 l2 l3 l4 x = some o) : zv_V (fX2_setBits d x0 o) 0 [(0, .ref l0), (1, .int l1), (2, .int l2), (3, .int l3), (4, .int l4)] [] x := by
  unfold mX2_setBits_0 at h
  refine zv_aload_n (n := 0) dX2_setBits_0 rfl rfl ?_
  refine zr_gR dX2_setBits_1 fg_268 h (fun v1 e2 h => ?_)
  refine zv_iload_n (n := 1) dX2_setBits_4 rfl rfl ?_
  refine zv_aload_n (n := 0) dX2_setBits_5 rfl rfl ?_
  refine zr_gR dX2_setBits_6 fg_268 h (fun v3 e4 h => ?_)
  refine zv_iload_n (n := 1) dX2_setBits_9 rfl rfl ?_
  refine zr_aI dX2_setBits_10 h (fun v5 e6 h => ?_)
  refine zv_iload_n (n := 3) dX2_setBits_11 rfl rfl ?_
  refine zv_iload_n (n := 2) dX2_setBits_12 rfl rfl ?_
  refine zv_ishl dX2_setBits_13 ?_
  refine zv_iconst (v := -1) dX2_setBits_14 (by decide) ?_
  refine zv_ixor dX2_setBits_15 ?_
  refine zv_iand dX2_setBits_16 ?_
  refine zv_iload (n := 4) dX2_setBits_17 rfl ?_
  refine zv_iload_n (n := 3) dX2_setBits_19 rfl rfl ?_
  refine zv_iand dX2_setBits_20 ?_
  refine zv_iload_n (n := 2) dX2_setBits_21 rfl rfl ?_
  refine zv_ishl dX2_setBits_22 ?_
  refine zv_ior dX2_setBits_23 ?_
  refine zr_sI dX2_setBits_24 h (fun x7 e8 h => ?_)
  cases h
  exact zv_vret dX2_setBits_25 rfl
def mX2_setBits (N : Nat) (a0 : Nat) (a1 : Int32) (a2 : Int32) (a3 : Int32) (a4 : Int32) (x : zv_X) : Option zv_X := mX2_setBits_0 N a0 a1 a2 a3 a4 x
theorem tX2_setBits {d : Nat} (hd : 0 ≤ d) {N : Nat} {x : zv_X} {a0 : Nat} {a1 : Int32} {a2 : Int32} {a3 : Int32} {a4 : Int32} {o : zv_X} (h : mX2_setBits N a0 a1 a2 a3 a4 x = some o) : zv_T d yX2_setBits cX2_setBits 5 (none) [.ref a0, .int a1, .int a2, .int a3, .int a4] x o none := by
  unfold mX2_setBits at h
  exact zv_enter (by decide) (Nat.le_of_ble_eq_true rfl) (kX2_setBits_0 hd _ _ _ _ _ _ h)

abbrev fX2_setElement (d : Nat) (x0 : zv_X) (o : zv_X) : zv_G := (d, RX2, cX2_setElement, 6, none, ("setElement", []), x0, o, zv_fin x0 o none)
def mX2_setElement_182 (N : Nat)  (x : zv_X) : Option zv_X := some x
theorem kX2_setElement_182 {d : Nat} {x0 : zv_X} {o : zv_X} (hd : 1 ≤ d) {N : Nat}  (x : zv_X) (h : mX2_setElement_182 N  x = some o) : zv_V (fX2_setElement d x0 o) 182 [] [] x := by
  unfold mX2_setElement_182 at h
  cases h
  exact zv_vret dX2_setElement_182 rfl
def mX2_setElement_114 (N : Nat) (l0 : Nat) (l2 : Int32) (l3 : Int64) (l5 : Int32) (x : zv_X) : Option zv_X := if zm_k x l0 2 = true then ((mX2_setBits N l0 (l5 + (l2 / (2 : Int32))) ((l2 - l2 / (2 : Int32) * (2 : Int32)) * (16 : Int32)) (65535 : Int32) (Int64.toInt32 l3) x).bind fun o1 => mX2_setElement_182 N o1) else none
theorem kX2_setElement_114 {d : Nat} {x0 : zv_X} {o : zv_X} (hd : 1 ≤ d) {N : Nat} (l0 : Nat) (l2 : Int32) (l3 : Int64) (l5 : Int32) (x : zv_X) (h : mX2_setElement_114 N l0 l2 l3 l5 x = some o) : zv_V (fX2_setElement d x0 o) 114 [(0, .ref l0), (2, .int l2), (3, .long l3), (5, .int l5)] [] x := by
  unfold mX2_setElement_114 at h
  refine zv_aload_n (n := 0) dX2_setElement_114 rfl rfl ?_
  refine zv_iload (n := 3) dX2_setElement_115 rfl ?_
  refine zv_iload_n (n := 1) dX2_setElement_117 rfl rfl ?_
  refine zv_iconst (v := 2) dX2_setElement_118 (by decide) ?_
  refine zv_idiv dX2_setElement_119 (by decide) ?_
  refine zv_iadd dX2_setElement_120 ?_
  refine zv_iload_n (n := 1) dX2_setElement_121 rfl rfl ?_
  refine zv_iconst (v := 2) dX2_setElement_122 (by decide) ?_
  refine zv_irem dX2_setElement_123 (by decide) ?_
  refine zv_bipush (v := 16) dX2_setElement_124 (by decide) ?_
  refine zv_imul dX2_setElement_126 ?_
  refine zv_ldc dX2_setElement_127 wd_1204 ?_
  refine zv_lload_n (n := 2) dX2_setElement_129 rfl rfl ?_
  refine zv_l2i dX2_setElement_130 ?_
  refine zr_cVv (ci := 2) (st := []) dX2_setElement_131 mw_X2_setBits wd_1200 wd_1202 wd_28 rfl rfl [.int (l5 + (l2 / (2 : Int32))), .int ((l2 - l2 / (2 : Int32) * (2 : Int32)) * (16 : Int32)), .int (65535 : Int32), .int (Int64.toInt32 l3)] rfl rfl (Nat.le_of_ble_eq_true rfl) (show d - 1 + 1 ≤ d by omega) h (fun o1 e2 => tX2_setBits (d := d - 1) (by omega) e2) (fun o1 e2 h => ?_)
  refine zv_goto (tgt := 182) dX2_setElement_134 (by decide) ?_
  exact zv_fewer [] rfl (kX2_setElement_182 hd _ h)
def mX2_setElement_171 (N : Nat) (l0 : Nat) (l2 : Int32) (l3 : Int64) (l5 : Int32) (x : zv_X) : Option zv_X := (zm_R x l0 2 1).bind fun v1 => (zm_sI x v1 (l5 + l2) (Int64.toInt32 l3)).bind fun x3 => mX2_setElement_182 N x3
theorem kX2_setElement_171 {d : Nat} {x0 : zv_X} {o : zv_X} (hd : 1 ≤ d) {N : Nat} (l0 : Nat) (l2 : Int32) (l3 : Int64) (l5 : Int32) (x : zv_X) (h : mX2_setElement_171 N l0 l2 l3 l5 x = some o) : zv_V (fX2_setElement d x0 o) 171 [(0, .ref l0), (2, .int l2), (3, .long l3), (5, .int l5)] [] x := by
  unfold mX2_setElement_171 at h
  refine zv_aload_n (n := 0) dX2_setElement_171 rfl rfl ?_
  refine zr_gR dX2_setElement_172 fg_268 h (fun v1 e2 h => ?_)
  refine zv_iload (n := 3) dX2_setElement_175 rfl ?_
  refine zv_iload_n (n := 1) dX2_setElement_177 rfl rfl ?_
  refine zv_iadd dX2_setElement_178 ?_
  refine zv_lload_n (n := 2) dX2_setElement_179 rfl rfl ?_
  refine zv_l2i dX2_setElement_180 ?_
  refine zr_sI dX2_setElement_181 h (fun x3 e4 h => ?_)
  exact zv_fewer [] rfl (kX2_setElement_182 hd _ h)
def mX2_setElement_0 (N : Nat) (l0 : Nat) (l1 : Int32) (l2 : Int32) (l3 : Int64) (x : zv_X) : Option zv_X := (zm_R x l0 2 2).bind fun v1 => (zm_aI x v1 l1).bind fun v3 => if zm_k x l0 2 = true then ((mX2_tag N l0 l1 x).bind fun o5 => if (-o5.2) = (4 : Int32) then (if zm_k o5.1 l0 2 = true then ((mX2_setBits N l0 ((v3 + (2 : Int32)) + (l2 / (4 : Int32))) ((l2 - l2 / (4 : Int32) * (4 : Int32)) * (8 : Int32)) (255 : Int32) ((Int64.toInt32 l3) &&& (1 : Int32)) o5.1).bind fun o7 => mX2_setElement_182 N o7) else none) else if (-o5.2) = (5 : Int32) then (mX2_setElement_114 N l0 l2 l3 (v3 + (2 : Int32)) o5.1) else if (-o5.2) = (6 : Int32) then (mX2_setElement_171 N l0 l2 l3 (v3 + (2 : Int32)) o5.1) else if (-o5.2) = (7 : Int32) then (mX2_setElement_171 N l0 l2 l3 (v3 + (2 : Int32)) o5.1) else if (-o5.2) = (8 : Int32) then (if zm_k o5.1 l0 2 = true then ((mX2_setBits N l0 ((v3 + (2 : Int32)) + (l2 / (4 : Int32))) ((l2 - l2 / (4 : Int32) * (4 : Int32)) * (8 : Int32)) (255 : Int32) (Int64.toInt32 l3) o5.1).bind fun o13 => mX2_setElement_182 N o13) else none) else if (-o5.2) = (9 : Int32) then (mX2_setElement_114 N l0 l2 l3 (v3 + (2 : Int32)) o5.1) else if (-o5.2) = (10 : Int32) then (mX2_setElement_171 N l0 l2 l3 (v3 + (2 : Int32)) o5.1) else if (-o5.2) = (11 : Int32) then ((zm_R o5.1 l0 2 1).bind fun v18 => (zm_sI o5.1 v18 ((v3 + (2 : Int32)) + ((2 : Int32) * l2)) (Int64.toInt32 (l3 >>> (Int32.toInt64 (32 : Int32) &&& 63)))).bind fun x20 => (zm_R x20 l0 2 1).bind fun v22 => (zm_sI x20 v22 (((v3 + (2 : Int32)) + ((2 : Int32) * l2)) + (1 : Int32)) (Int64.toInt32 l3)).bind fun x24 => mX2_setElement_182 N x24) else (mX2_setElement_171 N l0 l2 l3 (v3 + (2 : Int32)) o5.1)) else none
theorem kX2_setElement_0 {d : Nat} {x0 : zv_X} {o : zv_X} (hd : 1 ≤ d) {N : Nat} (l0 : Nat) (l1 : Int32) (l2 : Int32) (l3 : Int64) (x : zv_X) (h : mX2_setElement_0 N l0 l1 l2 l3 x = some o) : zv_V (fX2_setElement d x0 o) 0 [(0, .ref l0), (1, .int l1), (2, .int l2), (3, .long l3)] [] x := by
  unfold mX2_setElement_0 at h
  refine zv_aload_n (n := 0) dX2_setElement_0 rfl rfl ?_
  refine zr_gR dX2_setElement_1 fg_269 h (fun v1 e2 h => ?_)
  refine zv_iload_n (n := 1) dX2_setElement_4 rfl rfl ?_
  refine zr_aI dX2_setElement_5 h (fun v3 e4 h => ?_)
  refine zv_iconst (v := 2) dX2_setElement_6 (by decide) ?_
  refine zv_iadd dX2_setElement_7 ?_
  refine zv_istore (L' := [(5, .int (v3 + (2 : Int32))), (0, .ref l0), (1, .int l1), (2, .int l2), (3, .long l3)]) dX2_setElement_8 (Nat.le_of_ble_eq_true rfl) rfl ?_
  refine zv_aload_n (n := 1) dX2_setElement_10 rfl rfl ?_
  refine zv_iload_n (n := 2) dX2_setElement_11 rfl rfl ?_
  refine zr_cVi (ci := 2) (st := []) dX2_setElement_12 mw_X2_tag wd_1178 wd_1164 wd_1165 rfl rfl [.int l1] rfl rfl (Nat.le_of_ble_eq_true rfl) (show d - 1 + 1 ≤ d by omega) h (fun o5 e6 => tX2_tag (d := d - 1) (by omega) e6) (fun o5 e6 h => ?_)
  refine zv_ineg dX2_setElement_15 ?_
  rcases zif h with ⟨c9, h⟩ | ⟨c9, h⟩
  · refine zr_tabIn (tgt := 64) (off := 48) c9 dX2_setElement_16 (by decide) (by decide) (by decide) (by decide) ?_
    refine zv_aload_n (n := 1) dX2_setElement_64 rfl rfl ?_
    refine zv_iload (n := 0) dX2_setElement_65 rfl ?_
    refine zv_iload_n (n := 3) dX2_setElement_67 rfl rfl ?_
    refine zv_iconst (v := 4) dX2_setElement_68 (by decide) ?_
    refine zv_idiv dX2_setElement_69 (by decide) ?_
    refine zv_iadd dX2_setElement_70 ?_
    refine zv_iload_n (n := 3) dX2_setElement_71 rfl rfl ?_
    refine zv_iconst (v := 4) dX2_setElement_72 (by decide) ?_
    refine zv_irem dX2_setElement_73 (by decide) ?_
    refine zv_bipush (v := 8) dX2_setElement_74 (by decide) ?_
    refine zv_imul dX2_setElement_76 ?_
    refine zv_sipush (v := 255) dX2_setElement_77 (by decide) ?_
    refine zv_lload_n (n := 4) dX2_setElement_80 rfl rfl ?_
    refine zv_l2i dX2_setElement_81 ?_
    refine zv_iconst (v := 1) dX2_setElement_82 (by decide) ?_
    refine zv_iand dX2_setElement_83 ?_
    refine zr_cVv (ci := 2) (st := []) dX2_setElement_84 mw_X2_setBits wd_1200 wd_1202 wd_28 rfl rfl [.int ((v3 + (2 : Int32)) + (l2 / (4 : Int32))), .int ((l2 - l2 / (4 : Int32) * (4 : Int32)) * (8 : Int32)), .int (255 : Int32), .int ((Int64.toInt32 l3) &&& (1 : Int32))] rfl rfl (Nat.le_of_ble_eq_true rfl) (show d - 1 + 1 ≤ d by omega) h (fun o7 e8 => tX2_setBits (d := d - 1) (by omega) e8) (fun o7 e8 h => ?_)
    refine zv_goto (tgt := 182) dX2_setElement_87 (by decide) ?_
    exact zv_fewer [] rfl (kX2_setElement_182 hd _ h)
  rcases zif h with ⟨c10, h⟩ | ⟨c10, h⟩
  · refine zr_tabIn (tgt := 114) (off := 98) c10 dX2_setElement_16 (by decide) (by decide) (by decide) (by decide) ?_
    exact zv_fewer [1, 3, 4, 0] rfl (kX2_setElement_114 hd _ _ _ _ _ h)
  rcases zif h with ⟨c11, h⟩ | ⟨c11, h⟩
  · refine zr_tabIn (tgt := 171) (off := 155) c11 dX2_setElement_16 (by decide) (by decide) (by decide) (by decide) ?_
    exact zv_fewer [1, 3, 4, 0] rfl (kX2_setElement_171 hd _ _ _ _ _ h)
  rcases zif h with ⟨c12, h⟩ | ⟨c12, h⟩
  · refine zr_tabIn (tgt := 171) (off := 155) c12 dX2_setElement_16 (by decide) (by decide) (by decide) (by decide) ?_
    exact zv_fewer [1, 3, 4, 0] rfl (kX2_setElement_171 hd _ _ _ _ _ h)
  rcases zif h with ⟨c15, h⟩ | ⟨c15, h⟩
  · refine zr_tabIn (tgt := 90) (off := 74) c15 dX2_setElement_16 (by decide) (by decide) (by decide) (by decide) ?_
    refine zv_aload_n (n := 1) dX2_setElement_90 rfl rfl ?_
    refine zv_iload (n := 0) dX2_setElement_91 rfl ?_
    refine zv_iload_n (n := 3) dX2_setElement_93 rfl rfl ?_
    refine zv_iconst (v := 4) dX2_setElement_94 (by decide) ?_
    refine zv_idiv dX2_setElement_95 (by decide) ?_
    refine zv_iadd dX2_setElement_96 ?_
    refine zv_iload_n (n := 3) dX2_setElement_97 rfl rfl ?_
    refine zv_iconst (v := 4) dX2_setElement_98 (by decide) ?_
    refine zv_irem dX2_setElement_99 (by decide) ?_
    refine zv_bipush (v := 8) dX2_setElement_100 (by decide) ?_
    refine zv_imul dX2_setElement_102 ?_
    refine zv_sipush (v := 255) dX2_setElement_103 (by decide) ?_
    refine zv_lload_n (n := 4) dX2_setElement_106 rfl rfl ?_
    refine zv_l2i dX2_setElement_107 ?_
    refine zr_cVv (ci := 2) (st := []) dX2_setElement_108 mw_X2_setBits wd_1200 wd_1202 wd_28 rfl rfl [.int ((v3 + (2 : Int32)) + (l2 / (4 : Int32))), .int ((l2 - l2 / (4 : Int32) * (4 : Int32)) * (8 : Int32)), .int (255 : Int32), .int (Int64.toInt32 l3)] rfl rfl (Nat.le_of_ble_eq_true rfl) (show d - 1 + 1 ≤ d by omega) h (fun o13 e14 => tX2_setBits (d := d - 1) (by omega) e14) (fun o13 e14 h => ?_)
    refine zv_goto (tgt := 182) dX2_setElement_111 (by decide) ?_
    exact zv_fewer [] rfl (kX2_setElement_182 hd _ h)
  rcases zif h with ⟨c16, h⟩ | ⟨c16, h⟩
  · refine zr_tabIn (tgt := 114) (off := 98) c16 dX2_setElement_16 (by decide) (by decide) (by decide) (by decide) ?_
    exact zv_fewer [1, 3, 4, 0] rfl (kX2_setElement_114 hd _ _ _ _ _ h)
  rcases zif h with ⟨c17, h⟩ | ⟨c17, h⟩
  · refine zr_tabIn (tgt := 171) (off := 155) c17 dX2_setElement_16 (by decide) (by decide) (by decide) (by decide) ?_
    exact zv_fewer [1, 3, 4, 0] rfl (kX2_setElement_171 hd _ _ _ _ _ h)
  rcases zif h with ⟨c26, h⟩ | ⟨c26, h⟩
  · refine zr_tabIn (tgt := 137) (off := 121) c26 dX2_setElement_16 (by decide) (by decide) (by decide) (by decide) ?_
    refine zv_aload_n (n := 1) dX2_setElement_137 rfl rfl ?_
    refine zr_gR dX2_setElement_138 fg_268 h (fun v18 e19 h => ?_)
    refine zv_iload (n := 0) dX2_setElement_141 rfl ?_
    refine zv_iconst (v := 2) dX2_setElement_143 (by decide) ?_
    refine zv_iload_n (n := 3) dX2_setElement_144 rfl rfl ?_
    refine zv_imul dX2_setElement_145 ?_
    refine zv_iadd dX2_setElement_146 ?_
    refine zv_lload_n (n := 4) dX2_setElement_147 rfl rfl ?_
    refine zv_bipush (v := 32) dX2_setElement_148 (by decide) ?_
    refine zv_lshr dX2_setElement_150 ?_
    refine zv_l2i dX2_setElement_151 ?_
    refine zr_sI dX2_setElement_152 h (fun x20 e21 h => ?_)
    refine zv_aload_n (n := 1) dX2_setElement_153 rfl rfl ?_
    refine zr_gR dX2_setElement_154 fg_268 h (fun v22 e23 h => ?_)
    refine zv_iload (n := 0) dX2_setElement_157 rfl ?_
    refine zv_iconst (v := 2) dX2_setElement_159 (by decide) ?_
    refine zv_iload_n (n := 3) dX2_setElement_160 rfl rfl ?_
    refine zv_imul dX2_setElement_161 ?_
    refine zv_iadd dX2_setElement_162 ?_
    refine zv_iconst (v := 1) dX2_setElement_163 (by decide) ?_
    refine zv_iadd dX2_setElement_164 ?_
    refine zv_lload_n (n := 4) dX2_setElement_165 rfl rfl ?_
    refine zv_l2i dX2_setElement_166 ?_
    refine zr_sI dX2_setElement_167 h (fun x24 e25 h => ?_)
    refine zv_goto (tgt := 182) dX2_setElement_168 (by decide) ?_
    exact zv_fewer [] rfl (kX2_setElement_182 hd _ h)
  refine zv_tableOut (tgt := 171) dX2_setElement_16 (by have := lv_neT c9 (show (4 : Int32).toInt = 4 by decide); have := lv_neT c10 (show (5 : Int32).toInt = 5 by decide); have := lv_neT c11 (show (6 : Int32).toInt = 6 by decide); have := lv_neT c12 (show (7 : Int32).toInt = 7 by decide); have := lv_neT c15 (show (8 : Int32).toInt = 8 by decide); have := lv_neT c16 (show (9 : Int32).toInt = 9 by decide); have := lv_neT c17 (show (10 : Int32).toInt = 10 by decide); have := lv_neT c26 (show (11 : Int32).toInt = 11 by decide); omega) (by decide) ?_
  exact zv_fewer [1, 3, 4, 0] rfl (kX2_setElement_171 hd _ _ _ _ _ h)
def mX2_setElement (N : Nat) (a0 : Nat) (a1 : Int32) (a2 : Int32) (a3 : Int64) (x : zv_X) : Option zv_X := mX2_setElement_0 N a0 a1 a2 a3 x
theorem tX2_setElement {d : Nat} (hd : 1 ≤ d) {N : Nat} {x : zv_X} {a0 : Nat} {a1 : Int32} {a2 : Int32} {a3 : Int64} {o : zv_X} (h : mX2_setElement N a0 a1 a2 a3 x = some o) : zv_T d yX2_setElement cX2_setElement 6 (none) [.ref a0, .int a1, .int a2, .long a3] x o none := by
  unfold mX2_setElement at h
  exact zv_enter (by decide) (Nat.le_of_ble_eq_true rfl) (kX2_setElement_0 hd _ _ _ _ _ h)

abbrev fX4_storeElement (d : Nat) (x0 : zv_X) (o : (zv_X × Int32)) : zv_G := (d, RX4, cX4_storeElement, 5, (some .int), ("storeElement", []), x0, o.1, zv_fin x0 o.1 (some (.int o.2)))
def mX4_storeElement_71 (N : Nat) (l0 : Nat) (s0 : Int64) (s1 : Int32) (s2 : Int32) (s3 : Nat) (x : zv_X) : Option (zv_X × Int32) := if zm_k x s3 2 = true then ((mX2_setElement N s3 s2 s1 s0 x).bind fun o1 => (zm_R o1 l0 4 5).bind fun v3 => if zm_k o1 v3 1 = true then ((mX1_drop N v3 (3 : Int32) o1).bind fun o5 => if zm_k o5 l0 4 = true then ((mX4_goOn N l0 (1 : Int32) o5).bind fun o7 => some (o7.1, o7.2)) else none) else none) else none
theorem kX4_storeElement_71 {d : Nat} {x0 : zv_X} {o : (zv_X × Int32)} (hd : 2 ≤ d) {N : Nat} (l0 : Nat) (s0 : Int64) (s1 : Int32) (s2 : Int32) (s3 : Nat) (x : zv_X) (h : mX4_storeElement_71 N l0 s0 s1 s2 s3 x = some o) : zv_V (fX4_storeElement d x0 o) 71 [(0, .ref l0)] [.long s0, .int s1, .int s2, .ref s3] x := by
  unfold mX4_storeElement_71 at h
  refine zr_cVv (ci := 2) (st := []) dX4_storeElement_71 mw_X2_setElement wd_1196 wd_1197 wd_1198 rfl rfl [.int s2, .int s1, .long s0] rfl rfl (Nat.le_of_ble_eq_true rfl) (show d - 1 + 1 ≤ d by omega) h (fun o1 e2 => tX2_setElement (d := d - 1) (by omega) e2) (fun o1 e2 h => ?_)
  refine zv_aload_n (n := 0) dX4_storeElement_74 rfl rfl ?_
  refine zr_gR dX4_storeElement_75 fg_371 h (fun v3 e4 h => ?_)
  refine zv_iconst (v := 3) dX4_storeElement_78 (by decide) ?_
  refine zr_cVv (ci := 1) (st := []) dX4_storeElement_79 mw_X1_drop wd_1180 wd_1181 wd_1182 rfl rfl [.int (3 : Int32)] rfl rfl (Nat.le_of_ble_eq_true rfl) (show d - 1 + 1 ≤ d by omega) h (fun o5 e6 => tX1_drop (d := d - 1) (by omega) e6) (fun o5 e6 h => ?_)
  refine zv_aload_n (n := 0) dX4_storeElement_82 rfl rfl ?_
  refine zv_iconst (v := 1) dX4_storeElement_83 (by decide) ?_
  refine zr_cVi (ci := 4) (st := []) dX4_storeElement_84 mw_X4_goOn wd_1117 wd_1119 wd_22 rfl rfl [.int (1 : Int32)] rfl rfl (Nat.le_of_ble_eq_true rfl) (show d - 1 + 1 ≤ d by omega) h (fun o7 e8 => tX4_goOn (d := d - 1) (by omega) e8) (fun o7 e8 h => ?_)
  cases h
  exact zv_iret dX4_storeElement_87 rfl
def mX4_storeElement_0 (N : Nat) (l0 : Nat) (l1 : Int32) (x : zv_X) : Option (zv_X × Int32) := (zm_R x l0 4 5).bind fun v1 => if zm_k x v1 1 = true then ((mX1_reference N v1 (2 : Int32) x).bind fun o3 => (zm_R o3.1 l0 4 5).bind fun v5 => if zm_k o3.1 v5 1 = true then ((mX1_number N v5 (1 : Int32) o3.1).bind fun o7 => if zm_k o7.1 l0 4 = true then ((mX4_faultOfElement N l0 (l1 - (79 : Int32)) o3.2 (Int64.toInt32 o7.2) o7.1).bind fun o9 => if o9.2 = 0 then ((zm_R o9.1 l0 4 2).bind fun v11 => if l1 = (83 : Int32) then ((zm_R o9.1 l0 4 5).bind fun v17 => if zm_k o9.1 v17 1 = true then ((mX1_reference N v17 (0 : Int32) o9.1).bind fun o19 => mX4_storeElement_71 N l0 (Int32.toInt64 o19.2) (Int64.toInt32 o7.2) o3.2 v11 o19.1) else none) else ((zm_R o9.1 l0 4 5).bind fun v13 => if zm_k o9.1 v13 1 = true then ((mX1_number N v13 (0 : Int32) o9.1).bind fun o15 => mX4_storeElement_71 N l0 o15.2 (Int64.toInt32 o7.2) o3.2 v11 o15.1) else none)) else (some (o9.1, o9.2))) else none) else none) else none
theorem kX4_storeElement_0 {d : Nat} {x0 : zv_X} {o : (zv_X × Int32)} (hd : 2 ≤ d) {N : Nat} (l0 : Nat) (l1 : Int32) (x : zv_X) (h : mX4_storeElement_0 N l0 l1 x = some o) : zv_V (fX4_storeElement d x0 o) 0 [(0, .ref l0), (1, .int l1)] [] x := by
  unfold mX4_storeElement_0 at h
  refine zv_aload_n (n := 0) dX4_storeElement_0 rfl rfl ?_
  refine zr_gR dX4_storeElement_1 fg_371 h (fun v1 e2 h => ?_)
  refine zv_iconst (v := 2) dX4_storeElement_4 (by decide) ?_
  refine zr_cVi (ci := 1) (st := []) dX4_storeElement_5 mw_X1_reference wd_1151 wd_1152 wd_1153 rfl rfl [.int (2 : Int32)] rfl rfl (Nat.le_of_ble_eq_true rfl) (show d - 1 + 1 ≤ d by omega) h (fun o3 e4 => tX1_reference (d := d - 1) (by omega) e4) (fun o3 e4 h => ?_)
  refine zv_istore_n (L' := [(2, .int o3.2), (0, .ref l0), (1, .int l1)]) dX4_storeElement_8 rfl (Nat.le_of_ble_eq_true rfl) rfl ?_
  refine zv_aload_n (n := 1) dX4_storeElement_9 rfl rfl ?_
  refine zr_gR dX4_storeElement_10 fg_371 h (fun v5 e6 h => ?_)
  refine zv_iconst (v := 1) dX4_storeElement_13 (by decide) ?_
  refine zr_cVl (ci := 1) (st := []) dX4_storeElement_14 mw_X1_number wd_1155 wd_1156 wd_1157 rfl rfl [.int (1 : Int32)] rfl rfl (Nat.le_of_ble_eq_true rfl) (show d - 1 + 1 ≤ d by omega) h (fun o7 e8 => tX1_number (d := d - 1) (by omega) e8) (fun o7 e8 h => ?_)
  refine zv_l2i dX4_storeElement_17 ?_
  refine zv_istore_n (L' := [(3, .int (Int64.toInt32 o7.2)), (2, .int o3.2), (0, .ref l0), (1, .int l1)]) dX4_storeElement_18 rfl (Nat.le_of_ble_eq_true rfl) rfl ?_
  refine zv_aload_n (n := 2) dX4_storeElement_19 rfl rfl ?_
  refine zv_iload_n (n := 3) dX4_storeElement_20 rfl rfl ?_
  refine zv_bipush (v := 79) dX4_storeElement_21 (by decide) ?_
  refine zv_isub dX4_storeElement_23 ?_
  refine zv_iload_n (n := 1) dX4_storeElement_24 rfl rfl ?_
  refine zv_iload_n (n := 0) dX4_storeElement_25 rfl rfl ?_
  refine zr_cVi (ci := 4) (st := []) dX4_storeElement_26 mw_X4_faultOfElement wd_1159 wd_1161 wd_25 rfl rfl [.int (l1 - (79 : Int32)), .int o3.2, .int (Int64.toInt32 o7.2)] rfl rfl (Nat.le_of_ble_eq_true rfl) (show d - 1 + 1 ≤ d by omega) h (fun o9 e10 => tX4_faultOfElement (d := d - 1) (by omega) e10) (fun o9 e10 h => ?_)
  refine zv_istore (L' := [(4, .int o9.2), (3, .int (Int64.toInt32 o7.2)), (2, .int o3.2), (0, .ref l0), (1, .int l1)]) dX4_storeElement_29 (Nat.le_of_ble_eq_true rfl) rfl ?_
  refine zv_iload (n := 0) dX4_storeElement_31 rfl ?_
  refine zr_if_eq (tgt := 39) dX4_storeElement_33 (by decide) h (fun c22 h => ?_) (fun c22 h => ?_)
  · refine zv_aload_n (n := 3) dX4_storeElement_39 rfl rfl ?_
    refine zr_gR dX4_storeElement_40 fg_368 h (fun v11 e12 h => ?_)
    refine zv_iload_n (n := 2) dX4_storeElement_43 rfl rfl ?_
    refine zv_iload_n (n := 1) dX4_storeElement_44 rfl rfl ?_
    refine zv_iload_n (n := 4) dX4_storeElement_45 rfl rfl ?_
    refine zv_bipush (v := 83) dX4_storeElement_46 (by decide) ?_
    refine zr_icmp_ne (tgt := 63) dX4_storeElement_48 (by decide) h (fun c21 h => ?_) (fun c21 h => ?_)
    · refine zv_aload_n (n := 3) dX4_storeElement_63 rfl rfl ?_
      refine zr_gR dX4_storeElement_64 fg_371 h (fun v13 e14 h => ?_)
      refine zv_iconst (v := 0) dX4_storeElement_67 (by decide) ?_
      refine zr_cVl (ci := 1) (st := [.int (Int64.toInt32 o7.2), .int o3.2, .ref v11]) dX4_storeElement_68 mw_X1_number wd_1155 wd_1156 wd_1157 rfl rfl [.int (0 : Int32)] rfl rfl (Nat.le_of_ble_eq_true rfl) (show d - 1 + 1 ≤ d by omega) h (fun o15 e16 => tX1_number (d := d - 1) (by omega) e16) (fun o15 e16 h => ?_)
      exact zv_fewer [3] rfl (kX4_storeElement_71 hd _ _ _ _ _ _ h)
    · refine zv_aload_n (n := 3) dX4_storeElement_51 rfl rfl ?_
      refine zr_gR dX4_storeElement_52 fg_371 h (fun v17 e18 h => ?_)
      refine zv_iconst (v := 0) dX4_storeElement_55 (by decide) ?_
      refine zr_cVi (ci := 1) (st := [.int (Int64.toInt32 o7.2), .int o3.2, .ref v11]) dX4_storeElement_56 mw_X1_reference wd_1151 wd_1152 wd_1153 rfl rfl [.int (0 : Int32)] rfl rfl (Nat.le_of_ble_eq_true rfl) (show d - 1 + 1 ≤ d by omega) h (fun o19 e20 => tX1_reference (d := d - 1) (by omega) e20) (fun o19 e20 h => ?_)
      refine zv_i2l dX4_storeElement_59 ?_
      refine zv_goto (tgt := 71) dX4_storeElement_60 (by decide) ?_
      exact zv_fewer [3] rfl (kX4_storeElement_71 hd _ _ _ _ _ _ h)
  · refine zv_iload (n := 0) dX4_storeElement_36 rfl ?_
    cases h
    exact zv_iret dX4_storeElement_38 rfl
def mX4_storeElement (N : Nat) (a0 : Nat) (a1 : Int32) (x : zv_X) : Option (zv_X × Int32) := mX4_storeElement_0 N a0 a1 x
theorem tX4_storeElement {d : Nat} (hd : 2 ≤ d) {N : Nat} {x : zv_X} {a0 : Nat} {a1 : Int32} {o : (zv_X × Int32)} (h : mX4_storeElement N a0 a1 x = some o) : zv_T d yX4_storeElement cX4_storeElement 5 ((some .int)) [.ref a0, .int a1] x o.1 (some (.int o.2)) := by
  unfold mX4_storeElement at h
  exact zv_enter (by decide) (Nat.le_of_ble_eq_true rfl) (kX4_storeElement_0 hd _ _ _ h)

abbrev fX1_popLocal (d : Nat) (x0 : zv_X) (o : zv_X) : zv_G := (d, RX1, cX1_popLocal, 2, none, ("popLocal", []), x0, o, zv_fin x0 o none)
def mX1_popLocal_0 (N : Nat) (l0 : Nat) (l1 : Int32) (x : zv_X) : Option zv_X := (zm_I x l0 1 2).bind fun v1 => (zm_p x l0 1 2 (.int (v1 - (1 : Int32)))).bind fun x3 => (zm_I x3 l0 1 2).bind fun v5 => if zm_k x3 l0 1 = true then ((mX1_copySlot N l0 l0 v5 l1 x3).bind fun o7 => some o7) else none
theorem kX1_popLocal_0 {d : Nat} {x0 : zv_X} {o : zv_X} (hd : 1 ≤ d) {N : Nat} (l0 : Nat) (l1 : Int32) (x : zv_X) (h : mX1_popLocal_0 N l0 l1 x = some o) : zv_V (fX1_popLocal d x0 o) 0 [(0, .ref l0), (1, .int l1)] [] x := by
  unfold mX1_popLocal_0 at h
  refine zv_aload_n (n := 0) dX1_popLocal_0 rfl rfl ?_
  refine zv_dup dX1_popLocal_1 rfl ?_
  refine zr_gI dX1_popLocal_2 fg_350 h (fun v1 e2 h => ?_)
  refine zv_iconst (v := 1) dX1_popLocal_5 (by decide) ?_
  refine zv_isub dX1_popLocal_6 ?_
  refine zr_p dX1_popLocal_7 fl_350 (fun q => nomatch q) rfl rfl h (fun x3 e4 h => ?_)
  refine zv_aload_n (n := 0) dX1_popLocal_10 rfl rfl ?_
  refine zv_aload_n (n := 0) dX1_popLocal_11 rfl rfl ?_
  refine zv_aload_n (n := 0) dX1_popLocal_12 rfl rfl ?_
  refine zr_gI dX1_popLocal_13 fg_350 h (fun v5 e6 h => ?_)
  refine zv_iload_n (n := 1) dX1_popLocal_16 rfl rfl ?_
  refine zr_cVv (ci := 1) (st := []) dX1_popLocal_17 mw_X1_copySlot wd_1143 wd_1145 wd_23 rfl rfl [.ref l0, .int v5, .int l1] rfl rfl (Nat.le_of_ble_eq_true rfl) (show d - 1 + 1 ≤ d by omega) h (fun o7 e8 => tX1_copySlot (d := d - 1) (by omega) e8) (fun o7 e8 h => ?_)
  cases h
  exact zv_vret dX1_popLocal_20 rfl
def mX1_popLocal (N : Nat) (a0 : Nat) (a1 : Int32) (x : zv_X) : Option zv_X := mX1_popLocal_0 N a0 a1 x
theorem tX1_popLocal {d : Nat} (hd : 1 ≤ d) {N : Nat} {x : zv_X} {a0 : Nat} {a1 : Int32} {o : zv_X} (h : mX1_popLocal N a0 a1 x = some o) : zv_T d yX1_popLocal cX1_popLocal 2 (none) [.ref a0, .int a1] x o none := by
  unfold mX1_popLocal at h
  exact zv_enter (by decide) (Nat.le_of_ble_eq_true rfl) (kX1_popLocal_0 hd _ _ _ h)

abbrev fX4_storeLocal (d : Nat) (x0 : zv_X) (o : (zv_X × Int32)) : zv_G := (d, RX4, cX4_storeLocal, 1, (some .int), ("storeLocal", []), x0, o.1, zv_fin x0 o.1 (some (.int o.2)))
def mX4_storeLocal_0 (N : Nat) (l0 : Nat) (x : zv_X) : Option (zv_X × Int32) := (zm_R x l0 4 5).bind fun v1 => (zm_R x l0 4 5).bind fun v3 => if zm_k x v3 1 = true then ((mX1_operand N v3 (1 : Int32) x).bind fun o5 => if zm_k o5.1 v1 1 = true then ((mX1_popLocal N v1 o5.2 o5.1).bind fun o7 => if zm_k o7 l0 4 = true then ((mX4_goOn N l0 (2 : Int32) o7).bind fun o9 => some (o9.1, o9.2)) else none) else none) else none
theorem kX4_storeLocal_0 {d : Nat} {x0 : zv_X} {o : (zv_X × Int32)} (hd : 2 ≤ d) {N : Nat} (l0 : Nat) (x : zv_X) (h : mX4_storeLocal_0 N l0 x = some o) : zv_V (fX4_storeLocal d x0 o) 0 [(0, .ref l0)] [] x := by
  unfold mX4_storeLocal_0 at h
  refine zv_aload_n (n := 0) dX4_storeLocal_0 rfl rfl ?_
  refine zr_gR dX4_storeLocal_1 fg_371 h (fun v1 e2 h => ?_)
  refine zv_aload_n (n := 0) dX4_storeLocal_4 rfl rfl ?_
  refine zr_gR dX4_storeLocal_5 fg_371 h (fun v3 e4 h => ?_)
  refine zv_iconst (v := 1) dX4_storeLocal_8 (by decide) ?_
  refine zr_cVi (ci := 1) (st := [.ref v1]) dX4_storeLocal_9 mw_X1_operand wd_1130 wd_1131 wd_1132 rfl rfl [.int (1 : Int32)] rfl rfl (Nat.le_of_ble_eq_true rfl) (show d - 1 + 1 ≤ d by omega) h (fun o5 e6 => tX1_operand (d := d - 1) (by omega) e6) (fun o5 e6 h => ?_)
  refine zr_cVv (ci := 1) (st := []) dX4_storeLocal_12 mw_X1_popLocal wd_1188 wd_1189 wd_1190 rfl rfl [.int o5.2] rfl rfl (Nat.le_of_ble_eq_true rfl) (show d - 1 + 1 ≤ d by omega) h (fun o7 e8 => tX1_popLocal (d := d - 1) (by omega) e8) (fun o7 e8 h => ?_)
  refine zv_aload_n (n := 0) dX4_storeLocal_15 rfl rfl ?_
  refine zv_iconst (v := 2) dX4_storeLocal_16 (by decide) ?_
  refine zr_cVi (ci := 4) (st := []) dX4_storeLocal_17 mw_X4_goOn wd_1117 wd_1119 wd_22 rfl rfl [.int (2 : Int32)] rfl rfl (Nat.le_of_ble_eq_true rfl) (show d - 1 + 1 ≤ d by omega) h (fun o9 e10 => tX4_goOn (d := d - 1) (by omega) e10) (fun o9 e10 h => ?_)
  cases h
  exact zv_iret dX4_storeLocal_20 rfl
def mX4_storeLocal (N : Nat) (a0 : Nat) (x : zv_X) : Option (zv_X × Int32) := mX4_storeLocal_0 N a0 x
theorem tX4_storeLocal {d : Nat} (hd : 2 ≤ d) {N : Nat} {x : zv_X} {a0 : Nat} {o : (zv_X × Int32)} (h : mX4_storeLocal N a0 x = some o) : zv_T d yX4_storeLocal cX4_storeLocal 1 ((some .int)) [.ref a0] x o.1 (some (.int o.2)) := by
  unfold mX4_storeLocal at h
  exact zv_enter (by decide) (Nat.le_of_ble_eq_true rfl) (kX4_storeLocal_0 hd _ _ h)

abbrev fX2_isArray (d : Nat) (x0 : zv_X) (o : (zv_X × Int32)) : zv_G := (d, RX2, cX2_isArray, 2, (some .boolean), ("isArray", []), x0, o.1, zv_fin x0 o.1 (some (.int o.2)))
def mX2_isArray_13 (N : Nat) (s0 : Int32) (x : zv_X) : Option (zv_X × Int32) := if s0 = 0 ∨ s0 = 1 then some (x, s0) else none
theorem kX2_isArray_13 {d : Nat} {x0 : zv_X} {o : (zv_X × Int32)} (hd : 1 ≤ d) {N : Nat} (s0 : Int32) (x : zv_X) (h : mX2_isArray_13 N s0 x = some o) : zv_V (fX2_isArray d x0 o) 13 [] [.int s0] x := by
  unfold mX2_isArray_13 at h
  obtain ⟨hv, h⟩ := zg h
  cases h
  exact zv_zret dX2_isArray_13 rfl hv
def mX2_isArray_0 (N : Nat) (l0 : Nat) (l1 : Int32) (x : zv_X) : Option (zv_X × Int32) := if zm_k x l0 2 = true then ((mX2_tag N l0 l1 x).bind fun o1 => if 0 ≤ o1.2 then (mX2_isArray_13 N (0 : Int32) o1.1) else (mX2_isArray_13 N (1 : Int32) o1.1)) else none
theorem kX2_isArray_0 {d : Nat} {x0 : zv_X} {o : (zv_X × Int32)} (hd : 1 ≤ d) {N : Nat} (l0 : Nat) (l1 : Int32) (x : zv_X) (h : mX2_isArray_0 N l0 l1 x = some o) : zv_V (fX2_isArray d x0 o) 0 [(0, .ref l0), (1, .int l1)] [] x := by
  unfold mX2_isArray_0 at h
  refine zv_aload_n (n := 0) dX2_isArray_0 rfl rfl ?_
  refine zv_iload_n (n := 1) dX2_isArray_1 rfl rfl ?_
  refine zr_cVi (ci := 2) (st := []) dX2_isArray_2 mw_X2_tag wd_1178 wd_1164 wd_1165 rfl rfl [.int l1] rfl rfl (Nat.le_of_ble_eq_true rfl) (show d - 1 + 1 ≤ d by omega) h (fun o1 e2 => tX2_tag (d := d - 1) (by omega) e2) (fun o1 e2 h => ?_)
  refine zr_if_ge (tgt := 12) dX2_isArray_5 (by decide) h (fun c3 h => ?_) (fun c3 h => ?_)
  · refine zv_iconst (v := 0) dX2_isArray_12 (by decide) ?_
    exact zv_fewer [] rfl (kX2_isArray_13 hd _ _ h)
  · refine zv_iconst (v := 1) dX2_isArray_8 (by decide) ?_
    refine zv_goto (tgt := 13) dX2_isArray_9 (by decide) ?_
    exact zv_fewer [] rfl (kX2_isArray_13 hd _ _ h)
def mX2_isArray (N : Nat) (a0 : Nat) (a1 : Int32) (x : zv_X) : Option (zv_X × Int32) := mX2_isArray_0 N a0 a1 x
theorem tX2_isArray {d : Nat} (hd : 1 ≤ d) {N : Nat} {x : zv_X} {a0 : Nat} {a1 : Int32} {o : (zv_X × Int32)} (h : mX2_isArray N a0 a1 x = some o) : zv_T d yX2_isArray cX2_isArray 2 ((some .boolean)) [.ref a0, .int a1] x o.1 (some (.int o.2)) := by
  unfold mX2_isArray at h
  exact zv_enter (by decide) (Nat.le_of_ble_eq_true rfl) (kX2_isArray_0 hd _ _ _ h)

abbrev fX4_tellLength (d : Nat) (x0 : zv_X) (o : (zv_X × Int32)) : zv_G := (d, RX4, cX4_tellLength, 2, (some .int), ("tellLength", []), x0, o.1, zv_fin x0 o.1 (some (.int o.2)))
def mX4_tellLength_0 (N : Nat) (l0 : Nat) (x : zv_X) : Option (zv_X × Int32) := (zm_R x l0 4 5).bind fun v1 => if zm_k x v1 1 = true then ((mX1_reference N v1 (0 : Int32) x).bind fun o3 => if o3.2 = 0 then (some (o3.1, (2 : Int32))) else ((zm_R o3.1 l0 4 2).bind fun v5 => if zm_k o3.1 v5 2 = true then ((mX2_isArray N v5 o3.2 o3.1).bind fun o7 => if o7.2 = 0 then (some (o7.1, (5 : Int32))) else ((zm_R o7.1 l0 4 5).bind fun v9 => if zm_k o7.1 v9 1 = true then ((mX1_drop N v9 (1 : Int32) o7.1).bind fun o11 => (zm_R o11 l0 4 5).bind fun v13 => (zm_R o11 l0 4 2).bind fun v15 => if zm_k o11 v15 2 = true then ((mX2_length N v15 o3.2 o11).bind fun o17 => if zm_k o17.1 v13 1 = true then ((mX1_pushNumber N v13 (Int32.toInt64 o17.2) o17.1).bind fun o19 => if zm_k o19 l0 4 = true then ((mX4_goOn N l0 (1 : Int32) o19).bind fun o21 => some (o21.1, o21.2)) else none) else none) else none) else none)) else none)) else none
theorem kX4_tellLength_0 {d : Nat} {x0 : zv_X} {o : (zv_X × Int32)} (hd : 2 ≤ d) {N : Nat} (l0 : Nat) (x : zv_X) (h : mX4_tellLength_0 N l0 x = some o) : zv_V (fX4_tellLength d x0 o) 0 [(0, .ref l0)] [] x := by
  unfold mX4_tellLength_0 at h
  refine zv_aload_n (n := 0) dX4_tellLength_0 rfl rfl ?_
  refine zr_gR dX4_tellLength_1 fg_371 h (fun v1 e2 h => ?_)
  refine zv_iconst (v := 0) dX4_tellLength_4 (by decide) ?_
  refine zr_cVi (ci := 1) (st := []) dX4_tellLength_5 mw_X1_reference wd_1151 wd_1152 wd_1153 rfl rfl [.int (0 : Int32)] rfl rfl (Nat.le_of_ble_eq_true rfl) (show d - 1 + 1 ≤ d by omega) h (fun o3 e4 => tX1_reference (d := d - 1) (by omega) e4) (fun o3 e4 h => ?_)
  refine zv_istore_n (L' := [(1, .int o3.2), (0, .ref l0)]) dX4_tellLength_8 rfl (Nat.le_of_ble_eq_true rfl) rfl ?_
  refine zv_iload_n (n := 0) dX4_tellLength_9 rfl rfl ?_
  refine zr_if_ne (tgt := 15) dX4_tellLength_10 (by decide) h (fun c24 h => ?_) (fun c24 h => ?_)
  · refine zv_aload_n (n := 1) dX4_tellLength_15 rfl rfl ?_
    refine zr_gR dX4_tellLength_16 fg_368 h (fun v5 e6 h => ?_)
    refine zv_iload_n (n := 0) dX4_tellLength_19 rfl rfl ?_
    refine zr_cVi (ci := 2) (st := []) dX4_tellLength_20 mw_X2_isArray wd_1351 wd_1352 wd_1353 rfl rfl [.int o3.2] rfl rfl (Nat.le_of_ble_eq_true rfl) (show d - 1 + 1 ≤ d by omega) h (fun o7 e8 => tX2_isArray (d := d - 1) (by omega) e8) (fun o7 e8 h => ?_)
    refine zr_if_ne (tgt := 28) dX4_tellLength_23 (by decide) h (fun c23 h => ?_) (fun c23 h => ?_)
    · refine zv_aload_n (n := 1) dX4_tellLength_28 rfl rfl ?_
      refine zr_gR dX4_tellLength_29 fg_371 h (fun v9 e10 h => ?_)
      refine zv_iconst (v := 1) dX4_tellLength_32 (by decide) ?_
      refine zr_cVv (ci := 1) (st := []) dX4_tellLength_33 mw_X1_drop wd_1180 wd_1181 wd_1182 rfl rfl [.int (1 : Int32)] rfl rfl (Nat.le_of_ble_eq_true rfl) (show d - 1 + 1 ≤ d by omega) h (fun o11 e12 => tX1_drop (d := d - 1) (by omega) e12) (fun o11 e12 h => ?_)
      refine zv_aload_n (n := 1) dX4_tellLength_36 rfl rfl ?_
      refine zr_gR dX4_tellLength_37 fg_371 h (fun v13 e14 h => ?_)
      refine zv_aload_n (n := 1) dX4_tellLength_40 rfl rfl ?_
      refine zr_gR dX4_tellLength_41 fg_368 h (fun v15 e16 h => ?_)
      refine zv_iload_n (n := 0) dX4_tellLength_44 rfl rfl ?_
      refine zr_cVi (ci := 2) (st := [.ref v13]) dX4_tellLength_45 mw_X2_length wd_1170 wd_1171 wd_1172 rfl rfl [.int o3.2] rfl rfl (Nat.le_of_ble_eq_true rfl) (show d - 1 + 1 ≤ d by omega) h (fun o17 e18 => tX2_length (d := d - 1) (by omega) e18) (fun o17 e18 h => ?_)
      refine zv_i2l dX4_tellLength_48 ?_
      refine zr_cVv (ci := 1) (st := []) dX4_tellLength_49 mw_X1_pushNumber wd_1125 wd_1126 wd_1127 rfl rfl [.long (Int32.toInt64 o17.2)] rfl rfl (Nat.le_of_ble_eq_true rfl) (show d - 1 + 1 ≤ d by omega) h (fun o19 e20 => tX1_pushNumber (d := d - 1) (by omega) e20) (fun o19 e20 h => ?_)
      refine zv_aload_n (n := 1) dX4_tellLength_52 rfl rfl ?_
      refine zv_iconst (v := 1) dX4_tellLength_53 (by decide) ?_
      refine zr_cVi (ci := 4) (st := []) dX4_tellLength_54 mw_X4_goOn wd_1117 wd_1119 wd_22 rfl rfl [.int (1 : Int32)] rfl rfl (Nat.le_of_ble_eq_true rfl) (show d - 1 + 1 ≤ d by omega) h (fun o21 e22 => tX4_goOn (d := d - 1) (by omega) e22) (fun o21 e22 h => ?_)
      cases h
      exact zv_iret dX4_tellLength_57 rfl
    · refine zv_iconst (v := 5) dX4_tellLength_26 (by decide) ?_
      cases h
      exact zv_iret dX4_tellLength_27 rfl
  · refine zv_iconst (v := 2) dX4_tellLength_13 (by decide) ?_
    cases h
    exact zv_iret dX4_tellLength_14 rfl
def mX4_tellLength (N : Nat) (a0 : Nat) (x : zv_X) : Option (zv_X × Int32) := mX4_tellLength_0 N a0 x
theorem tX4_tellLength {d : Nat} (hd : 2 ≤ d) {N : Nat} {x : zv_X} {a0 : Nat} {o : (zv_X × Int32)} (h : mX4_tellLength N a0 x = some o) : zv_T d yX4_tellLength cX4_tellLength 2 ((some .int)) [.ref a0] x o.1 (some (.int o.2)) := by
  unfold mX4_tellLength at h
  exact zv_enter (by decide) (Nat.le_of_ble_eq_true rfl) (kX4_tellLength_0 hd _ _ h)

abbrev fX4_tellWhetherOf (d : Nat) (x0 : zv_X) (o : (zv_X × Int32)) : zv_G := (d, RX4, cX4_tellWhetherOf, 3, (some .int), ("tellWhetherOf", []), x0, o.1, zv_fin x0 o.1 (some (.int o.2)))
def mX4_tellWhetherOf_56 (N : Nat) (l0 : Nat) (s0 : Int64) (s1 : Nat) (x : zv_X) : Option (zv_X × Int32) := if zm_k x s1 1 = true then ((mX1_pushNumber N s1 s0 x).bind fun o1 => if zm_k o1 l0 4 = true then ((mX4_goOn N l0 (2 : Int32) o1).bind fun o3 => some (o3.1, o3.2)) else none) else none
theorem kX4_tellWhetherOf_56 {d : Nat} {x0 : zv_X} {o : (zv_X × Int32)} (hd : 3 ≤ d) {N : Nat} (l0 : Nat) (s0 : Int64) (s1 : Nat) (x : zv_X) (h : mX4_tellWhetherOf_56 N l0 s0 s1 x = some o) : zv_V (fX4_tellWhetherOf d x0 o) 56 [(0, .ref l0)] [.long s0, .ref s1] x := by
  unfold mX4_tellWhetherOf_56 at h
  refine zr_cVv (ci := 1) (st := []) dX4_tellWhetherOf_56 mw_X1_pushNumber wd_1125 wd_1126 wd_1127 rfl rfl [.long s0] rfl rfl (Nat.le_of_ble_eq_true rfl) (show d - 1 + 1 ≤ d by omega) h (fun o1 e2 => tX1_pushNumber (d := d - 1) (by omega) e2) (fun o1 e2 h => ?_)
  refine zv_aload_n (n := 0) dX4_tellWhetherOf_59 rfl rfl ?_
  refine zv_iconst (v := 2) dX4_tellWhetherOf_60 (by decide) ?_
  refine zr_cVi (ci := 4) (st := []) dX4_tellWhetherOf_61 mw_X4_goOn wd_1117 wd_1119 wd_22 rfl rfl [.int (2 : Int32)] rfl rfl (Nat.le_of_ble_eq_true rfl) (show d - 1 + 1 ≤ d by omega) h (fun o3 e4 => tX4_goOn (d := d - 1) (by omega) e4) (fun o3 e4 h => ?_)
  cases h
  exact zv_iret dX4_tellWhetherOf_64 rfl
def mX4_tellWhetherOf_34 (N : Nat) (l0 : Nat) (s0 : Int32) (x : zv_X) : Option (zv_X × Int32) := (zm_R x l0 4 5).bind fun v1 => if zm_k x v1 1 = true then ((mX1_drop N v1 (1 : Int32) x).bind fun o3 => (zm_R o3 l0 4 5).bind fun v5 => if s0 = 0 then (mX4_tellWhetherOf_56 N l0 (0 : Int64) v5 o3) else (mX4_tellWhetherOf_56 N l0 (1 : Int64) v5 o3)) else none
theorem kX4_tellWhetherOf_34 {d : Nat} {x0 : zv_X} {o : (zv_X × Int32)} (hd : 3 ≤ d) {N : Nat} (l0 : Nat) (s0 : Int32) (x : zv_X) (h : mX4_tellWhetherOf_34 N l0 s0 x = some o) : zv_V (fX4_tellWhetherOf d x0 o) 34 [(0, .ref l0)] [.int s0] x := by
  unfold mX4_tellWhetherOf_34 at h
  refine zv_istore_n (L' := [(2, .int s0), (0, .ref l0)]) dX4_tellWhetherOf_34 rfl (Nat.le_of_ble_eq_true rfl) rfl ?_
  refine zv_aload_n (n := 1) dX4_tellWhetherOf_35 rfl rfl ?_
  refine zr_gR dX4_tellWhetherOf_36 fg_371 h (fun v1 e2 h => ?_)
  refine zv_iconst (v := 1) dX4_tellWhetherOf_39 (by decide) ?_
  refine zr_cVv (ci := 1) (st := []) dX4_tellWhetherOf_40 mw_X1_drop wd_1180 wd_1181 wd_1182 rfl rfl [.int (1 : Int32)] rfl rfl (Nat.le_of_ble_eq_true rfl) (show d - 1 + 1 ≤ d by omega) h (fun o3 e4 => tX1_drop (d := d - 1) (by omega) e4) (fun o3 e4 h => ?_)
  refine zv_aload_n (n := 1) dX4_tellWhetherOf_43 rfl rfl ?_
  refine zr_gR dX4_tellWhetherOf_44 fg_371 h (fun v5 e6 h => ?_)
  refine zv_iload_n (n := 0) dX4_tellWhetherOf_47 rfl rfl ?_
  refine zr_if_eq (tgt := 55) dX4_tellWhetherOf_48 (by decide) h (fun c7 h => ?_) (fun c7 h => ?_)
  · refine zv_lconst (v := 0) dX4_tellWhetherOf_55 (by decide) ?_
    exact zv_fewer [1] rfl (kX4_tellWhetherOf_56 hd _ _ _ _ h)
  · refine zv_lconst (v := 1) dX4_tellWhetherOf_51 (by decide) ?_
    refine zv_goto (tgt := 56) dX4_tellWhetherOf_52 (by decide) ?_
    exact zv_fewer [1] rfl (kX4_tellWhetherOf_56 hd _ _ _ _ h)
def mX4_tellWhetherOf_33 (N : Nat) (l0 : Nat) (x : zv_X) : Option (zv_X × Int32) := mX4_tellWhetherOf_34 N l0 (0 : Int32) x
theorem kX4_tellWhetherOf_33 {d : Nat} {x0 : zv_X} {o : (zv_X × Int32)} (hd : 3 ≤ d) {N : Nat} (l0 : Nat) (x : zv_X) (h : mX4_tellWhetherOf_33 N l0 x = some o) : zv_V (fX4_tellWhetherOf d x0 o) 33 [(0, .ref l0)] [] x := by
  unfold mX4_tellWhetherOf_33 at h
  refine zv_iconst (v := 0) dX4_tellWhetherOf_33 (by decide) ?_
  exact kX4_tellWhetherOf_34 hd _ _ _ h
def mX4_tellWhetherOf_0 (N : Nat) (l0 : Nat) (x : zv_X) : Option (zv_X × Int32) := (zm_R x l0 4 5).bind fun v1 => if zm_k x v1 1 = true then ((mX1_reference N v1 (0 : Int32) x).bind fun o3 => if o3.2 = 0 then (mX4_tellWhetherOf_33 N l0 o3.1) else ((zm_R o3.1 l0 4 5).bind fun v5 => if zm_k o3.1 v5 1 = true then ((mX1_operand N v5 (1 : Int32) o3.1).bind fun o7 => if zm_k o7.1 l0 4 = true then ((mX4_isOf N l0 o3.2 o7.2 o7.1).bind fun o9 => if o9.2 = 0 then (mX4_tellWhetherOf_33 N l0 o9.1) else (mX4_tellWhetherOf_34 N l0 (1 : Int32) o9.1)) else none) else none)) else none
theorem kX4_tellWhetherOf_0 {d : Nat} {x0 : zv_X} {o : (zv_X × Int32)} (hd : 3 ≤ d) {N : Nat} (l0 : Nat) (x : zv_X) (h : mX4_tellWhetherOf_0 N l0 x = some o) : zv_V (fX4_tellWhetherOf d x0 o) 0 [(0, .ref l0)] [] x := by
  unfold mX4_tellWhetherOf_0 at h
  refine zv_aload_n (n := 0) dX4_tellWhetherOf_0 rfl rfl ?_
  refine zr_gR dX4_tellWhetherOf_1 fg_371 h (fun v1 e2 h => ?_)
  refine zv_iconst (v := 0) dX4_tellWhetherOf_4 (by decide) ?_
  refine zr_cVi (ci := 1) (st := []) dX4_tellWhetherOf_5 mw_X1_reference wd_1151 wd_1152 wd_1153 rfl rfl [.int (0 : Int32)] rfl rfl (Nat.le_of_ble_eq_true rfl) (show d - 1 + 1 ≤ d by omega) h (fun o3 e4 => tX1_reference (d := d - 1) (by omega) e4) (fun o3 e4 h => ?_)
  refine zv_istore_n (L' := [(1, .int o3.2), (0, .ref l0)]) dX4_tellWhetherOf_8 rfl (Nat.le_of_ble_eq_true rfl) rfl ?_
  refine zv_iload_n (n := 0) dX4_tellWhetherOf_9 rfl rfl ?_
  refine zr_if_eq (tgt := 33) dX4_tellWhetherOf_10 (by decide) h (fun c12 h => ?_) (fun c12 h => ?_)
  · exact zv_fewer [1] rfl (kX4_tellWhetherOf_33 hd _ _ h)
  · refine zv_aload_n (n := 1) dX4_tellWhetherOf_13 rfl rfl ?_
    refine zv_iload_n (n := 0) dX4_tellWhetherOf_14 rfl rfl ?_
    refine zv_aload_n (n := 1) dX4_tellWhetherOf_15 rfl rfl ?_
    refine zr_gR dX4_tellWhetherOf_16 fg_371 h (fun v5 e6 h => ?_)
    refine zv_iconst (v := 1) dX4_tellWhetherOf_19 (by decide) ?_
    refine zr_cVi (ci := 1) (st := [.int o3.2, .ref l0]) dX4_tellWhetherOf_20 mw_X1_operand wd_1130 wd_1131 wd_1132 rfl rfl [.int (1 : Int32)] rfl rfl (Nat.le_of_ble_eq_true rfl) (show d - 1 + 1 ≤ d by omega) h (fun o7 e8 => tX1_operand (d := d - 1) (by omega) e8) (fun o7 e8 h => ?_)
    refine zr_cVi (ci := 4) (st := []) dX4_tellWhetherOf_23 mw_X4_isOf wd_1261 wd_1263 wd_36 rfl rfl [.int o3.2, .int o7.2] rfl rfl (Nat.le_of_ble_eq_true rfl) (show d - 1 + 1 ≤ d by omega) h (fun o9 e10 => tX4_isOf (d := d - 1) (by omega) e10) (fun o9 e10 h => ?_)
    refine zr_if_eq (tgt := 33) dX4_tellWhetherOf_26 (by decide) h (fun c11 h => ?_) (fun c11 h => ?_)
    · exact zv_fewer [1] rfl (kX4_tellWhetherOf_33 hd _ _ h)
    · refine zv_iconst (v := 1) dX4_tellWhetherOf_29 (by decide) ?_
      refine zv_goto (tgt := 34) dX4_tellWhetherOf_30 (by decide) ?_
      exact zv_fewer [1] rfl (kX4_tellWhetherOf_34 hd _ _ _ h)
def mX4_tellWhetherOf (N : Nat) (a0 : Nat) (x : zv_X) : Option (zv_X × Int32) := mX4_tellWhetherOf_0 N a0 x
theorem tX4_tellWhetherOf {d : Nat} (hd : 3 ≤ d) {N : Nat} {x : zv_X} {a0 : Nat} {o : (zv_X × Int32)} (h : mX4_tellWhetherOf N a0 x = some o) : zv_T d yX4_tellWhetherOf cX4_tellWhetherOf 3 ((some .int)) [.ref a0] x o.1 (some (.int o.2)) := by
  unfold mX4_tellWhetherOf at h
  exact zv_enter (by decide) (Nat.le_of_ble_eq_true rfl) (kX4_tellWhetherOf_0 hd _ _ h)

abbrev fX4_throwTop (d : Nat) (x0 : zv_X) (o : (zv_X × Int32)) : zv_G := (d, RX4, cX4_throwTop, 2, (some .int), ("throwTop", []), x0, o.1, zv_fin x0 o.1 (some (.int o.2)))
def mX4_throwTop_0 (N : Nat) (l0 : Nat) (x : zv_X) : Option (zv_X × Int32) := (zm_R x l0 4 5).bind fun v1 => if zm_k x v1 1 = true then ((mX1_reference N v1 (0 : Int32) x).bind fun o3 => if o3.2 = 0 then (some (o3.1, (2 : Int32))) else ((zm_R o3.1 l0 4 2).bind fun v5 => if zm_k o3.1 v5 2 = true then ((mX2_isArray N v5 o3.2 o3.1).bind fun o7 => if o7.2 = 0 then (if zm_k o7.1 l0 4 = true then ((mX4_unwind N l0 o3.2 o7.1).bind fun o9 => some (o9, (0 : Int32))) else none) else (some (o7.1, (5 : Int32)))) else none)) else none
theorem kX4_throwTop_0 {d : Nat} {x0 : zv_X} {o : (zv_X × Int32)} (hd : 3 ≤ d) {N : Nat} (l0 : Nat) (x : zv_X) (h : mX4_throwTop_0 N l0 x = some o) : zv_V (fX4_throwTop d x0 o) 0 [(0, .ref l0)] [] x := by
  unfold mX4_throwTop_0 at h
  refine zv_aload_n (n := 0) dX4_throwTop_0 rfl rfl ?_
  refine zr_gR dX4_throwTop_1 fg_371 h (fun v1 e2 h => ?_)
  refine zv_iconst (v := 0) dX4_throwTop_4 (by decide) ?_
  refine zr_cVi (ci := 1) (st := []) dX4_throwTop_5 mw_X1_reference wd_1151 wd_1152 wd_1153 rfl rfl [.int (0 : Int32)] rfl rfl (Nat.le_of_ble_eq_true rfl) (show d - 1 + 1 ≤ d by omega) h (fun o3 e4 => tX1_reference (d := d - 1) (by omega) e4) (fun o3 e4 h => ?_)
  refine zv_istore_n (L' := [(1, .int o3.2), (0, .ref l0)]) dX4_throwTop_8 rfl (Nat.le_of_ble_eq_true rfl) rfl ?_
  refine zv_iload_n (n := 0) dX4_throwTop_9 rfl rfl ?_
  refine zr_if_ne (tgt := 15) dX4_throwTop_10 (by decide) h (fun c12 h => ?_) (fun c12 h => ?_)
  · refine zv_aload_n (n := 1) dX4_throwTop_15 rfl rfl ?_
    refine zr_gR dX4_throwTop_16 fg_368 h (fun v5 e6 h => ?_)
    refine zv_iload_n (n := 0) dX4_throwTop_19 rfl rfl ?_
    refine zr_cVi (ci := 2) (st := []) dX4_throwTop_20 mw_X2_isArray wd_1351 wd_1352 wd_1353 rfl rfl [.int o3.2] rfl rfl (Nat.le_of_ble_eq_true rfl) (show d - 1 + 1 ≤ d by omega) h (fun o7 e8 => tX2_isArray (d := d - 1) (by omega) e8) (fun o7 e8 h => ?_)
    refine zr_if_eq (tgt := 28) dX4_throwTop_23 (by decide) h (fun c11 h => ?_) (fun c11 h => ?_)
    · refine zv_aload_n (n := 1) dX4_throwTop_28 rfl rfl ?_
      refine zv_iload_n (n := 0) dX4_throwTop_29 rfl rfl ?_
      refine zr_cVv (ci := 4) (st := []) dX4_throwTop_30 mw_X4_unwind wd_1359 wd_1361 wd_46 rfl rfl [.int o3.2] rfl rfl (Nat.le_of_ble_eq_true rfl) (show d - 1 + 1 ≤ d by omega) h (fun o9 e10 => tX4_unwind (d := d - 1) (by omega) e10) (fun o9 e10 h => ?_)
      refine zv_iconst (v := 0) dX4_throwTop_33 (by decide) ?_
      cases h
      exact zv_iret dX4_throwTop_34 rfl
    · refine zv_iconst (v := 5) dX4_throwTop_26 (by decide) ?_
      cases h
      exact zv_iret dX4_throwTop_27 rfl
  · refine zv_iconst (v := 2) dX4_throwTop_13 (by decide) ?_
    cases h
    exact zv_iret dX4_throwTop_14 rfl
def mX4_throwTop (N : Nat) (a0 : Nat) (x : zv_X) : Option (zv_X × Int32) := mX4_throwTop_0 N a0 x
theorem tX4_throwTop {d : Nat} (hd : 3 ≤ d) {N : Nat} {x : zv_X} {a0 : Nat} {o : (zv_X × Int32)} (h : mX4_throwTop N a0 x = some o) : zv_T d yX4_throwTop cX4_throwTop 2 ((some .int)) [.ref a0] x o.1 (some (.int o.2)) := by
  unfold mX4_throwTop at h
  exact zv_enter (by decide) (Nat.le_of_ble_eq_true rfl) (kX4_throwTop_0 hd _ _ h)

abbrev fX2_setField (d : Nat) (x0 : zv_X) (o : zv_X) : zv_G := (d, RX2, cX2_setField, 4, none, ("setField", []), x0, o, zv_fin x0 o none)
def mX2_setField_0 (N : Nat) (l0 : Nat) (l1 : Int32) (l2 : Int32) (l3 : Int32) (x : zv_X) : Option zv_X := (zm_R x l0 2 1).bind fun v1 => (zm_R x l0 2 2).bind fun v3 => (zm_aI x v3 l1).bind fun v5 => (zm_sI x v1 ((v5 + (2 : Int32)) + l2) l3).bind fun x7 => some x7
theorem kX2_setField_0 {d : Nat} {x0 : zv_X} {o : zv_X} (hd : 0 ≤ d) {N : Nat} (l0 : Nat) (l1 : Int32) (l2 : Int32) (l3 : Int32) (x : zv_X) (h : mX2_setField_0 N l0 l1 l2 l3 x = some o) : zv_V (fX2_setField d x0 o) 0 [(0, .ref l0), (1, .int l1), (2, .int l2), (3, .int l3)] [] x := by
  unfold mX2_setField_0 at h
  refine zv_aload_n (n := 0) dX2_setField_0 rfl rfl ?_
  refine zr_gR dX2_setField_1 fg_268 h (fun v1 e2 h => ?_)
  refine zv_aload_n (n := 0) dX2_setField_4 rfl rfl ?_
  refine zr_gR dX2_setField_5 fg_269 h (fun v3 e4 h => ?_)
  refine zv_iload_n (n := 1) dX2_setField_8 rfl rfl ?_
  refine zr_aI dX2_setField_9 h (fun v5 e6 h => ?_)
  refine zv_iconst (v := 2) dX2_setField_10 (by decide) ?_
  refine zv_iadd dX2_setField_11 ?_
  refine zv_iload_n (n := 2) dX2_setField_12 rfl rfl ?_
  refine zv_iadd dX2_setField_13 ?_
  refine zv_iload_n (n := 3) dX2_setField_14 rfl rfl ?_
  refine zr_sI dX2_setField_15 h (fun x7 e8 h => ?_)
  cases h
  exact zv_vret dX2_setField_16 rfl
def mX2_setField (N : Nat) (a0 : Nat) (a1 : Int32) (a2 : Int32) (a3 : Int32) (x : zv_X) : Option zv_X := mX2_setField_0 N a0 a1 a2 a3 x
theorem tX2_setField {d : Nat} (hd : 0 ≤ d) {N : Nat} {x : zv_X} {a0 : Nat} {a1 : Int32} {a2 : Int32} {a3 : Int32} {o : zv_X} (h : mX2_setField N a0 a1 a2 a3 x = some o) : zv_T d yX2_setField cX2_setField 4 (none) [.ref a0, .int a1, .int a2, .int a3] x o none := by
  unfold mX2_setField at h
  exact zv_enter (by decide) (Nat.le_of_ble_eq_true rfl) (kX2_setField_0 hd _ _ _ _ _ h)

abbrev fX4_writeField (d : Nat) (x0 : zv_X) (o : (zv_X × Int32)) : zv_G := (d, RX4, cX4_writeField, 6, (some .int), ("writeField", []), x0, o.1, zv_fin x0 o.1 (some (.int o.2)))
def mX4_writeField_94 (N : Nat) (l0 : Nat) (s0 : Int32) (s1 : Int32) (s2 : Int32) (s3 : Nat) (x : zv_X) : Option (zv_X × Int32) := if zm_k x s3 2 = true then ((mX2_setField N s3 s2 s1 s0 x).bind fun o1 => (zm_R o1 l0 4 5).bind fun v3 => if zm_k o1 v3 1 = true then ((mX1_drop N v3 (2 : Int32) o1).bind fun o5 => if zm_k o5 l0 4 = true then ((mX4_goOn N l0 (3 : Int32) o5).bind fun o7 => some (o7.1, o7.2)) else none) else none) else none
theorem kX4_writeField_94 {d : Nat} {x0 : zv_X} {o : (zv_X × Int32)} (hd : 4 ≤ d) {N : Nat} (l0 : Nat) (s0 : Int32) (s1 : Int32) (s2 : Int32) (s3 : Nat) (x : zv_X) (h : mX4_writeField_94 N l0 s0 s1 s2 s3 x = some o) : zv_V (fX4_writeField d x0 o) 94 [(0, .ref l0)] [.int s0, .int s1, .int s2, .ref s3] x := by
  unfold mX4_writeField_94 at h
  refine zr_cVv (ci := 2) (st := []) dX4_writeField_94 mw_X2_setField wd_1278 wd_1279 wd_1280 rfl rfl [.int s2, .int s1, .int s0] rfl rfl (Nat.le_of_ble_eq_true rfl) (show d - 1 + 1 ≤ d by omega) h (fun o1 e2 => tX2_setField (d := d - 1) (by omega) e2) (fun o1 e2 h => ?_)
  refine zv_aload_n (n := 0) dX4_writeField_97 rfl rfl ?_
  refine zr_gR dX4_writeField_98 fg_371 h (fun v3 e4 h => ?_)
  refine zv_iconst (v := 2) dX4_writeField_101 (by decide) ?_
  refine zr_cVv (ci := 1) (st := []) dX4_writeField_102 mw_X1_drop wd_1180 wd_1181 wd_1182 rfl rfl [.int (2 : Int32)] rfl rfl (Nat.le_of_ble_eq_true rfl) (show d - 1 + 1 ≤ d by omega) h (fun o5 e6 => tX1_drop (d := d - 1) (by omega) e6) (fun o5 e6 h => ?_)
  refine zv_aload_n (n := 0) dX4_writeField_105 rfl rfl ?_
  refine zv_iconst (v := 3) dX4_writeField_106 (by decide) ?_
  refine zr_cVi (ci := 4) (st := []) dX4_writeField_107 mw_X4_goOn wd_1117 wd_1119 wd_22 rfl rfl [.int (3 : Int32)] rfl rfl (Nat.le_of_ble_eq_true rfl) (show d - 1 + 1 ≤ d by omega) h (fun o7 e8 => tX4_goOn (d := d - 1) (by omega) e8) (fun o7 e8 h => ?_)
  cases h
  exact zv_iret dX4_writeField_110 rfl
def mX4_writeField_61 (N : Nat) (l0 : Nat) (l2 : Int32) (l3 : Int32) (s0 : Int32) (x : zv_X) : Option (zv_X × Int32) := (zm_R x l0 4 2).bind fun v1 => if s0 = 0 then ((zm_R x l0 4 5).bind fun v3 => if zm_k x v3 1 = true then ((mX1_number N v3 (0 : Int32) x).bind fun o5 => mX4_writeField_94 N l0 (Int64.toInt32 o5.2) l2 l3 v1 o5.1) else none) else ((zm_R x l0 4 5).bind fun v7 => if zm_k x v7 1 = true then ((mX1_reference N v7 (0 : Int32) x).bind fun o9 => mX4_writeField_94 N l0 o9.2 l2 l3 v1 o9.1) else none)
theorem kX4_writeField_61 {d : Nat} {x0 : zv_X} {o : (zv_X × Int32)} (hd : 4 ≤ d) {N : Nat} (l0 : Nat) (l2 : Int32) (l3 : Int32) (s0 : Int32) (x : zv_X) (h : mX4_writeField_61 N l0 l2 l3 s0 x = some o) : zv_V (fX4_writeField d x0 o) 61 [(0, .ref l0), (2, .int l2), (3, .int l3)] [.int s0] x := by
  unfold mX4_writeField_61 at h
  refine zv_istore (L' := [(5, .int s0), (0, .ref l0), (2, .int l2), (3, .int l3)]) dX4_writeField_61 (Nat.le_of_ble_eq_true rfl) rfl ?_
  refine zv_aload_n (n := 1) dX4_writeField_63 rfl rfl ?_
  refine zr_gR dX4_writeField_64 fg_368 h (fun v1 e2 h => ?_)
  refine zv_iload_n (n := 3) dX4_writeField_67 rfl rfl ?_
  refine zv_iload_n (n := 2) dX4_writeField_68 rfl rfl ?_
  refine zv_iload (n := 0) dX4_writeField_69 rfl ?_
  refine zr_if_eq (tgt := 85) dX4_writeField_71 (by decide) h (fun c11 h => ?_) (fun c11 h => ?_)
  · refine zv_aload_n (n := 1) dX4_writeField_85 rfl rfl ?_
    refine zr_gR dX4_writeField_86 fg_371 h (fun v3 e4 h => ?_)
    refine zv_iconst (v := 0) dX4_writeField_89 (by decide) ?_
    refine zr_cVl (ci := 1) (st := [.int l2, .int l3, .ref v1]) dX4_writeField_90 mw_X1_number wd_1155 wd_1156 wd_1157 rfl rfl [.int (0 : Int32)] rfl rfl (Nat.le_of_ble_eq_true rfl) (show d - 1 + 1 ≤ d by omega) h (fun o5 e6 => tX1_number (d := d - 1) (by omega) e6) (fun o5 e6 h => ?_)
    refine zv_l2i dX4_writeField_93 ?_
    exact zv_fewer [1] rfl (kX4_writeField_94 hd _ _ _ _ _ _ h)
  · refine zv_aload_n (n := 1) dX4_writeField_74 rfl rfl ?_
    refine zr_gR dX4_writeField_75 fg_371 h (fun v7 e8 h => ?_)
    refine zv_iconst (v := 0) dX4_writeField_78 (by decide) ?_
    refine zr_cVi (ci := 1) (st := [.int l2, .int l3, .ref v1]) dX4_writeField_79 mw_X1_reference wd_1151 wd_1152 wd_1153 rfl rfl [.int (0 : Int32)] rfl rfl (Nat.le_of_ble_eq_true rfl) (show d - 1 + 1 ≤ d by omega) h (fun o9 e10 => tX1_reference (d := d - 1) (by omega) e10) (fun o9 e10 h => ?_)
    refine zv_goto (tgt := 94) dX4_writeField_82 (by decide) ?_
    exact zv_fewer [1] rfl (kX4_writeField_94 hd _ _ _ _ _ _ h)
def mX4_writeField_0 (N : Nat) (l0 : Nat) (x : zv_X) : Option (zv_X × Int32) := (zm_R x l0 4 5).bind fun v1 => if zm_k x v1 1 = true then ((mX1_operand N v1 (1 : Int32) x).bind fun o3 => (zm_R o3.1 l0 4 5).bind fun v5 => if zm_k o3.1 v5 1 = true then ((mX1_operand N v5 (2 : Int32) o3.1).bind fun o7 => (zm_R o7.1 l0 4 5).bind fun v9 => if zm_k o7.1 v9 1 = true then ((mX1_reference N v9 (1 : Int32) o7.1).bind fun o11 => if zm_k o11.1 l0 4 = true then ((mX4_faultOfObject N l0 o11.2 o3.2 o11.1).bind fun o13 => if o13.2 = 0 then ((zm_R o13.1 l0 4 0).bind fun v15 => if zm_k o13.1 v15 7 = true then ((mX7_kindOfField N v15 o3.2 o7.2 o13.1).bind fun o17 => if o17.2 = (3 : Int32) then (mX4_writeField_61 N l0 o7.2 o11.2 (1 : Int32) o17.1) else (mX4_writeField_61 N l0 o7.2 o11.2 (0 : Int32) o17.1)) else none) else (some (o13.1, o13.2))) else none) else none) else none) else none
theorem kX4_writeField_0 {d : Nat} {x0 : zv_X} {o : (zv_X × Int32)} (hd : 4 ≤ d) {N : Nat} (l0 : Nat) (x : zv_X) (h : mX4_writeField_0 N l0 x = some o) : zv_V (fX4_writeField d x0 o) 0 [(0, .ref l0)] [] x := by
  unfold mX4_writeField_0 at h
  refine zv_aload_n (n := 0) dX4_writeField_0 rfl rfl ?_
  refine zr_gR dX4_writeField_1 fg_371 h (fun v1 e2 h => ?_)
  refine zv_iconst (v := 1) dX4_writeField_4 (by decide) ?_
  refine zr_cVi (ci := 1) (st := []) dX4_writeField_5 mw_X1_operand wd_1130 wd_1131 wd_1132 rfl rfl [.int (1 : Int32)] rfl rfl (Nat.le_of_ble_eq_true rfl) (show d - 1 + 1 ≤ d by omega) h (fun o3 e4 => tX1_operand (d := d - 1) (by omega) e4) (fun o3 e4 h => ?_)
  refine zv_istore_n (L' := [(1, .int o3.2), (0, .ref l0)]) dX4_writeField_8 rfl (Nat.le_of_ble_eq_true rfl) rfl ?_
  refine zv_aload_n (n := 1) dX4_writeField_9 rfl rfl ?_
  refine zr_gR dX4_writeField_10 fg_371 h (fun v5 e6 h => ?_)
  refine zv_iconst (v := 2) dX4_writeField_13 (by decide) ?_
  refine zr_cVi (ci := 1) (st := []) dX4_writeField_14 mw_X1_operand wd_1130 wd_1131 wd_1132 rfl rfl [.int (2 : Int32)] rfl rfl (Nat.le_of_ble_eq_true rfl) (show d - 1 + 1 ≤ d by omega) h (fun o7 e8 => tX1_operand (d := d - 1) (by omega) e8) (fun o7 e8 h => ?_)
  refine zv_istore_n (L' := [(2, .int o7.2), (1, .int o3.2), (0, .ref l0)]) dX4_writeField_17 rfl (Nat.le_of_ble_eq_true rfl) rfl ?_
  refine zv_aload_n (n := 2) dX4_writeField_18 rfl rfl ?_
  refine zr_gR dX4_writeField_19 fg_371 h (fun v9 e10 h => ?_)
  refine zv_iconst (v := 1) dX4_writeField_22 (by decide) ?_
  refine zr_cVi (ci := 1) (st := []) dX4_writeField_23 mw_X1_reference wd_1151 wd_1152 wd_1153 rfl rfl [.int (1 : Int32)] rfl rfl (Nat.le_of_ble_eq_true rfl) (show d - 1 + 1 ≤ d by omega) h (fun o11 e12 => tX1_reference (d := d - 1) (by omega) e12) (fun o11 e12 h => ?_)
  refine zv_istore_n (L' := [(3, .int o11.2), (2, .int o7.2), (1, .int o3.2), (0, .ref l0)]) dX4_writeField_26 rfl (Nat.le_of_ble_eq_true rfl) rfl ?_
  refine zv_aload_n (n := 3) dX4_writeField_27 rfl rfl ?_
  refine zv_iload_n (n := 0) dX4_writeField_28 rfl rfl ?_
  refine zv_iload_n (n := 2) dX4_writeField_29 rfl rfl ?_
  refine zr_cVi (ci := 4) (st := []) dX4_writeField_30 mw_X4_faultOfObject wd_1257 wd_1259 wd_35 rfl rfl [.int o11.2, .int o3.2] rfl rfl (Nat.le_of_ble_eq_true rfl) (show d - 1 + 1 ≤ d by omega) h (fun o13 e14 => tX4_faultOfObject (d := d - 1) (by omega) e14) (fun o13 e14 h => ?_)
  refine zv_istore (L' := [(4, .int o13.2), (3, .int o11.2), (2, .int o7.2), (1, .int o3.2), (0, .ref l0)]) dX4_writeField_33 (Nat.le_of_ble_eq_true rfl) rfl ?_
  refine zv_iload (n := 0) dX4_writeField_35 rfl ?_
  refine zr_if_eq (tgt := 43) dX4_writeField_37 (by decide) h (fun c20 h => ?_) (fun c20 h => ?_)
  · refine zv_aload_n (n := 4) dX4_writeField_43 rfl rfl ?_
    refine zr_gR dX4_writeField_44 fg_366 h (fun v15 e16 h => ?_)
    refine zv_iload_n (n := 3) dX4_writeField_47 rfl rfl ?_
    refine zv_iload_n (n := 2) dX4_writeField_48 rfl rfl ?_
    refine zr_cVi (ci := 7) (st := []) dX4_writeField_49 mw_X7_kindOfField wd_1273 wd_735 wd_736 rfl rfl [.int o3.2, .int o7.2] rfl rfl (Nat.le_of_ble_eq_true rfl) (show d - 1 + 1 ≤ d by omega) h (fun o17 e18 => tX7_kindOfField (d := d - 1) (by omega) e18) (fun o17 e18 h => ?_)
    refine zv_iconst (v := 3) dX4_writeField_52 (by decide) ?_
    refine zr_icmp_ne (tgt := 60) dX4_writeField_53 (by decide) h (fun c19 h => ?_) (fun c19 h => ?_)
    · refine zv_iconst (v := 0) dX4_writeField_60 (by decide) ?_
      exact zv_fewer [4, 2, 1] rfl (kX4_writeField_61 hd _ _ _ _ _ h)
    · refine zv_iconst (v := 1) dX4_writeField_56 (by decide) ?_
      refine zv_goto (tgt := 61) dX4_writeField_57 (by decide) ?_
      exact zv_fewer [4, 2, 1] rfl (kX4_writeField_61 hd _ _ _ _ _ h)
  · refine zv_iload (n := 0) dX4_writeField_40 rfl ?_
    cases h
    exact zv_iret dX4_writeField_42 rfl
def mX4_writeField (N : Nat) (a0 : Nat) (x : zv_X) : Option (zv_X × Int32) := mX4_writeField_0 N a0 x
theorem tX4_writeField {d : Nat} (hd : 4 ≤ d) {N : Nat} {x : zv_X} {a0 : Nat} {o : (zv_X × Int32)} (h : mX4_writeField N a0 x = some o) : zv_T d yX4_writeField cX4_writeField 6 ((some .int)) [.ref a0] x o.1 (some (.int o.2)) := by
  unfold mX4_writeField at h
  exact zv_enter (by decide) (Nat.le_of_ble_eq_true rfl) (kX4_writeField_0 hd _ _ h)
