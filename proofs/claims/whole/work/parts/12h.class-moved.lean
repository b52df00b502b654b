abbrev fX2_element (d : Nat) (x0 : zv_X) (o : (zv_X × Int64)) : zv_G := (d, RX2, cX2_element, 4, (some .long), ("element", []), x0, o.1, zv_fin x0 o.1 (some (.long o.2)))
def mX2_element_60 (N : Nat) (l0 : Nat) (l2 : Int32) (l3 : Int32) (x : zv_X) : Option (zv_X × Int64) := (zm_R x l0 2 1).bind fun v1 => (zm_aI x v1 (l3 + (l2 / (4 : Int32)))).bind fun v3 => some (x, Int32.toInt64 ((Int32.toInt8 (v3 >>> (((l2 - l2 / (4 : Int32) * (4 : Int32)) * (8 : Int32)) &&& 31))).toInt32))
theorem kX2_element_60 {d : Nat} {x0 : zv_X} {o : (zv_X × Int64)} (hd : 1 ≤ d) {N : Nat} (l0 : Nat) (l2 : Int32) (l3 : Int32) (x : zv_X) (h : mX2_element_60 N l0 l2 l3 x = some o) : zv_V (fX2_element d x0 o) 60 [(0, .ref l0), (2, .int l2), (3, .int l3)] [] x := by
  unfold mX2_element_60 at h
  refine zv_aload_n (n := 0) dX2_element_60 rfl rfl ?_
  refine zr_gR dX2_element_61 fg_268 h (fun v1 e2 h => ?_)
  refine zv_iload_n (n := 2) dX2_element_64 rfl rfl ?_
  refine zv_iload_n (n := 1) dX2_element_65 rfl rfl ?_
  refine zv_iconst (v := 4) dX2_element_66 (by decide) ?_
  refine zv_idiv dX2_element_67 (by decide) ?_
  refine zv_iadd dX2_element_68 ?_
  refine zr_aI dX2_element_69 h (fun v3 e4 h => ?_)
  refine zv_iload_n (n := 1) dX2_element_70 rfl rfl ?_
  refine zv_iconst (v := 4) dX2_element_71 (by decide) ?_
  refine zv_irem dX2_element_72 (by decide) ?_
  refine zv_bipush (v := 8) dX2_element_73 (by decide) ?_
  refine zv_imul dX2_element_75 ?_
  refine zv_ishr dX2_element_76 ?_
  refine zv_i2b dX2_element_77 ?_
  refine zv_i2l dX2_element_78 ?_
  cases h
  exact zv_lret dX2_element_79 rfl
def mX2_element_153 (N : Nat) (l0 : Nat) (l2 : Int32) (l3 : Int32) (x : zv_X) : Option (zv_X × Int64) := (zm_R x l0 2 1).bind fun v1 => (zm_aI x v1 (l3 + l2)).bind fun v3 => some (x, Int32.toInt64 v3)
theorem kX2_element_153 {d : Nat} {x0 : zv_X} {o : (zv_X × Int64)} (hd : 1 ≤ d) {N : Nat} (l0 : Nat) (l2 : Int32) (l3 : Int32) (x : zv_X) (h : mX2_element_153 N l0 l2 l3 x = some o) : zv_V (fX2_element d x0 o) 153 [(0, .ref l0), (2, .int l2), (3, .int l3)] [] x := by
  unfold mX2_element_153 at h
  refine zv_aload_n (n := 0) dX2_element_153 rfl rfl ?_
  refine zr_gR dX2_element_154 fg_268 h (fun v1 e2 h => ?_)
  refine zv_iload_n (n := 2) dX2_element_157 rfl rfl ?_
  refine zv_iload_n (n := 1) dX2_element_158 rfl rfl ?_
  refine zv_iadd dX2_element_159 ?_
  refine zr_aI dX2_element_160 h (fun v3 e4 h => ?_)
  refine zv_i2l dX2_element_161 ?_
  cases h
  exact zv_lret dX2_element_162 rfl
def mX2_element_0 (N : Nat) (l0 : Nat) (l1 : Int32) (l2 : Int32) (x : zv_X) : Option (zv_X × Int64) := (zm_R x l0 2 2).bind fun v1 => (zm_aI x v1 l1).bind fun v3 => if zm_k x l0 2 = true then ((mX2_tag N l0 l1 x).bind fun o5 => if (-o5.2) = (4 : Int32) then (mX2_element_60 N l0 l2 (v3 + (2 : Int32)) o5.1) else if (-o5.2) = (5 : Int32) then ((zm_R o5.1 l0 2 1).bind fun v8 => (zm_aI o5.1 v8 ((v3 + (2 : Int32)) + (l2 / (2 : Int32)))).bind fun v10 => some (o5.1, Int32.toInt64 ((Int32.toUInt32 (v10 >>> (((l2 - l2 / (2 : Int32) * (2 : Int32)) * (16 : Int32)) &&& 31)) % 65536).toInt32))) else if (-o5.2) = (6 : Int32) then (mX2_element_153 N l0 l2 (v3 + (2 : Int32)) o5.1) else if (-o5.2) = (7 : Int32) then (mX2_element_153 N l0 l2 (v3 + (2 : Int32)) o5.1) else if (-o5.2) = (8 : Int32) then (mX2_element_60 N l0 l2 (v3 + (2 : Int32)) o5.1) else if (-o5.2) = (9 : Int32) then ((zm_R o5.1 l0 2 1).bind fun v16 => (zm_aI o5.1 v16 ((v3 + (2 : Int32)) + (l2 / (2 : Int32)))).bind fun v18 => some (o5.1, Int32.toInt64 ((Int32.toInt16 (v18 >>> (((l2 - l2 / (2 : Int32) * (2 : Int32)) * (16 : Int32)) &&& 31))).toInt32))) else if (-o5.2) = (10 : Int32) then (mX2_element_153 N l0 l2 (v3 + (2 : Int32)) o5.1) else if (-o5.2) = (11 : Int32) then ((zm_R o5.1 l0 2 1).bind fun v22 => (zm_aI o5.1 v22 ((v3 + (2 : Int32)) + ((2 : Int32) * l2))).bind fun v24 => (zm_R o5.1 l0 2 1).bind fun v26 => (zm_aI o5.1 v26 (((v3 + (2 : Int32)) + ((2 : Int32) * l2)) + (1 : Int32))).bind fun v28 => some (o5.1, ((Int32.toInt64 v24) <<< (Int32.toInt64 (32 : Int32) &&& 63)) ||| ((Int32.toInt64 v28) &&& (4294967295 : Int64)))) else (mX2_element_153 N l0 l2 (v3 + (2 : Int32)) o5.1)) else none
theorem kX2_element_0 {d : Nat} {x0 : zv_X} {o : (zv_X × Int64)} (hd : 1 ≤ d) {N : Nat} (l0 : Nat) (l1 : Int32) (l2 : Int32) (x : zv_X) (h : mX2_element_0 N l0 l1 l2 x = some o) : zv_V (fX2_element d x0 o) 0 [(0, .ref l0), (1, .int l1), (2, .int l2)] [] x := by
  unfold mX2_element_0 at h
  refine zv_aload_n (n := 0) dX2_element_0 rfl rfl ?_
  refine zr_gR dX2_element_1 fg_269 h (fun v1 e2 h => ?_)
  refine zv_iload_n (n := 1) dX2_element_4 rfl rfl ?_
  refine zr_aI dX2_element_5 h (fun v3 e4 h => ?_)
  refine zv_iconst (v := 2) dX2_element_6 (by decide) ?_
  refine zv_iadd dX2_element_7 ?_
  refine zv_istore_n (L' := [(3, .int (v3 + (2 : Int32))), (0, .ref l0), (1, .int l1), (2, .int l2)]) dX2_element_8 rfl (Nat.le_of_ble_eq_true rfl) rfl ?_
  refine zv_aload_n (n := 1) dX2_element_9 rfl rfl ?_
  refine zv_iload_n (n := 2) dX2_element_10 rfl rfl ?_
  refine zr_cVi (ci := 2) (st := []) dX2_element_11 mw_X2_tag wd_1178 wd_1164 wd_1165 rfl rfl [.int l1] rfl rfl (Nat.le_of_ble_eq_true rfl) (show d - 1 + 1 ≤ d by omega) h (fun o5 e6 => tX2_tag (d := d - 1) (by omega) e6) (fun o5 e6 h => ?_)
  refine zv_ineg dX2_element_14 ?_
  rcases zif h with ⟨c7, h⟩ | ⟨c7, h⟩
  · refine zr_tabIn (tgt := 60) (off := 45) c7 dX2_element_15 (by decide) (by decide) (by decide) (by decide) ?_
    exact zv_fewer [1, 3, 0] rfl (kX2_element_60 hd _ _ _ _ h)
  rcases zif h with ⟨c12, h⟩ | ⟨c12, h⟩
  · refine zr_tabIn (tgt := 80) (off := 65) c12 dX2_element_15 (by decide) (by decide) (by decide) (by decide) ?_
    refine zv_aload_n (n := 1) dX2_element_80 rfl rfl ?_
    refine zr_gR dX2_element_81 fg_268 h (fun v8 e9 h => ?_)
    refine zv_iload_n (n := 0) dX2_element_84 rfl rfl ?_
    refine zv_iload_n (n := 3) dX2_element_85 rfl rfl ?_
    refine zv_iconst (v := 2) dX2_element_86 (by decide) ?_
    refine zv_idiv dX2_element_87 (by decide) ?_
    refine zv_iadd dX2_element_88 ?_
    refine zr_aI dX2_element_89 h (fun v10 e11 h => ?_)
    refine zv_iload_n (n := 3) dX2_element_90 rfl rfl ?_
    refine zv_iconst (v := 2) dX2_element_91 (by decide) ?_
    refine zv_irem dX2_element_92 (by decide) ?_
    refine zv_bipush (v := 16) dX2_element_93 (by decide) ?_
    refine zv_imul dX2_element_95 ?_
    refine zv_ishr dX2_element_96 ?_
    refine zv_i2c dX2_element_97 ?_
    refine zv_i2l dX2_element_98 ?_
    cases h
    exact zv_lret dX2_element_99 rfl
  rcases zif h with ⟨c13, h⟩ | ⟨c13, h⟩
  · refine zr_tabIn (tgt := 153) (off := 138) c13 dX2_element_15 (by decide) (by decide) (by decide) (by decide) ?_
    exact zv_fewer [1, 3, 0] rfl (kX2_element_153 hd _ _ _ _ h)
  rcases zif h with ⟨c14, h⟩ | ⟨c14, h⟩
  · refine zr_tabIn (tgt := 153) (off := 138) c14 dX2_element_15 (by decide) (by decide) (by decide) (by decide) ?_
    exact zv_fewer [1, 3, 0] rfl (kX2_element_153 hd _ _ _ _ h)
  rcases zif h with ⟨c15, h⟩ | ⟨c15, h⟩
  · refine zr_tabIn (tgt := 60) (off := 45) c15 dX2_element_15 (by decide) (by decide) (by decide) (by decide) ?_
    exact zv_fewer [1, 3, 0] rfl (kX2_element_60 hd _ _ _ _ h)
  rcases zif h with ⟨c20, h⟩ | ⟨c20, h⟩
  · refine zr_tabIn (tgt := 100) (off := 85) c20 dX2_element_15 (by decide) (by decide) (by decide) (by decide) ?_
    refine zv_aload_n (n := 1) dX2_element_100 rfl rfl ?_
    refine zr_gR dX2_element_101 fg_268 h (fun v16 e17 h => ?_)
    refine zv_iload_n (n := 0) dX2_element_104 rfl rfl ?_
    refine zv_iload_n (n := 3) dX2_element_105 rfl rfl ?_
    refine zv_iconst (v := 2) dX2_element_106 (by decide) ?_
    refine zv_idiv dX2_element_107 (by decide) ?_
    refine zv_iadd dX2_element_108 ?_
    refine zr_aI dX2_element_109 h (fun v18 e19 h => ?_)
    refine zv_iload_n (n := 3) dX2_element_110 rfl rfl ?_
    refine zv_iconst (v := 2) dX2_element_111 (by decide) ?_
    refine zv_irem dX2_element_112 (by decide) ?_
    refine zv_bipush (v := 16) dX2_element_113 (by decide) ?_
    refine zv_imul dX2_element_115 ?_
    refine zv_ishr dX2_element_116 ?_
    refine zv_i2s dX2_element_117 ?_
    refine zv_i2l dX2_element_118 ?_
    cases h
    exact zv_lret dX2_element_119 rfl
  rcases zif h with ⟨c21, h⟩ | ⟨c21, h⟩
  · refine zr_tabIn (tgt := 153) (off := 138) c21 dX2_element_15 (by decide) (by decide) (by decide) (by decide) ?_
    exact zv_fewer [1, 3, 0] rfl (kX2_element_153 hd _ _ _ _ h)
  rcases zif h with ⟨c30, h⟩ | ⟨c30, h⟩
  · refine zr_tabIn (tgt := 120) (off := 105) c30 dX2_element_15 (by decide) (by decide) (by decide) (by decide) ?_
    refine zv_aload_n (n := 1) dX2_element_120 rfl rfl ?_
    refine zr_gR dX2_element_121 fg_268 h (fun v22 e23 h => ?_)
    refine zv_iload_n (n := 0) dX2_element_124 rfl rfl ?_
    refine zv_iconst (v := 2) dX2_element_125 (by decide) ?_
    refine zv_iload_n (n := 3) dX2_element_126 rfl rfl ?_
    refine zv_imul dX2_element_127 ?_
    refine zv_iadd dX2_element_128 ?_
    refine zr_aI dX2_element_129 h (fun v24 e25 h => ?_)
    refine zv_i2l dX2_element_130 ?_
    refine zv_bipush (v := 32) dX2_element_131 (by decide) ?_
    refine zv_lshl dX2_element_133 ?_
    refine zv_aload_n (n := 1) dX2_element_134 rfl rfl ?_
    refine zr_gR dX2_element_135 fg_268 h (fun v26 e27 h => ?_)
    refine zv_iload_n (n := 0) dX2_element_138 rfl rfl ?_
    refine zv_iconst (v := 2) dX2_element_139 (by decide) ?_
    refine zv_iload_n (n := 3) dX2_element_140 rfl rfl ?_
    refine zv_imul dX2_element_141 ?_
    refine zv_iadd dX2_element_142 ?_
    refine zv_iconst (v := 1) dX2_element_143 (by decide) ?_
    refine zv_iadd dX2_element_144 ?_
    refine zr_aI dX2_element_145 h (fun v28 e29 h => ?_)
    refine zv_i2l dX2_element_146 ?_
    refine zv_ldc2 dX2_element_147 wd_1179 ?_
    refine zv_land dX2_element_150 ?_
    refine zv_lor dX2_element_151 ?_
    cases h
    exact zv_lret dX2_element_152 rfl
  refine zv_tableOut (tgt := 153) dX2_element_15 (by have := lv_neT c7 (show (4 : Int32).toInt = 4 by decide); have := lv_neT c12 (show (5 : Int32).toInt = 5 by decide); have := lv_neT c13 (show (6 : Int32).toInt = 6 by decide); have := lv_neT c14 (show (7 : Int32).toInt = 7 by decide); have := lv_neT c15 (show (8 : Int32).toInt = 8 by decide); have := lv_neT c20 (show (9 : Int32).toInt = 9 by decide); have := lv_neT c21 (show (10 : Int32).toInt = 10 by decide); have := lv_neT c30 (show (11 : Int32).toInt = 11 by decide); omega) (by decide) ?_
  exact zv_fewer [1, 3, 0] rfl (kX2_element_153 hd _ _ _ _ h)
def mX2_element (N : Nat) (a0 : Nat) (a1 : Int32) (a2 : Int32) (x : zv_X) : Option (zv_X × Int64) := mX2_element_0 N a0 a1 a2 x
theorem tX2_element {d : Nat} (hd : 1 ≤ d) {N : Nat} {x : zv_X} {a0 : Nat} {a1 : Int32} {a2 : Int32} {o : (zv_X × Int64)} (h : mX2_element N a0 a1 a2 x = some o) : zv_T d yX2_element cX2_element 4 ((some .long)) [.ref a0, .int a1, .int a2] x o.1 (some (.long o.2)) := by
  unfold mX2_element at h
  exact zv_enter (by decide) (Nat.le_of_ble_eq_true rfl) (kX2_element_0 hd _ _ _ _ h)

abbrev fX2_length (d : Nat) (x0 : zv_X) (o : (zv_X × Int32)) : zv_G := (d, RX2, cX2_length, 2, (some .int), ("length", []), x0, o.1, zv_fin x0 o.1 (some (.int o.2)))
def mX2_length_0 (N : Nat) (l0 : Nat) (l1 : Int32) (x : zv_X) : Option (zv_X × Int32) := (zm_R x l0 2 1).bind fun v1 => (zm_R x l0 2 2).bind fun v3 => (zm_aI x v3 l1).bind fun v5 => (zm_aI x v1 (v5 + (1 : Int32))).bind fun v7 => some (x, v7)
theorem kX2_length_0 {d : Nat} {x0 : zv_X} {o : (zv_X × Int32)} (hd : 0 ≤ d) {N : Nat} (l0 : Nat) (l1 : Int32) (x : zv_X) (h : mX2_length_0 N l0 l1 x = some o) : zv_V (fX2_length d x0 o) 0 [(0, .ref l0), (1, .int l1)] [] x := by
  unfold mX2_length_0 at h
  refine zv_aload_n (n := 0) dX2_length_0 rfl rfl ?_
  refine zr_gR dX2_length_1 fg_268 h (fun v1 e2 h => ?_)
  refine zv_aload_n (n := 0) dX2_length_4 rfl rfl ?_
  refine zr_gR dX2_length_5 fg_269 h (fun v3 e4 h => ?_)
  refine zv_iload_n (n := 1) dX2_length_8 rfl rfl ?_
  refine zr_aI dX2_length_9 h (fun v5 e6 h => ?_)
  refine zv_iconst (v := 1) dX2_length_10 (by decide) ?_
  refine zv_iadd dX2_length_11 ?_
  refine zr_aI dX2_length_12 h (fun v7 e8 h => ?_)
  cases h
  exact zv_iret dX2_length_13 rfl
def mX2_length (N : Nat) (a0 : Nat) (a1 : Int32) (x : zv_X) : Option (zv_X × Int32) := mX2_length_0 N a0 a1 x
theorem tX2_length {d : Nat} (hd : 0 ≤ d) {N : Nat} {x : zv_X} {a0 : Nat} {a1 : Int32} {o : (zv_X × Int32)} (h : mX2_length N a0 a1 x = some o) : zv_T d yX2_length cX2_length 2 ((some .int)) [.ref a0, .int a1] x o.1 (some (.int o.2)) := by
  unfold mX2_length at h
  exact zv_enter (by decide) (Nat.le_of_ble_eq_true rfl) (kX2_length_0 hd _ _ _ h)

abbrev fX4_isForSort (d : Nat) (x0 : zv_X) (o : (zv_X × Int32)) : zv_G := (d, RX4, cX4_isForSort, 2, (some .boolean), ("isForSort", []), x0, o.1, zv_fin x0 o.1 (some (.int o.2)))
def mX4_isForSort_59 (N : Nat) (s0 : Int32) (x : zv_X) : Option (zv_X × Int32) := if s0 = 0 ∨ s0 = 1 then some (x, s0) else none
theorem kX4_isForSort_59 {d : Nat} {x0 : zv_X} {o : (zv_X × Int32)} (hd : 0 ≤ d) {N : Nat} (s0 : Int32) (x : zv_X) (h : mX4_isForSort_59 N s0 x = some o) : zv_V (fX4_isForSort d x0 o) 59 [] [.int s0] x := by
  unfold mX4_isForSort_59 at h
  obtain ⟨hv, h⟩ := zg h
  cases h
  exact zv_zret dX4_isForSort_59 rfl hv
def mX4_isForSort_71 (N : Nat) (s0 : Int32) (x : zv_X) : Option (zv_X × Int32) := if s0 = 0 ∨ s0 = 1 then some (x, s0) else none
theorem kX4_isForSort_71 {d : Nat} {x0 : zv_X} {o : (zv_X × Int32)} (hd : 0 ≤ d) {N : Nat} (s0 : Int32) (x : zv_X) (h : mX4_isForSort_71 N s0 x = some o) : zv_V (fX4_isForSort d x0 o) 71 [] [.int s0] x := by
  unfold mX4_isForSort_71 at h
  obtain ⟨hv, h⟩ := zg h
  cases h
  exact zv_zret dX4_isForSort_71 rfl hv
def mX4_isForSort_123 (N : Nat) (s0 : Int32) (x : zv_X) : Option (zv_X × Int32) := if s0 = 0 ∨ s0 = 1 then some (x, s0) else none
theorem kX4_isForSort_123 {d : Nat} {x0 : zv_X} {o : (zv_X × Int32)} (hd : 0 ≤ d) {N : Nat} (s0 : Int32) (x : zv_X) (h : mX4_isForSort_123 N s0 x = some o) : zv_V (fX4_isForSort d x0 o) 123 [] [.int s0] x := by
  unfold mX4_isForSort_123 at h
  obtain ⟨hv, h⟩ := zg h
  cases h
  exact zv_zret dX4_isForSort_123 rfl hv
def mX4_isForSort_112 (N : Nat) (l1 : Int32) (x : zv_X) : Option (zv_X × Int32) := if l1 = (9 : Int32) then (mX4_isForSort_123 N (1 : Int32) x) else (mX4_isForSort_123 N (0 : Int32) x)
theorem kX4_isForSort_112 {d : Nat} {x0 : zv_X} {o : (zv_X × Int32)} (hd : 0 ≤ d) {N : Nat} (l1 : Int32) (x : zv_X) (h : mX4_isForSort_112 N l1 x = some o) : zv_V (fX4_isForSort d x0 o) 112 [(1, .int l1)] [] x := by
  unfold mX4_isForSort_112 at h
  refine zv_iload_n (n := 0) dX4_isForSort_112 rfl rfl ?_
  refine zv_bipush (v := 9) dX4_isForSort_113 (by decide) ?_
  refine zr_icmp_ne (tgt := 122) dX4_isForSort_115 (by decide) h (fun c1 h => ?_) (fun c1 h => ?_)
  · refine zv_iconst (v := 0) dX4_isForSort_122 (by decide) ?_
    exact zv_fewer [] rfl (kX4_isForSort_123 hd _ _ h)
  · refine zv_iconst (v := 1) dX4_isForSort_118 (by decide) ?_
    refine zv_goto (tgt := 123) dX4_isForSort_119 (by decide) ?_
    exact zv_fewer [] rfl (kX4_isForSort_123 hd _ _ h)
def mX4_isForSort_83 (N : Nat) (s0 : Int32) (x : zv_X) : Option (zv_X × Int32) := if s0 = 0 ∨ s0 = 1 then some (x, s0) else none
theorem kX4_isForSort_83 {d : Nat} {x0 : zv_X} {o : (zv_X × Int32)} (hd : 0 ≤ d) {N : Nat} (s0 : Int32) (x : zv_X) (h : mX4_isForSort_83 N s0 x = some o) : zv_V (fX4_isForSort d x0 o) 83 [] [.int s0] x := by
  unfold mX4_isForSort_83 at h
  obtain ⟨hv, h⟩ := zg h
  cases h
  exact zv_zret dX4_isForSort_83 rfl hv
def mX4_isForSort_100 (N : Nat) (s0 : Int32) (x : zv_X) : Option (zv_X × Int32) := if s0 = 0 ∨ s0 = 1 then some (x, s0) else none
theorem kX4_isForSort_100 {d : Nat} {x0 : zv_X} {o : (zv_X × Int32)} (hd : 0 ≤ d) {N : Nat} (s0 : Int32) (x : zv_X) (h : mX4_isForSort_100 N s0 x = some o) : zv_V (fX4_isForSort d x0 o) 100 [] [.int s0] x := by
  unfold mX4_isForSort_100 at h
  obtain ⟨hv, h⟩ := zg h
  cases h
  exact zv_zret dX4_isForSort_100 rfl hv
def mX4_isForSort_95 (N : Nat)  (x : zv_X) : Option (zv_X × Int32) := mX4_isForSort_100 N (1 : Int32) x
theorem kX4_isForSort_95 {d : Nat} {x0 : zv_X} {o : (zv_X × Int32)} (hd : 0 ≤ d) {N : Nat}  (x : zv_X) (h : mX4_isForSort_95 N  x = some o) : zv_V (fX4_isForSort d x0 o) 95 [] [] x := by
  unfold mX4_isForSort_95 at h
  refine zv_iconst (v := 1) dX4_isForSort_95 (by decide) ?_
  refine zv_goto (tgt := 100) dX4_isForSort_96 (by decide) ?_
  exact kX4_isForSort_100 hd _ _ h
def mX4_isForSort_111 (N : Nat) (s0 : Int32) (x : zv_X) : Option (zv_X × Int32) := if s0 = 0 ∨ s0 = 1 then some (x, s0) else none
theorem kX4_isForSort_111 {d : Nat} {x0 : zv_X} {o : (zv_X × Int32)} (hd : 0 ≤ d) {N : Nat} (s0 : Int32) (x : zv_X) (h : mX4_isForSort_111 N s0 x = some o) : zv_V (fX4_isForSort d x0 o) 111 [] [.int s0] x := by
  unfold mX4_isForSort_111 at h
  obtain ⟨hv, h⟩ := zg h
  cases h
  exact zv_zret dX4_isForSort_111 rfl hv
def mX4_isForSort_0 (N : Nat) (l0 : Int32) (l1 : Int32) (x : zv_X) : Option (zv_X × Int32) := if (l0 + (46 : Int32)) = (46 : Int32) then (if l1 = (10 : Int32) then (mX4_isForSort_59 N (1 : Int32) x) else (mX4_isForSort_59 N (0 : Int32) x)) else if (l0 + (46 : Int32)) = (47 : Int32) then (if l1 = (11 : Int32) then (mX4_isForSort_71 N (1 : Int32) x) else (mX4_isForSort_71 N (0 : Int32) x)) else if (l0 + (46 : Int32)) = (48 : Int32) then (mX4_isForSort_112 N l1 x) else if (l0 + (46 : Int32)) = (49 : Int32) then (mX4_isForSort_112 N l1 x) else if (l0 + (46 : Int32)) = (50 : Int32) then (if l1 = (12 : Int32) then (mX4_isForSort_83 N (1 : Int32) x) else (mX4_isForSort_83 N (0 : Int32) x)) else if (l0 + (46 : Int32)) = (51 : Int32) then (if l1 = (8 : Int32) then (mX4_isForSort_95 N x) else (if l1 = (4 : Int32) then (mX4_isForSort_95 N x) else (mX4_isForSort_100 N (0 : Int32) x))) else if (l0 + (46 : Int32)) = (52 : Int32) then (if l1 = (5 : Int32) then (mX4_isForSort_111 N (1 : Int32) x) else (mX4_isForSort_111 N (0 : Int32) x)) else (mX4_isForSort_112 N l1 x)
theorem kX4_isForSort_0 {d : Nat} {x0 : zv_X} {o : (zv_X × Int32)} (hd : 0 ≤ d) {N : Nat} (l0 : Int32) (l1 : Int32) (x : zv_X) (h : mX4_isForSort_0 N l0 l1 x = some o) : zv_V (fX4_isForSort d x0 o) 0 [(0, .int l0), (1, .int l1)] [] x := by
  unfold mX4_isForSort_0 at h
  refine zv_iload_n (n := 0) dX4_isForSort_0 rfl rfl ?_
  refine zv_bipush (v := 46) dX4_isForSort_1 (by decide) ?_
  refine zv_iadd dX4_isForSort_3 ?_
  rcases zif h with ⟨c2, h⟩ | ⟨c2, h⟩
  · refine zr_tabIn (tgt := 48) (off := 44) c2 dX4_isForSort_4 (by decide) (by decide) (by decide) (by decide) ?_
    refine zv_iload_n (n := 1) dX4_isForSort_48 rfl rfl ?_
    refine zv_bipush (v := 10) dX4_isForSort_49 (by decide) ?_
    refine zr_icmp_ne (tgt := 58) dX4_isForSort_51 (by decide) h (fun c1 h => ?_) (fun c1 h => ?_)
    · refine zv_iconst (v := 0) dX4_isForSort_58 (by decide) ?_
      exact zv_fewer [] rfl (kX4_isForSort_59 hd _ _ h)
    · refine zv_iconst (v := 1) dX4_isForSort_54 (by decide) ?_
      refine zv_goto (tgt := 59) dX4_isForSort_55 (by decide) ?_
      exact zv_fewer [] rfl (kX4_isForSort_59 hd _ _ h)
  rcases zif h with ⟨c4, h⟩ | ⟨c4, h⟩
  · refine zr_tabIn (tgt := 60) (off := 56) c4 dX4_isForSort_4 (by decide) (by decide) (by decide) (by decide) ?_
    refine zv_iload_n (n := 1) dX4_isForSort_60 rfl rfl ?_
    refine zv_bipush (v := 11) dX4_isForSort_61 (by decide) ?_
    refine zr_icmp_ne (tgt := 70) dX4_isForSort_63 (by decide) h (fun c3 h => ?_) (fun c3 h => ?_)
    · refine zv_iconst (v := 0) dX4_isForSort_70 (by decide) ?_
      exact zv_fewer [] rfl (kX4_isForSort_71 hd _ _ h)
    · refine zv_iconst (v := 1) dX4_isForSort_66 (by decide) ?_
      refine zv_goto (tgt := 71) dX4_isForSort_67 (by decide) ?_
      exact zv_fewer [] rfl (kX4_isForSort_71 hd _ _ h)
  rcases zif h with ⟨c5, h⟩ | ⟨c5, h⟩
  · refine zr_tabIn (tgt := 112) (off := 108) c5 dX4_isForSort_4 (by decide) (by decide) (by decide) (by decide) ?_
    exact zv_fewer [1] rfl (kX4_isForSort_112 hd _ _ h)
  rcases zif h with ⟨c6, h⟩ | ⟨c6, h⟩
  · refine zr_tabIn (tgt := 112) (off := 108) c6 dX4_isForSort_4 (by decide) (by decide) (by decide) (by decide) ?_
    exact zv_fewer [1] rfl (kX4_isForSort_112 hd _ _ h)
  rcases zif h with ⟨c8, h⟩ | ⟨c8, h⟩
  · refine zr_tabIn (tgt := 72) (off := 68) c8 dX4_isForSort_4 (by decide) (by decide) (by decide) (by decide) ?_
    refine zv_iload_n (n := 1) dX4_isForSort_72 rfl rfl ?_
    refine zv_bipush (v := 12) dX4_isForSort_73 (by decide) ?_
    refine zr_icmp_ne (tgt := 82) dX4_isForSort_75 (by decide) h (fun c7 h => ?_) (fun c7 h => ?_)
    · refine zv_iconst (v := 0) dX4_isForSort_82 (by decide) ?_
      exact zv_fewer [] rfl (kX4_isForSort_83 hd _ _ h)
    · refine zv_iconst (v := 1) dX4_isForSort_78 (by decide) ?_
      refine zv_goto (tgt := 83) dX4_isForSort_79 (by decide) ?_
      exact zv_fewer [] rfl (kX4_isForSort_83 hd _ _ h)
  rcases zif h with ⟨c11, h⟩ | ⟨c11, h⟩
  · refine zr_tabIn (tgt := 84) (off := 80) c11 dX4_isForSort_4 (by decide) (by decide) (by decide) (by decide) ?_
    refine zv_iload_n (n := 1) dX4_isForSort_84 rfl rfl ?_
    refine zv_bipush (v := 8) dX4_isForSort_85 (by decide) ?_
    refine zr_icmp_eq (tgt := 95) dX4_isForSort_87 (by decide) h (fun c10 h => ?_) (fun c10 h => ?_)
    · exact zv_fewer [] rfl (kX4_isForSort_95 hd _ h)
    · refine zv_iload_n (n := 1) dX4_isForSort_90 rfl rfl ?_
      refine zv_iconst (v := 4) dX4_isForSort_91 (by decide) ?_
      refine zr_icmp_ne (tgt := 99) dX4_isForSort_92 (by decide) h (fun c9 h => ?_) (fun c9 h => ?_)
      · refine zv_iconst (v := 0) dX4_isForSort_99 (by decide) ?_
        exact zv_fewer [] rfl (kX4_isForSort_100 hd _ _ h)
      · exact zv_fewer [] rfl (kX4_isForSort_95 hd _ h)
  rcases zif h with ⟨c13, h⟩ | ⟨c13, h⟩
  · refine zr_tabIn (tgt := 101) (off := 97) c13 dX4_isForSort_4 (by decide) (by decide) (by decide) (by decide) ?_
    refine zv_iload_n (n := 1) dX4_isForSort_101 rfl rfl ?_
    refine zv_iconst (v := 5) dX4_isForSort_102 (by decide) ?_
    refine zr_icmp_ne (tgt := 110) dX4_isForSort_103 (by decide) h (fun c12 h => ?_) (fun c12 h => ?_)
    · refine zv_iconst (v := 0) dX4_isForSort_110 (by decide) ?_
      exact zv_fewer [] rfl (kX4_isForSort_111 hd _ _ h)
    · refine zv_iconst (v := 1) dX4_isForSort_106 (by decide) ?_
      refine zv_goto (tgt := 111) dX4_isForSort_107 (by decide) ?_
      exact zv_fewer [] rfl (kX4_isForSort_111 hd _ _ h)
  refine zv_tableOut (tgt := 112) dX4_isForSort_4 (by have := lv_neT c2 (show (46 : Int32).toInt = 46 by decide); have := lv_neT c4 (show (47 : Int32).toInt = 47 by decide); have := lv_neT c5 (show (48 : Int32).toInt = 48 by decide); have := lv_neT c6 (show (49 : Int32).toInt = 49 by decide); have := lv_neT c8 (show (50 : Int32).toInt = 50 by decide); have := lv_neT c11 (show (51 : Int32).toInt = 51 by decide); have := lv_neT c13 (show (52 : Int32).toInt = 52 by decide); omega) (by decide) ?_
  exact zv_fewer [1] rfl (kX4_isForSort_112 hd _ _ h)
def mX4_isForSort (N : Nat) (a0 : Int32) (a1 : Int32) (x : zv_X) : Option (zv_X × Int32) := mX4_isForSort_0 N a0 a1 x
theorem tX4_isForSort {d : Nat} (hd : 0 ≤ d) {N : Nat} {x : zv_X} {a0 : Int32} {a1 : Int32} {o : (zv_X × Int32)} (h : mX4_isForSort N a0 a1 x = some o) : zv_T d yX4_isForSort cX4_isForSort 2 ((some .boolean)) [.int a0, .int a1] x o.1 (some (.int o.2)) := by
  unfold mX4_isForSort at h
  exact zv_enter (by decide) (Nat.le_of_ble_eq_true rfl) (kX4_isForSort_0 hd _ _ _ h)

abbrev fX4_faultOfElement (d : Nat) (x0 : zv_X) (o : (zv_X × Int32)) : zv_G := (d, RX4, cX4_faultOfElement, 4, (some .int), ("faultOfElement", []), x0, o.1, zv_fin x0 o.1 (some (.int o.2)))
def mX4_faultOfElement_45 (N : Nat) (s0 : Int32) (x : zv_X) : Option (zv_X × Int32) := some (x, s0)
theorem kX4_faultOfElement_45 {d : Nat} {x0 : zv_X} {o : (zv_X × Int32)} (hd : 1 ≤ d) {N : Nat} (s0 : Int32) (x : zv_X) (h : mX4_faultOfElement_45 N s0 x = some o) : zv_V (fX4_faultOfElement d x0 o) 45 [] [.int s0] x := by
  unfold mX4_faultOfElement_45 at h
  cases h
  exact zv_iret dX4_faultOfElement_45 rfl
def mX4_faultOfElement_40 (N : Nat)  (x : zv_X) : Option (zv_X × Int32) := mX4_faultOfElement_45 N (3 : Int32) x
theorem kX4_faultOfElement_40 {d : Nat} {x0 : zv_X} {o : (zv_X × Int32)} (hd : 1 ≤ d) {N : Nat}  (x : zv_X) (h : mX4_faultOfElement_40 N  x = some o) : zv_V (fX4_faultOfElement d x0 o) 40 [] [] x := by
  unfold mX4_faultOfElement_40 at h
  refine zv_iconst (v := 3) dX4_faultOfElement_40 (by decide) ?_
  refine zv_goto (tgt := 45) dX4_faultOfElement_41 (by decide) ?_
  exact kX4_faultOfElement_45 hd _ _ h
def mX4_faultOfElement_0 (N : Nat) (l0 : Nat) (l1 : Int32) (l2 : Int32) (l3 : Int32) (x : zv_X) : Option (zv_X × Int32) := if l2 = 0 then (some (x, (2 : Int32))) else ((zm_R x l0 4 2).bind fun v1 => if zm_k x v1 2 = true then ((mX2_tag N v1 l2 x).bind fun o3 => (mX4_isForSort N l1 (-o3.2) o3.1).bind fun o5 => if o5.2 = 0 then (some (o5.1, (5 : Int32))) else (if l3 < 0 then (mX4_faultOfElement_40 N o5.1) else ((zm_R o5.1 l0 4 2).bind fun v7 => if zm_k o5.1 v7 2 = true then ((mX2_length N v7 l2 o5.1).bind fun o9 => if l3 < o9.2 then (mX4_faultOfElement_45 N (0 : Int32) o9.1) else (mX4_faultOfElement_40 N o9.1)) else none))) else none)
theorem kX4_faultOfElement_0 {d : Nat} {x0 : zv_X} {o : (zv_X × Int32)} (hd : 1 ≤ d) {N : Nat} (l0 : Nat) (l1 : Int32) (l2 : Int32) (l3 : Int32) (x : zv_X) (h : mX4_faultOfElement_0 N l0 l1 l2 l3 x = some o) : zv_V (fX4_faultOfElement d x0 o) 0 [(0, .ref l0), (1, .int l1), (2, .int l2), (3, .int l3)] [] x := by
  unfold mX4_faultOfElement_0 at h
  refine zv_iload_n (n := 2) dX4_faultOfElement_0 rfl rfl ?_
  refine zr_if_ne (tgt := 6) dX4_faultOfElement_1 (by decide) h (fun c14 h => ?_) (fun c14 h => ?_)
  · refine zv_iload_n (n := 1) dX4_faultOfElement_6 rfl rfl ?_
    refine zv_aload_n (n := 0) dX4_faultOfElement_7 rfl rfl ?_
    refine zr_gR dX4_faultOfElement_8 fg_368 h (fun v1 e2 h => ?_)
    refine zv_iload_n (n := 2) dX4_faultOfElement_11 rfl rfl ?_
    refine zr_cVi (ci := 2) (st := [.int l1]) dX4_faultOfElement_12 mw_X2_tag wd_1163 wd_1164 wd_1165 rfl rfl [.int l2] rfl rfl (Nat.le_of_ble_eq_true rfl) (show d - 1 + 1 ≤ d by omega) h (fun o3 e4 => tX2_tag (d := d - 1) (by omega) e4) (fun o3 e4 h => ?_)
    refine zv_ineg dX4_faultOfElement_15 ?_
    refine zr_cSi (st := []) dX4_faultOfElement_16 mw_X4_isForSort wd_1167 wd_1168 [.int l1, .int (-o3.2)] rfl rfl (Nat.le_of_ble_eq_true rfl) (show d - 1 + 1 ≤ d by omega) h (fun o5 e6 => tX4_isForSort (d := d - 1) (by omega) e6) (fun o5 e6 h => ?_)
    refine zr_if_ne (tgt := 24) dX4_faultOfElement_19 (by decide) h (fun c13 h => ?_) (fun c13 h => ?_)
    · refine zv_iload_n (n := 3) dX4_faultOfElement_24 rfl rfl ?_
      refine zr_if_lt (tgt := 40) dX4_faultOfElement_25 (by decide) h (fun c12 h => ?_) (fun c12 h => ?_)
      · exact zv_fewer [] rfl (kX4_faultOfElement_40 hd _ h)
      · refine zv_iload_n (n := 3) dX4_faultOfElement_28 rfl rfl ?_
        refine zv_aload_n (n := 0) dX4_faultOfElement_29 rfl rfl ?_
        refine zr_gR dX4_faultOfElement_30 fg_368 h (fun v7 e8 h => ?_)
        refine zv_iload_n (n := 2) dX4_faultOfElement_33 rfl rfl ?_
        refine zr_cVi (ci := 2) (st := [.int l3]) dX4_faultOfElement_34 mw_X2_length wd_1170 wd_1171 wd_1172 rfl rfl [.int l2] rfl rfl (Nat.le_of_ble_eq_true rfl) (show d - 1 + 1 ≤ d by omega) h (fun o9 e10 => tX2_length (d := d - 1) (by omega) e10) (fun o9 e10 h => ?_)
        refine zr_icmp_lt (tgt := 44) dX4_faultOfElement_37 (by decide) h (fun c11 h => ?_) (fun c11 h => ?_)
        · refine zv_iconst (v := 0) dX4_faultOfElement_44 (by decide) ?_
          exact zv_fewer [] rfl (kX4_faultOfElement_45 hd _ _ h)
        · exact zv_fewer [] rfl (kX4_faultOfElement_40 hd _ h)
    · refine zv_iconst (v := 5) dX4_faultOfElement_22 (by decide) ?_
      cases h
      exact zv_iret dX4_faultOfElement_23 rfl
  · refine zv_iconst (v := 2) dX4_faultOfElement_4 (by decide) ?_
    cases h
    exact zv_iret dX4_faultOfElement_5 rfl
def mX4_faultOfElement (N : Nat) (a0 : Nat) (a1 : Int32) (a2 : Int32) (a3 : Int32) (x : zv_X) : Option (zv_X × Int32) := mX4_faultOfElement_0 N a0 a1 a2 a3 x
theorem tX4_faultOfElement {d : Nat} (hd : 1 ≤ d) {N : Nat} {x : zv_X} {a0 : Nat} {a1 : Int32} {a2 : Int32} {a3 : Int32} {o : (zv_X × Int32)} (h : mX4_faultOfElement N a0 a1 a2 a3 x = some o) : zv_T d yX4_faultOfElement cX4_faultOfElement 4 ((some .int)) [.ref a0, .int a1, .int a2, .int a3] x o.1 (some (.int o.2)) := by
  unfold mX4_faultOfElement at h
  exact zv_enter (by decide) (Nat.le_of_ble_eq_true rfl) (kX4_faultOfElement_0 hd _ _ _ _ _ h)

abbrev fX4_loadElement (d : Nat) (x0 : zv_X) (o : (zv_X × Int32)) : zv_G := (d, RX4, cX4_loadElement, 7, (some .int), ("loadElement", []), x0, o.1, zv_fin x0 o.1 (some (.int o.2)))
def mX4_loadElement_86 (N : Nat) (l0 : Nat) (x : zv_X) : Option (zv_X × Int32) := if zm_k x l0 4 = true then ((mX4_goOn N l0 (1 : Int32) x).bind fun o1 => some (o1.1, o1.2)) else none
theorem kX4_loadElement_86 {d : Nat} {x0 : zv_X} {o : (zv_X × Int32)} (hd : 2 ≤ d) {N : Nat} (l0 : Nat) (x : zv_X) (h : mX4_loadElement_86 N l0 x = some o) : zv_V (fX4_loadElement d x0 o) 86 [(0, .ref l0)] [] x := by
  unfold mX4_loadElement_86 at h
  refine zv_aload_n (n := 0) dX4_loadElement_86 rfl rfl ?_
  refine zv_iconst (v := 1) dX4_loadElement_87 (by decide) ?_
  refine zr_cVi (ci := 4) (st := []) dX4_loadElement_88 mw_X4_goOn wd_1117 wd_1119 wd_22 rfl rfl [.int (1 : Int32)] rfl rfl (Nat.le_of_ble_eq_true rfl) (show d - 1 + 1 ≤ d by omega) h (fun o1 e2 => tX4_goOn (d := d - 1) (by omega) e2) (fun o1 e2 h => ?_)
  cases h
  exact zv_iret dX4_loadElement_91 rfl
def mX4_loadElement_0 (N : Nat) (l0 : Nat) (l1 : Int32) (x : zv_X) : Option (zv_X × Int32) := (zm_R x l0 4 5).bind fun v1 => if zm_k x v1 1 = true then ((mX1_reference N v1 (1 : Int32) x).bind fun o3 => (zm_R o3.1 l0 4 5).bind fun v5 => if zm_k o3.1 v5 1 = true then ((mX1_number N v5 (0 : Int32) o3.1).bind fun o7 => if zm_k o7.1 l0 4 = true then ((mX4_faultOfElement N l0 (l1 - (46 : Int32)) o3.2 (Int64.toInt32 o7.2) o7.1).bind fun o9 => if o9.2 = 0 then ((zm_R o9.1 l0 4 2).bind fun v11 => if zm_k o9.1 v11 2 = true then ((mX2_element N v11 o3.2 (Int64.toInt32 o7.2) o9.1).bind fun o13 => (zm_R o13.1 l0 4 5).bind fun v15 => if zm_k o13.1 v15 1 = true then ((mX1_drop N v15 (2 : Int32) o13.1).bind fun o17 => if l1 = (50 : Int32) then ((zm_R o17 l0 4 5).bind fun v23 => if zm_k o17 v23 1 = true then ((mX1_pushReference N v23 (Int64.toInt32 o13.2) o17).bind fun o25 => mX4_loadElement_86 N l0 o25) else none) else ((zm_R o17 l0 4 5).bind fun v19 => if zm_k o17 v19 1 = true then ((mX1_pushNumber N v19 o13.2 o17).bind fun o21 => mX4_loadElement_86 N l0 o21) else none)) else none) else none) else (some (o9.1, o9.2))) else none) else none) else none
theorem kX4_loadElement_0 {d : Nat} {x0 : zv_X} {o : (zv_X × Int32)} (hd : 2 ≤ d) {N : Nat} (l0 : Nat) (l1 : Int32) (x : zv_X) (h : mX4_loadElement_0 N l0 l1 x = some o) : zv_V (fX4_loadElement d x0 o) 0 [(0, .ref l0), (1, .int l1)] [] x := by
  unfold mX4_loadElement_0 at h
  refine zv_aload_n (n := 0) dX4_loadElement_0 rfl rfl ?_
  refine zr_gR dX4_loadElement_1 fg_371 h (fun v1 e2 h => ?_)
  refine zv_iconst (v := 1) dX4_loadElement_4 (by decide) ?_
  refine zr_cVi (ci := 1) (st := []) dX4_loadElement_5 mw_X1_reference wd_1151 wd_1152 wd_1153 rfl rfl [.int (1 : Int32)] rfl rfl (Nat.le_of_ble_eq_true rfl) (show d - 1 + 1 ≤ d by omega) h (fun o3 e4 => tX1_reference (d := d - 1) (by omega) e4) (fun o3 e4 h => ?_)
  refine zv_istore_n (L' := [(2, .int o3.2), (0, .ref l0), (1, .int l1)]) dX4_loadElement_8 rfl (Nat.le_of_ble_eq_true rfl) rfl ?_
  refine zv_aload_n (n := 1) dX4_loadElement_9 rfl rfl ?_
  refine zr_gR dX4_loadElement_10 fg_371 h (fun v5 e6 h => ?_)
  refine zv_iconst (v := 0) dX4_loadElement_13 (by decide) ?_
  refine zr_cVl (ci := 1) (st := []) dX4_loadElement_14 mw_X1_number wd_1155 wd_1156 wd_1157 rfl rfl [.int (0 : Int32)] rfl rfl (Nat.le_of_ble_eq_true rfl) (show d - 1 + 1 ≤ d by omega) h (fun o7 e8 => tX1_number (d := d - 1) (by omega) e8) (fun o7 e8 h => ?_)
  refine zv_l2i dX4_loadElement_17 ?_
  refine zv_istore_n (L' := [(3, .int (Int64.toInt32 o7.2)), (2, .int o3.2), (0, .ref l0), (1, .int l1)]) dX4_loadElement_18 rfl (Nat.le_of_ble_eq_true rfl) rfl ?_
  refine zv_aload_n (n := 2) dX4_loadElement_19 rfl rfl ?_
  refine zv_iload_n (n := 3) dX4_loadElement_20 rfl rfl ?_
  refine zv_bipush (v := 46) dX4_loadElement_21 (by decide) ?_
  refine zv_isub dX4_loadElement_23 ?_
  refine zv_iload_n (n := 1) dX4_loadElement_24 rfl rfl ?_
  refine zv_iload_n (n := 0) dX4_loadElement_25 rfl rfl ?_
  refine zr_cVi (ci := 4) (st := []) dX4_loadElement_26 mw_X4_faultOfElement wd_1159 wd_1161 wd_25 rfl rfl [.int (l1 - (46 : Int32)), .int o3.2, .int (Int64.toInt32 o7.2)] rfl rfl (Nat.le_of_ble_eq_true rfl) (show d - 1 + 1 ≤ d by omega) h (fun o9 e10 => tX4_faultOfElement (d := d - 1) (by omega) e10) (fun o9 e10 h => ?_)
  refine zv_istore (L' := [(4, .int o9.2), (3, .int (Int64.toInt32 o7.2)), (2, .int o3.2), (0, .ref l0), (1, .int l1)]) dX4_loadElement_29 (Nat.le_of_ble_eq_true rfl) rfl ?_
  refine zv_iload (n := 0) dX4_loadElement_31 rfl ?_
  refine zr_if_eq (tgt := 39) dX4_loadElement_33 (by decide) h (fun c28 h => ?_) (fun c28 h => ?_)
  · refine zv_aload_n (n := 3) dX4_loadElement_39 rfl rfl ?_
    refine zr_gR dX4_loadElement_40 fg_368 h (fun v11 e12 h => ?_)
    refine zv_iload_n (n := 2) dX4_loadElement_43 rfl rfl ?_
    refine zv_iload_n (n := 1) dX4_loadElement_44 rfl rfl ?_
    refine zr_cVl (ci := 2) (st := []) dX4_loadElement_45 mw_X2_element wd_1174 wd_1175 wd_1176 rfl rfl [.int o3.2, .int (Int64.toInt32 o7.2)] rfl rfl (Nat.le_of_ble_eq_true rfl) (show d - 1 + 1 ≤ d by omega) h (fun o13 e14 => tX2_element (d := d - 1) (by omega) e14) (fun o13 e14 h => ?_)
    refine zv_lstore (L' := [(5, .long o13.2), (4, .int o9.2), (3, .int (Int64.toInt32 o7.2)), (2, .int o3.2), (0, .ref l0), (1, .int l1)]) dX4_loadElement_48 (Nat.le_of_ble_eq_true rfl) rfl ?_
    refine zv_aload_n (n := 4) dX4_loadElement_50 rfl rfl ?_
    refine zr_gR dX4_loadElement_51 fg_371 h (fun v15 e16 h => ?_)
    refine zv_iconst (v := 2) dX4_loadElement_54 (by decide) ?_
    refine zr_cVv (ci := 1) (st := []) dX4_loadElement_55 mw_X1_drop wd_1180 wd_1181 wd_1182 rfl rfl [.int (2 : Int32)] rfl rfl (Nat.le_of_ble_eq_true rfl) (show d - 1 + 1 ≤ d by omega) h (fun o17 e18 => tX1_drop (d := d - 1) (by omega) e18) (fun o17 e18 h => ?_)
    refine zv_iload_n (n := 5) dX4_loadElement_58 rfl rfl ?_
    refine zv_bipush (v := 50) dX4_loadElement_59 (by decide) ?_
    refine zr_icmp_ne (tgt := 77) dX4_loadElement_61 (by decide) h (fun c27 h => ?_) (fun c27 h => ?_)
    · refine zv_aload_n (n := 4) dX4_loadElement_77 rfl rfl ?_
      refine zr_gR dX4_loadElement_78 fg_371 h (fun v19 e20 h => ?_)
      refine zv_lload (n := 0) dX4_loadElement_81 rfl ?_
      refine zr_cVv (ci := 1) (st := []) dX4_loadElement_83 mw_X1_pushNumber wd_1125 wd_1126 wd_1127 rfl rfl [.long o13.2] rfl rfl (Nat.le_of_ble_eq_true rfl) (show d - 1 + 1 ≤ d by omega) h (fun o21 e22 => tX1_pushNumber (d := d - 1) (by omega) e22) (fun o21 e22 h => ?_)
      exact zv_fewer [4] rfl (kX4_loadElement_86 hd _ _ h)
    · refine zv_aload_n (n := 4) dX4_loadElement_64 rfl rfl ?_
      refine zr_gR dX4_loadElement_65 fg_371 h (fun v23 e24 h => ?_)
      refine zv_lload (n := 0) dX4_loadElement_68 rfl ?_
      refine zv_l2i dX4_loadElement_70 ?_
      refine zr_cVv (ci := 1) (st := []) dX4_loadElement_71 mw_X1_pushReference wd_1121 wd_1122 wd_1123 rfl rfl [.int (Int64.toInt32 o13.2)] rfl rfl (Nat.le_of_ble_eq_true rfl) (show d - 1 + 1 ≤ d by omega) h (fun o25 e26 => tX1_pushReference (d := d - 1) (by omega) e26) (fun o25 e26 h => ?_)
      refine zv_goto (tgt := 86) dX4_loadElement_74 (by decide) ?_
      exact zv_fewer [4] rfl (kX4_loadElement_86 hd _ _ h)
  · refine zv_iload (n := 0) dX4_loadElement_36 rfl ?_
    cases h
    exact zv_iret dX4_loadElement_38 rfl
def mX4_loadElement (N : Nat) (a0 : Nat) (a1 : Int32) (x : zv_X) : Option (zv_X × Int32) := mX4_loadElement_0 N a0 a1 x
theorem tX4_loadElement {d : Nat} (hd : 2 ≤ d) {N : Nat} {x : zv_X} {a0 : Nat} {a1 : Int32} {o : (zv_X × Int32)} (h : mX4_loadElement N a0 a1 x = some o) : zv_T d yX4_loadElement cX4_loadElement 7 ((some .int)) [.ref a0, .int a1] x o.1 (some (.int o.2)) := by
  unfold mX4_loadElement at h
  exact zv_enter (by decide) (Nat.le_of_ble_eq_true rfl) (kX4_loadElement_0 hd _ _ _ h)

abbrev fX2_wordsOfArray (d : Nat) (x0 : zv_X) (o : (zv_X × Int64)) : zv_G := (d, RX2, cX2_wordsOfArray, 3, (some .long), ("wordsOfArray", []), x0, o.1, zv_fin x0 o.1 (some (.long o.2)))
def mX2_wordsOfArray_48 (N : Nat) (l1 : Int64) (x : zv_X) : Option (zv_X × Int64) := some (x, (2 : Int64) + ((l1 + (3 : Int64)) / (4 : Int64)))
theorem kX2_wordsOfArray_48 {d : Nat} {x0 : zv_X} {o : (zv_X × Int64)} (hd : 0 ≤ d) {N : Nat} (l1 : Int64) (x : zv_X) (h : mX2_wordsOfArray_48 N l1 x = some o) : zv_V (fX2_wordsOfArray d x0 o) 48 [(1, .long l1)] [] x := by
  unfold mX2_wordsOfArray_48 at h
  refine zv_ldc2 dX2_wordsOfArray_48 wd_1344 ?_
  refine zv_lload_n (n := 0) dX2_wordsOfArray_51 rfl rfl ?_
  refine zv_ldc2 dX2_wordsOfArray_52 wd_1345 ?_
  refine zv_ladd dX2_wordsOfArray_55 ?_
  refine zv_ldc2 dX2_wordsOfArray_56 wd_1346 ?_
  refine zv_ldiv dX2_wordsOfArray_59 (by decide) ?_
  refine zv_ladd dX2_wordsOfArray_60 ?_
  cases h
  exact zv_lret dX2_wordsOfArray_61 rfl
def mX2_wordsOfArray_62 (N : Nat) (l1 : Int64) (x : zv_X) : Option (zv_X × Int64) := some (x, (2 : Int64) + ((l1 + (1 : Int64)) / (2 : Int64)))
theorem kX2_wordsOfArray_62 {d : Nat} {x0 : zv_X} {o : (zv_X × Int64)} (hd : 0 ≤ d) {N : Nat} (l1 : Int64) (x : zv_X) (h : mX2_wordsOfArray_62 N l1 x = some o) : zv_V (fX2_wordsOfArray d x0 o) 62 [(1, .long l1)] [] x := by
  unfold mX2_wordsOfArray_62 at h
  refine zv_ldc2 dX2_wordsOfArray_62 wd_1344 ?_
  refine zv_lload_n (n := 0) dX2_wordsOfArray_65 rfl rfl ?_
  refine zv_lconst (v := 1) dX2_wordsOfArray_66 (by decide) ?_
  refine zv_ladd dX2_wordsOfArray_67 ?_
  refine zv_ldc2 dX2_wordsOfArray_68 wd_1344 ?_
  refine zv_ldiv dX2_wordsOfArray_71 (by decide) ?_
  refine zv_ladd dX2_wordsOfArray_72 ?_
  cases h
  exact zv_lret dX2_wordsOfArray_73 rfl
def mX2_wordsOfArray_84 (N : Nat) (l1 : Int64) (x : zv_X) : Option (zv_X × Int64) := some (x, (2 : Int64) + l1)
theorem kX2_wordsOfArray_84 {d : Nat} {x0 : zv_X} {o : (zv_X × Int64)} (hd : 0 ≤ d) {N : Nat} (l1 : Int64) (x : zv_X) (h : mX2_wordsOfArray_84 N l1 x = some o) : zv_V (fX2_wordsOfArray d x0 o) 84 [(1, .long l1)] [] x := by
  unfold mX2_wordsOfArray_84 at h
  refine zv_ldc2 dX2_wordsOfArray_84 wd_1344 ?_
  refine zv_lload_n (n := 0) dX2_wordsOfArray_87 rfl rfl ?_
  refine zv_ladd dX2_wordsOfArray_88 ?_
  cases h
  exact zv_lret dX2_wordsOfArray_89 rfl
def mX2_wordsOfArray_0 (N : Nat) (l0 : Int32) (l1 : Int64) (x : zv_X) : Option (zv_X × Int64) := if l0 = (4 : Int32) then (mX2_wordsOfArray_48 N l1 x) else if l0 = (5 : Int32) then (mX2_wordsOfArray_62 N l1 x) else if l0 = (6 : Int32) then (mX2_wordsOfArray_84 N l1 x) else if l0 = (7 : Int32) then (mX2_wordsOfArray_84 N l1 x) else if l0 = (8 : Int32) then (mX2_wordsOfArray_48 N l1 x) else if l0 = (9 : Int32) then (mX2_wordsOfArray_62 N l1 x) else if l0 = (10 : Int32) then (mX2_wordsOfArray_84 N l1 x) else if l0 = (11 : Int32) then (some (x, (2 : Int64) + ((2 : Int64) * l1))) else (mX2_wordsOfArray_84 N l1 x)
theorem kX2_wordsOfArray_0 {d : Nat} {x0 : zv_X} {o : (zv_X × Int64)} (hd : 0 ≤ d) {N : Nat} (l0 : Int32) (l1 : Int64) (x : zv_X) (h : mX2_wordsOfArray_0 N l0 l1 x = some o) : zv_V (fX2_wordsOfArray d x0 o) 0 [(0, .int l0), (1, .long l1)] [] x := by
  unfold mX2_wordsOfArray_0 at h
  refine zv_iload_n (n := 0) dX2_wordsOfArray_0 rfl rfl ?_
  rcases zif h with ⟨c1, h⟩ | ⟨c1, h⟩
  · refine zr_tabIn (tgt := 48) (off := 47) c1 dX2_wordsOfArray_1 (by decide) (by decide) (by decide) (by decide) ?_
    exact zv_fewer [1] rfl (kX2_wordsOfArray_48 hd _ _ h)
  rcases zif h with ⟨c2, h⟩ | ⟨c2, h⟩
  · refine zr_tabIn (tgt := 62) (off := 61) c2 dX2_wordsOfArray_1 (by decide) (by decide) (by decide) (by decide) ?_
    exact zv_fewer [1] rfl (kX2_wordsOfArray_62 hd _ _ h)
  rcases zif h with ⟨c3, h⟩ | ⟨c3, h⟩
  · refine zr_tabIn (tgt := 84) (off := 83) c3 dX2_wordsOfArray_1 (by decide) (by decide) (by decide) (by decide) ?_
    exact zv_fewer [1] rfl (kX2_wordsOfArray_84 hd _ _ h)
  rcases zif h with ⟨c4, h⟩ | ⟨c4, h⟩
  · refine zr_tabIn (tgt := 84) (off := 83) c4 dX2_wordsOfArray_1 (by decide) (by decide) (by decide) (by decide) ?_
    exact zv_fewer [1] rfl (kX2_wordsOfArray_84 hd _ _ h)
  rcases zif h with ⟨c5, h⟩ | ⟨c5, h⟩
  · refine zr_tabIn (tgt := 48) (off := 47) c5 dX2_wordsOfArray_1 (by decide) (by decide) (by decide) (by decide) ?_
    exact zv_fewer [1] rfl (kX2_wordsOfArray_48 hd _ _ h)
  rcases zif h with ⟨c6, h⟩ | ⟨c6, h⟩
  · refine zr_tabIn (tgt := 62) (off := 61) c6 dX2_wordsOfArray_1 (by decide) (by decide) (by decide) (by decide) ?_
    exact zv_fewer [1] rfl (kX2_wordsOfArray_62 hd _ _ h)
  rcases zif h with ⟨c7, h⟩ | ⟨c7, h⟩
  · refine zr_tabIn (tgt := 84) (off := 83) c7 dX2_wordsOfArray_1 (by decide) (by decide) (by decide) (by decide) ?_
    exact zv_fewer [1] rfl (kX2_wordsOfArray_84 hd _ _ h)
  rcases zif h with ⟨c8, h⟩ | ⟨c8, h⟩
  · refine zr_tabIn (tgt := 74) (off := 73) c8 dX2_wordsOfArray_1 (by decide) (by decide) (by decide) (by decide) ?_
    refine zv_ldc2 dX2_wordsOfArray_74 wd_1344 ?_
    refine zv_ldc2 dX2_wordsOfArray_77 wd_1344 ?_
    refine zv_lload_n (n := 1) dX2_wordsOfArray_80 rfl rfl ?_
    refine zv_lmul dX2_wordsOfArray_81 ?_
    refine zv_ladd dX2_wordsOfArray_82 ?_
    cases h
    exact zv_lret dX2_wordsOfArray_83 rfl
  refine zv_tableOut (tgt := 84) dX2_wordsOfArray_1 (by have := lv_neT c1 (show (4 : Int32).toInt = 4 by decide); have := lv_neT c2 (show (5 : Int32).toInt = 5 by decide); have := lv_neT c3 (show (6 : Int32).toInt = 6 by decide); have := lv_neT c4 (show (7 : Int32).toInt = 7 by decide); have := lv_neT c5 (show (8 : Int32).toInt = 8 by decide); have := lv_neT c6 (show (9 : Int32).toInt = 9 by decide); have := lv_neT c7 (show (10 : Int32).toInt = 10 by decide); have := lv_neT c8 (show (11 : Int32).toInt = 11 by decide); omega) (by decide) ?_
  exact zv_fewer [1] rfl (kX2_wordsOfArray_84 hd _ _ h)
def mX2_wordsOfArray (N : Nat) (a0 : Int32) (a1 : Int64) (x : zv_X) : Option (zv_X × Int64) := mX2_wordsOfArray_0 N a0 a1 x
theorem tX2_wordsOfArray {d : Nat} (hd : 0 ≤ d) {N : Nat} {x : zv_X} {a0 : Int32} {a1 : Int64} {o : (zv_X × Int64)} (h : mX2_wordsOfArray N a0 a1 x = some o) : zv_T d yX2_wordsOfArray cX2_wordsOfArray 3 ((some .long)) [.int a0, .long a1] x o.1 (some (.long o.2)) := by
  unfold mX2_wordsOfArray at h
  exact zv_enter (by decide) (Nat.le_of_ble_eq_true rfl) (kX2_wordsOfArray_0 hd _ _ _ h)

abbrev fX4_makeArray (d : Nat) (x0 : zv_X) (o : (zv_X × Int32)) : zv_G := (d, RX4, cX4_makeArray, 5, (some .int), ("makeArray", []), x0, o.1, zv_fin x0 o.1 (some (.int o.2)))
def mX4_makeArray_0 (N : Nat) (l0 : Nat) (l1 : Int32) (l2 : Int32) (x : zv_X) : Option (zv_X × Int32) := (zm_R x l0 4 5).bind fun v1 => if zm_k x v1 1 = true then ((mX1_number N v1 (0 : Int32) x).bind fun o3 => if 0 ≤ (Int64.toInt32 o3.2) then ((mX2_wordsOfArray N l1 (Int32.toInt64 (Int64.toInt32 o3.2)) o3.1).bind fun o5 => if zm_k o5.1 l0 4 = true then ((mX4_make N l0 (-l1) (Int64.toInt32 o3.2) o5.2 o5.1).bind fun o7 => if o7.2 = 0 then (some (o7.1, (0 : Int32))) else ((zm_R o7.1 l0 4 5).bind fun v9 => if zm_k o7.1 v9 1 = true then ((mX1_drop N v9 (1 : Int32) o7.1).bind fun o11 => (zm_R o11 l0 4 5).bind fun v13 => if zm_k o11 v13 1 = true then ((mX1_pushReference N v13 o7.2 o11).bind fun o15 => if zm_k o15 l0 4 = true then ((mX4_goOn N l0 l2 o15).bind fun o17 => some (o17.1, o17.2)) else none) else none) else none)) else none) else (some (o3.1, (4 : Int32)))) else none
theorem kX4_makeArray_0 {d : Nat} {x0 : zv_X} {o : (zv_X × Int32)} (hd : 4 ≤ d) {N : Nat} (l0 : Nat) (l1 : Int32) (l2 : Int32) (x : zv_X) (h : mX4_makeArray_0 N l0 l1 l2 x = some o) : zv_V (fX4_makeArray d x0 o) 0 [(0, .ref l0), (1, .int l1), (2, .int l2)] [] x := by
  unfold mX4_makeArray_0 at h
  refine zv_aload_n (n := 0) dX4_makeArray_0 rfl rfl ?_
  refine zr_gR dX4_makeArray_1 fg_371 h (fun v1 e2 h => ?_)
  refine zv_iconst (v := 0) dX4_makeArray_4 (by decide) ?_
  refine zr_cVl (ci := 1) (st := []) dX4_makeArray_5 mw_X1_number wd_1155 wd_1156 wd_1157 rfl rfl [.int (0 : Int32)] rfl rfl (Nat.le_of_ble_eq_true rfl) (show d - 1 + 1 ≤ d by omega) h (fun o3 e4 => tX1_number (d := d - 1) (by omega) e4) (fun o3 e4 h => ?_)
  refine zv_l2i dX4_makeArray_8 ?_
  refine zv_istore_n (L' := [(3, .int (Int64.toInt32 o3.2)), (0, .ref l0), (1, .int l1), (2, .int l2)]) dX4_makeArray_9 rfl (Nat.le_of_ble_eq_true rfl) rfl ?_
  refine zv_iload_n (n := 0) dX4_makeArray_10 rfl rfl ?_
  refine zr_if_ge (tgt := 16) dX4_makeArray_11 (by decide) h (fun c20 h => ?_) (fun c20 h => ?_)
  · refine zv_aload_n (n := 1) dX4_makeArray_16 rfl rfl ?_
    refine zv_iload_n (n := 2) dX4_makeArray_17 rfl rfl ?_
    refine zv_ineg dX4_makeArray_18 ?_
    refine zv_iload_n (n := 0) dX4_makeArray_19 rfl rfl ?_
    refine zv_iload_n (n := 2) dX4_makeArray_20 rfl rfl ?_
    refine zv_iload_n (n := 0) dX4_makeArray_21 rfl rfl ?_
    refine zv_i2l dX4_makeArray_22 ?_
    refine zr_cSl (st := [.int (Int64.toInt32 o3.2), .int (-l1), .ref l0]) dX4_makeArray_23 mw_X2_wordsOfArray wd_1341 wd_1342 [.int l1, .long (Int32.toInt64 (Int64.toInt32 o3.2))] rfl rfl (Nat.le_of_ble_eq_true rfl) (show d - 1 + 1 ≤ d by omega) h (fun o5 e6 => tX2_wordsOfArray (d := d - 1) (by omega) e6) (fun o5 e6 h => ?_)
    refine zr_cVi (ci := 4) (st := []) dX4_makeArray_26 mw_X4_make wd_1300 wd_1302 wd_40 rfl rfl [.int (-l1), .int (Int64.toInt32 o3.2), .long o5.2] rfl rfl (Nat.le_of_ble_eq_true rfl) (show d - 1 + 1 ≤ d by omega) h (fun o7 e8 => tX4_make (d := d - 1) (by omega) e8) (fun o7 e8 h => ?_)
    refine zv_istore (L' := [(4, .int o7.2), (3, .int (Int64.toInt32 o3.2)), (0, .ref l0), (1, .int l1), (2, .int l2)]) dX4_makeArray_29 (Nat.le_of_ble_eq_true rfl) rfl ?_
    refine zv_iload (n := 0) dX4_makeArray_31 rfl ?_
    refine zr_if_ne (tgt := 38) dX4_makeArray_33 (by decide) h (fun c19 h => ?_) (fun c19 h => ?_)
    · refine zv_aload_n (n := 2) dX4_makeArray_38 rfl rfl ?_
      refine zr_gR dX4_makeArray_39 fg_371 h (fun v9 e10 h => ?_)
      refine zv_iconst (v := 1) dX4_makeArray_42 (by decide) ?_
      refine zr_cVv (ci := 1) (st := []) dX4_makeArray_43 mw_X1_drop wd_1180 wd_1181 wd_1182 rfl rfl [.int (1 : Int32)] rfl rfl (Nat.le_of_ble_eq_true rfl) (show d - 1 + 1 ≤ d by omega) h (fun o11 e12 => tX1_drop (d := d - 1) (by omega) e12) (fun o11 e12 h => ?_)
      refine zv_aload_n (n := 2) dX4_makeArray_46 rfl rfl ?_
      refine zr_gR dX4_makeArray_47 fg_371 h (fun v13 e14 h => ?_)
      refine zv_iload (n := 0) dX4_makeArray_50 rfl ?_
      refine zr_cVv (ci := 1) (st := []) dX4_makeArray_52 mw_X1_pushReference wd_1121 wd_1122 wd_1123 rfl rfl [.int o7.2] rfl rfl (Nat.le_of_ble_eq_true rfl) (show d - 1 + 1 ≤ d by omega) h (fun o15 e16 => tX1_pushReference (d := d - 1) (by omega) e16) (fun o15 e16 h => ?_)
      refine zv_aload_n (n := 2) dX4_makeArray_55 rfl rfl ?_
      refine zv_iload_n (n := 4) dX4_makeArray_56 rfl rfl ?_
      refine zr_cVi (ci := 4) (st := []) dX4_makeArray_57 mw_X4_goOn wd_1117 wd_1119 wd_22 rfl rfl [.int l2] rfl rfl (Nat.le_of_ble_eq_true rfl) (show d - 1 + 1 ≤ d by omega) h (fun o17 e18 => tX4_goOn (d := d - 1) (by omega) e18) (fun o17 e18 h => ?_)
      cases h
      exact zv_iret dX4_makeArray_60 rfl
    · refine zv_iconst (v := 0) dX4_makeArray_36 (by decide) ?_
      cases h
      exact zv_iret dX4_makeArray_37 rfl
  · refine zv_iconst (v := 4) dX4_makeArray_14 (by decide) ?_
    cases h
    exact zv_iret dX4_makeArray_15 rfl
def mX4_makeArray (N : Nat) (a0 : Nat) (a1 : Int32) (a2 : Int32) (x : zv_X) : Option (zv_X × Int32) := mX4_makeArray_0 N a0 a1 a2 x
theorem tX4_makeArray {d : Nat} (hd : 4 ≤ d) {N : Nat} {x : zv_X} {a0 : Nat} {a1 : Int32} {a2 : Int32} {o : (zv_X × Int32)} (h : mX4_makeArray N a0 a1 a2 x = some o) : zv_T d yX4_makeArray cX4_makeArray 5 ((some .int)) [.ref a0, .int a1, .int a2] x o.1 (some (.int o.2)) := by
  unfold mX4_makeArray at h
  exact zv_enter (by decide) (Nat.le_of_ble_eq_true rfl) (kX4_makeArray_0 hd _ _ _ _ h)

abbrev fX4_makeObject (d : Nat) (x0 : zv_X) (o : (zv_X × Int32)) : zv_G := (d, RX4, cX4_makeObject, 3, (some .int), ("makeObject", []), x0, o.1, zv_fin x0 o.1 (some (.int o.2)))
def mX4_makeObject_0 (N : Nat) (l0 : Nat) (x : zv_X) : Option (zv_X × Int32) := (zm_R x l0 4 5).bind fun v1 => if zm_k x v1 1 = true then ((mX1_operand N v1 (1 : Int32) x).bind fun o3 => (zm_R o3.1 l0 4 2).bind fun v5 => if zm_k o3.1 v5 2 = true then ((mX2_wordsOfObject N v5 o3.2 o3.1).bind fun o7 => if zm_k o7.1 l0 4 = true then ((mX4_make N l0 o3.2 (0 : Int32) (Int32.toInt64 o7.2) o7.1).bind fun o9 => if o9.2 = 0 then (some (o9.1, (0 : Int32))) else ((zm_R o9.1 l0 4 5).bind fun v11 => if zm_k o9.1 v11 1 = true then ((mX1_pushReference N v11 o9.2 o9.1).bind fun o13 => if zm_k o13 l0 4 = true then ((mX4_goOn N l0 (2 : Int32) o13).bind fun o15 => some (o15.1, o15.2)) else none) else none)) else none) else none) else none
theorem kX4_makeObject_0 {d : Nat} {x0 : zv_X} {o : (zv_X × Int32)} (hd : 4 ≤ d) {N : Nat} (l0 : Nat) (x : zv_X) (h : mX4_makeObject_0 N l0 x = some o) : zv_V (fX4_makeObject d x0 o) 0 [(0, .ref l0)] [] x := by
  unfold mX4_makeObject_0 at h
  refine zv_aload_n (n := 0) dX4_makeObject_0 rfl rfl ?_
  refine zr_gR dX4_makeObject_1 fg_371 h (fun v1 e2 h => ?_)
  refine zv_iconst (v := 1) dX4_makeObject_4 (by decide) ?_
  refine zr_cVi (ci := 1) (st := []) dX4_makeObject_5 mw_X1_operand wd_1130 wd_1131 wd_1132 rfl rfl [.int (1 : Int32)] rfl rfl (Nat.le_of_ble_eq_true rfl) (show d - 1 + 1 ≤ d by omega) h (fun o3 e4 => tX1_operand (d := d - 1) (by omega) e4) (fun o3 e4 h => ?_)
  refine zv_istore_n (L' := [(1, .int o3.2), (0, .ref l0)]) dX4_makeObject_8 rfl (Nat.le_of_ble_eq_true rfl) rfl ?_
  refine zv_aload_n (n := 1) dX4_makeObject_9 rfl rfl ?_
  refine zv_iload_n (n := 0) dX4_makeObject_10 rfl rfl ?_
  refine zv_iconst (v := 0) dX4_makeObject_11 (by decide) ?_
  refine zv_aload_n (n := 1) dX4_makeObject_12 rfl rfl ?_
  refine zr_gR dX4_makeObject_13 fg_368 h (fun v5 e6 h => ?_)
  refine zv_iload_n (n := 0) dX4_makeObject_16 rfl rfl ?_
  refine zr_cVi (ci := 2) (st := [.int (0 : Int32), .int o3.2, .ref l0]) dX4_makeObject_17 mw_X2_wordsOfObject wd_1296 wd_1297 wd_1298 rfl rfl [.int o3.2] rfl rfl (Nat.le_of_ble_eq_true rfl) (show d - 1 + 1 ≤ d by omega) h (fun o7 e8 => tX2_wordsOfObject (d := d - 1) (by omega) e8) (fun o7 e8 h => ?_)
  refine zv_i2l dX4_makeObject_20 ?_
  refine zr_cVi (ci := 4) (st := []) dX4_makeObject_21 mw_X4_make wd_1300 wd_1302 wd_40 rfl rfl [.int o3.2, .int (0 : Int32), .long (Int32.toInt64 o7.2)] rfl rfl (Nat.le_of_ble_eq_true rfl) (show d - 1 + 1 ≤ d by omega) h (fun o9 e10 => tX4_make (d := d - 1) (by omega) e10) (fun o9 e10 h => ?_)
  refine zv_istore_n (L' := [(2, .int o9.2), (1, .int o3.2), (0, .ref l0)]) dX4_makeObject_24 rfl (Nat.le_of_ble_eq_true rfl) rfl ?_
  refine zv_iload_n (n := 0) dX4_makeObject_25 rfl rfl ?_
  refine zr_if_ne (tgt := 31) dX4_makeObject_26 (by decide) h (fun c17 h => ?_) (fun c17 h => ?_)
  · refine zv_aload_n (n := 2) dX4_makeObject_31 rfl rfl ?_
    refine zr_gR dX4_makeObject_32 fg_371 h (fun v11 e12 h => ?_)
    refine zv_iload_n (n := 0) dX4_makeObject_35 rfl rfl ?_
    refine zr_cVv (ci := 1) (st := []) dX4_makeObject_36 mw_X1_pushReference wd_1121 wd_1122 wd_1123 rfl rfl [.int o9.2] rfl rfl (Nat.le_of_ble_eq_true rfl) (show d - 1 + 1 ≤ d by omega) h (fun o13 e14 => tX1_pushReference (d := d - 1) (by omega) e14) (fun o13 e14 h => ?_)
    refine zv_aload_n (n := 2) dX4_makeObject_39 rfl rfl ?_
    refine zv_iconst (v := 2) dX4_makeObject_40 (by decide) ?_
    refine zr_cVi (ci := 4) (st := []) dX4_makeObject_41 mw_X4_goOn wd_1117 wd_1119 wd_22 rfl rfl [.int (2 : Int32)] rfl rfl (Nat.le_of_ble_eq_true rfl) (show d - 1 + 1 ≤ d by omega) h (fun o15 e16 => tX4_goOn (d := d - 1) (by omega) e16) (fun o15 e16 h => ?_)
    cases h
    exact zv_iret dX4_makeObject_44 rfl
  · refine zv_iconst (v := 0) dX4_makeObject_29 (by decide) ?_
    cases h
    exact zv_iret dX4_makeObject_30 rfl
def mX4_makeObject (N : Nat) (a0 : Nat) (x : zv_X) : Option (zv_X × Int32) := mX4_makeObject_0 N a0 x
theorem tX4_makeObject {d : Nat} (hd : 4 ≤ d) {N : Nat} {x : zv_X} {a0 : Nat} {o : (zv_X × Int32)} (h : mX4_makeObject N a0 x = some o) : zv_T d yX4_makeObject cX4_makeObject 3 ((some .int)) [.ref a0] x o.1 (some (.int o.2)) := by
  unfold mX4_makeObject at h
  exact zv_enter (by decide) (Nat.le_of_ble_eq_true rfl) (kX4_makeObject_0 hd _ _ h)

abbrev fX1_pushLocal (d : Nat) (x0 : zv_X) (o : zv_X) : zv_G := (d, RX1, cX1_pushLocal, 2, none, ("pushLocal", []), x0, o, zv_fin x0 o none)
def mX1_pushLocal_0 (N : Nat) (l0 : Nat) (l1 : Int32) (x : zv_X) : Option zv_X := (zm_I x l0 1 2).bind fun v1 => if zm_k x l0 1 = true then ((mX1_copySlot N l0 l0 l1 v1 x).bind fun o3 => (zm_I o3 l0 1 2).bind fun v5 => (zm_p o3 l0 1 2 (.int (v5 + (1 : Int32)))).bind fun x7 => some x7) else none
theorem kX1_pushLocal_0 {d : Nat} {x0 : zv_X} {o : zv_X} (hd : 1 ≤ d) {N : Nat} (l0 : Nat) (l1 : Int32) (x : zv_X) (h : mX1_pushLocal_0 N l0 l1 x = some o) : zv_V (fX1_pushLocal d x0 o) 0 [(0, .ref l0), (1, .int l1)] [] x := by
  unfold mX1_pushLocal_0 at h
  refine zv_aload_n (n := 0) dX1_pushLocal_0 rfl rfl ?_
  refine zv_aload_n (n := 0) dX1_pushLocal_1 rfl rfl ?_
  refine zv_iload_n (n := 1) dX1_pushLocal_2 rfl rfl ?_
  refine zv_aload_n (n := 0) dX1_pushLocal_3 rfl rfl ?_
  refine zr_gI dX1_pushLocal_4 fg_350 h (fun v1 e2 h => ?_)
  refine zr_cVv (ci := 1) (st := []) dX1_pushLocal_7 mw_X1_copySlot wd_1143 wd_1145 wd_23 rfl rfl [.ref l0, .int l1, .int v1] rfl rfl (Nat.le_of_ble_eq_true rfl) (show d - 1 + 1 ≤ d by omega) h (fun o3 e4 => tX1_copySlot (d := d - 1) (by omega) e4) (fun o3 e4 h => ?_)
  refine zv_aload_n (n := 0) dX1_pushLocal_10 rfl rfl ?_
  refine zv_dup dX1_pushLocal_11 rfl ?_
  refine zr_gI dX1_pushLocal_12 fg_350 h (fun v5 e6 h => ?_)
  refine zv_iconst (v := 1) dX1_pushLocal_15 (by decide) ?_
  refine zv_iadd dX1_pushLocal_16 ?_
  refine zr_p dX1_pushLocal_17 fl_350 (fun q => nomatch q) rfl rfl h (fun x7 e8 h => ?_)
  cases h
  exact zv_vret dX1_pushLocal_20 rfl
def mX1_pushLocal (N : Nat) (a0 : Nat) (a1 : Int32) (x : zv_X) : Option zv_X := mX1_pushLocal_0 N a0 a1 x
theorem tX1_pushLocal {d : Nat} (hd : 1 ≤ d) {N : Nat} {x : zv_X} {a0 : Nat} {a1 : Int32} {o : zv_X} (h : mX1_pushLocal N a0 a1 x = some o) : zv_T d yX1_pushLocal cX1_pushLocal 2 (none) [.ref a0, .int a1] x o none := by
  unfold mX1_pushLocal at h
  exact zv_enter (by decide) (Nat.le_of_ble_eq_true rfl) (kX1_pushLocal_0 hd _ _ _ h)

abbrev fX4_push (d : Nat) (x0 : zv_X) (o : (zv_X × Int32)) : zv_G := (d, RX4, cX4_push, 2, (some .int), ("push", []), x0, o.1, zv_fin x0 o.1 (some (.int o.2)))
def mX4_push_223 (N : Nat) (l0 : Nat) (l1 : Int32) (x : zv_X) : Option (zv_X × Int32) := (zm_R x l0 4 5).bind fun v1 => if zm_k x v1 1 = true then ((mX1_pushNumber N v1 (Int32.toInt64 (l1 - (3 : Int32))) x).bind fun o3 => if zm_k o3 l0 4 = true then ((mX4_goOn N l0 (1 : Int32) o3).bind fun o5 => some (o5.1, o5.2)) else none) else none
theorem kX4_push_223 {d : Nat} {x0 : zv_X} {o : (zv_X × Int32)} (hd : 2 ≤ d) {N : Nat} (l0 : Nat) (l1 : Int32) (x : zv_X) (h : mX4_push_223 N l0 l1 x = some o) : zv_V (fX4_push d x0 o) 223 [(0, .ref l0), (1, .int l1)] [] x := by
  unfold mX4_push_223 at h
  refine zv_aload_n (n := 0) dX4_push_223 rfl rfl ?_
  refine zr_gR dX4_push_224 fg_371 h (fun v1 e2 h => ?_)
  refine zv_iload_n (n := 1) dX4_push_227 rfl rfl ?_
  refine zv_iconst (v := 3) dX4_push_228 (by decide) ?_
  refine zv_isub dX4_push_229 ?_
  refine zv_i2l dX4_push_230 ?_
  refine zr_cVv (ci := 1) (st := []) dX4_push_231 mw_X1_pushNumber wd_1125 wd_1126 wd_1127 rfl rfl [.long (Int32.toInt64 (l1 - (3 : Int32)))] rfl rfl (Nat.le_of_ble_eq_true rfl) (show d - 1 + 1 ≤ d by omega) h (fun o3 e4 => tX1_pushNumber (d := d - 1) (by omega) e4) (fun o3 e4 h => ?_)
  refine zv_aload_n (n := 0) dX4_push_234 rfl rfl ?_
  refine zv_iconst (v := 1) dX4_push_235 (by decide) ?_
  refine zr_cVi (ci := 4) (st := []) dX4_push_236 mw_X4_goOn wd_1117 wd_1119 wd_22 rfl rfl [.int (1 : Int32)] rfl rfl (Nat.le_of_ble_eq_true rfl) (show d - 1 + 1 ≤ d by omega) h (fun o5 e6 => tX4_goOn (d := d - 1) (by omega) e6) (fun o5 e6 h => ?_)
  cases h
  exact zv_iret dX4_push_239 rfl
def mX4_push_140 (N : Nat) (l0 : Nat) (l1 : Int32) (x : zv_X) : Option (zv_X × Int32) := (zm_R x l0 4 5).bind fun v1 => if zm_k x v1 1 = true then ((mX1_pushNumber N v1 (Int32.toInt64 (l1 - (9 : Int32))) x).bind fun o3 => if zm_k o3 l0 4 = true then ((mX4_goOn N l0 (1 : Int32) o3).bind fun o5 => some (o5.1, o5.2)) else none) else none
theorem kX4_push_140 {d : Nat} {x0 : zv_X} {o : (zv_X × Int32)} (hd : 2 ≤ d) {N : Nat} (l0 : Nat) (l1 : Int32) (x : zv_X) (h : mX4_push_140 N l0 l1 x = some o) : zv_V (fX4_push d x0 o) 140 [(0, .ref l0), (1, .int l1)] [] x := by
  unfold mX4_push_140 at h
  refine zv_aload_n (n := 0) dX4_push_140 rfl rfl ?_
  refine zr_gR dX4_push_141 fg_371 h (fun v1 e2 h => ?_)
  refine zv_iload_n (n := 1) dX4_push_144 rfl rfl ?_
  refine zv_bipush (v := 9) dX4_push_145 (by decide) ?_
  refine zv_isub dX4_push_147 ?_
  refine zv_i2l dX4_push_148 ?_
  refine zr_cVv (ci := 1) (st := []) dX4_push_149 mw_X1_pushNumber wd_1125 wd_1126 wd_1127 rfl rfl [.long (Int32.toInt64 (l1 - (9 : Int32)))] rfl rfl (Nat.le_of_ble_eq_true rfl) (show d - 1 + 1 ≤ d by omega) h (fun o3 e4 => tX1_pushNumber (d := d - 1) (by omega) e4) (fun o3 e4 h => ?_)
  refine zv_aload_n (n := 0) dX4_push_152 rfl rfl ?_
  refine zv_iconst (v := 1) dX4_push_153 (by decide) ?_
  refine zr_cVi (ci := 4) (st := []) dX4_push_154 mw_X4_goOn wd_1117 wd_1119 wd_22 rfl rfl [.int (1 : Int32)] rfl rfl (Nat.le_of_ble_eq_true rfl) (show d - 1 + 1 ≤ d by omega) h (fun o5 e6 => tX4_goOn (d := d - 1) (by omega) e6) (fun o5 e6 h => ?_)
  cases h
  exact zv_iret dX4_push_157 rfl
def mX4_push_202 (N : Nat) (l0 : Nat) (x : zv_X) : Option (zv_X × Int32) := (zm_R x l0 4 5).bind fun v1 => (zm_R x l0 4 5).bind fun v3 => if zm_k x v3 1 = true then ((mX1_operand N v3 (1 : Int32) x).bind fun o5 => if zm_k o5.1 v1 1 = true then ((mX1_pushLocal N v1 o5.2 o5.1).bind fun o7 => if zm_k o7 l0 4 = true then ((mX4_goOn N l0 (2 : Int32) o7).bind fun o9 => some (o9.1, o9.2)) else none) else none) else none
theorem kX4_push_202 {d : Nat} {x0 : zv_X} {o : (zv_X × Int32)} (hd : 2 ≤ d) {N : Nat} (l0 : Nat) (x : zv_X) (h : mX4_push_202 N l0 x = some o) : zv_V (fX4_push d x0 o) 202 [(0, .ref l0)] [] x := by
  unfold mX4_push_202 at h
  refine zv_aload_n (n := 0) dX4_push_202 rfl rfl ?_
  refine zr_gR dX4_push_203 fg_371 h (fun v1 e2 h => ?_)
  refine zv_aload_n (n := 0) dX4_push_206 rfl rfl ?_
  refine zr_gR dX4_push_207 fg_371 h (fun v3 e4 h => ?_)
  refine zv_iconst (v := 1) dX4_push_210 (by decide) ?_
  refine zr_cVi (ci := 1) (st := [.ref v1]) dX4_push_211 mw_X1_operand wd_1130 wd_1131 wd_1132 rfl rfl [.int (1 : Int32)] rfl rfl (Nat.le_of_ble_eq_true rfl) (show d - 1 + 1 ≤ d by omega) h (fun o5 e6 => tX1_operand (d := d - 1) (by omega) e6) (fun o5 e6 h => ?_)
  refine zr_cVv (ci := 1) (st := []) dX4_push_214 mw_X1_pushLocal wd_1139 wd_1140 wd_1141 rfl rfl [.int o5.2] rfl rfl (Nat.le_of_ble_eq_true rfl) (show d - 1 + 1 ≤ d by omega) h (fun o7 e8 => tX1_pushLocal (d := d - 1) (by omega) e8) (fun o7 e8 h => ?_)
  refine zv_aload_n (n := 0) dX4_push_217 rfl rfl ?_
  refine zv_iconst (v := 2) dX4_push_218 (by decide) ?_
  refine zr_cVi (ci := 4) (st := []) dX4_push_219 mw_X4_goOn wd_1117 wd_1119 wd_22 rfl rfl [.int (2 : Int32)] rfl rfl (Nat.le_of_ble_eq_true rfl) (show d - 1 + 1 ≤ d by omega) h (fun o9 e10 => tX4_goOn (d := d - 1) (by omega) e10) (fun o9 e10 h => ?_)
  cases h
  exact zv_iret dX4_push_222 rfl
def mX4_push_0 (N : Nat) (l0 : Nat) (l1 : Int32) (x : zv_X) : Option (zv_X × Int32) := if l1 = (0 : Int32) then (if zm_k x l0 4 = true then ((mX4_goOn N l0 (1 : Int32) x).bind fun o1 => some (o1.1, o1.2)) else none) else if l1 = (1 : Int32) then ((zm_R x l0 4 5).bind fun v4 => if zm_k x v4 1 = true then ((mX1_pushReference N v4 (0 : Int32) x).bind fun o6 => if zm_k o6 l0 4 = true then ((mX4_goOn N l0 (1 : Int32) o6).bind fun o8 => some (o8.1, o8.2)) else none) else none) else if l1 = (2 : Int32) then (mX4_push_223 N l0 l1 x) else if l1 = (3 : Int32) then (mX4_push_223 N l0 l1 x) else if l1 = (4 : Int32) then (mX4_push_223 N l0 l1 x) else if l1 = (5 : Int32) then (mX4_push_223 N l0 l1 x) else if l1 = (6 : Int32) then (mX4_push_223 N l0 l1 x) else if l1 = (7 : Int32) then (mX4_push_223 N l0 l1 x) else if l1 = (8 : Int32) then (mX4_push_223 N l0 l1 x) else if l1 = (9 : Int32) then (mX4_push_140 N l0 l1 x) else if l1 = (10 : Int32) then (mX4_push_140 N l0 l1 x) else if l1 = (11 : Int32) then (mX4_push_223 N l0 l1 x) else if l1 = (12 : Int32) then (mX4_push_223 N l0 l1 x) else if l1 = (13 : Int32) then (mX4_push_223 N l0 l1 x) else if l1 = (14 : Int32) then (mX4_push_223 N l0 l1 x) else if l1 = (15 : Int32) then (mX4_push_223 N l0 l1 x) else if l1 = (16 : Int32) then ((zm_R x l0 4 5).bind fun v25 => (zm_R x l0 4 5).bind fun v27 => if zm_k x v27 1 = true then ((mX1_operand N v27 (1 : Int32) x).bind fun o29 => if zm_k o29.1 v25 1 = true then ((mX1_pushNumber N v25 (Int32.toInt64 ((Int32.toInt8 o29.2).toInt32)) o29.1).bind fun o31 => if zm_k o31 l0 4 = true then ((mX4_goOn N l0 (2 : Int32) o31).bind fun o33 => some (o33.1, o33.2)) else none) else none) else none) else if l1 = (17 : Int32) then ((zm_R x l0 4 5).bind fun v36 => (zm_R x l0 4 5).bind fun v38 => if zm_k x v38 1 = true then ((mX1_pair N v38 x).bind fun o40 => if zm_k o40.1 v36 1 = true then ((mX1_pushNumber N v36 (Int32.toInt64 o40.2) o40.1).bind fun o42 => if zm_k o42 l0 4 = true then ((mX4_goOn N l0 (3 : Int32) o42).bind fun o44 => some (o44.1, o44.2)) else none) else none) else none) else if l1 = (18 : Int32) then (mX4_push_223 N l0 l1 x) else if l1 = (19 : Int32) then (mX4_push_223 N l0 l1 x) else if l1 = (20 : Int32) then (mX4_push_223 N l0 l1 x) else if l1 = (21 : Int32) then (mX4_push_202 N l0 x) else if l1 = (22 : Int32) then (mX4_push_202 N l0 x) else if l1 = (23 : Int32) then (mX4_push_223 N l0 l1 x) else if l1 = (24 : Int32) then (mX4_push_223 N l0 l1 x) else if l1 = (25 : Int32) then (mX4_push_202 N l0 x) else (mX4_push_223 N l0 l1 x)
theorem kX4_push_0 {d : Nat} {x0 : zv_X} {o : (zv_X × Int32)} (hd : 2 ≤ d) {N : Nat} (l0 : Nat) (l1 : Int32) (x : zv_X) (h : mX4_push_0 N l0 l1 x = some o) : zv_V (fX4_push d x0 o) 0 [(0, .ref l0), (1, .int l1)] [] x := by
  unfold mX4_push_0 at h
  refine zv_iload_n (n := 1) dX4_push_0 rfl rfl ?_
  rcases zif h with ⟨c3, h⟩ | ⟨c3, h⟩
  · refine zr_tabIn (tgt := 120) (off := 119) c3 dX4_push_1 (by decide) (by decide) (by decide) (by decide) ?_
    refine zv_aload_n (n := 0) dX4_push_120 rfl rfl ?_
    refine zv_iconst (v := 1) dX4_push_121 (by decide) ?_
    refine zr_cVi (ci := 4) (st := []) dX4_push_122 mw_X4_goOn wd_1117 wd_1119 wd_22 rfl rfl [.int (1 : Int32)] rfl rfl (Nat.le_of_ble_eq_true rfl) (show d - 1 + 1 ≤ d by omega) h (fun o1 e2 => tX4_goOn (d := d - 1) (by omega) e2) (fun o1 e2 h => ?_)
    cases h
    exact zv_iret dX4_push_125 rfl
  rcases zif h with ⟨c10, h⟩ | ⟨c10, h⟩
  · refine zr_tabIn (tgt := 126) (off := 125) c10 dX4_push_1 (by decide) (by decide) (by decide) (by decide) ?_
    refine zv_aload_n (n := 0) dX4_push_126 rfl rfl ?_
    refine zr_gR dX4_push_127 fg_371 h (fun v4 e5 h => ?_)
    refine zv_iconst (v := 0) dX4_push_130 (by decide) ?_
    refine zr_cVv (ci := 1) (st := []) dX4_push_131 mw_X1_pushReference wd_1121 wd_1122 wd_1123 rfl rfl [.int (0 : Int32)] rfl rfl (Nat.le_of_ble_eq_true rfl) (show d - 1 + 1 ≤ d by omega) h (fun o6 e7 => tX1_pushReference (d := d - 1) (by omega) e7) (fun o6 e7 h => ?_)
    refine zv_aload_n (n := 0) dX4_push_134 rfl rfl ?_
    refine zv_iconst (v := 1) dX4_push_135 (by decide) ?_
    refine zr_cVi (ci := 4) (st := []) dX4_push_136 mw_X4_goOn wd_1117 wd_1119 wd_22 rfl rfl [.int (1 : Int32)] rfl rfl (Nat.le_of_ble_eq_true rfl) (show d - 1 + 1 ≤ d by omega) h (fun o8 e9 => tX4_goOn (d := d - 1) (by omega) e9) (fun o8 e9 h => ?_)
    cases h
    exact zv_iret dX4_push_139 rfl
  rcases zif h with ⟨c11, h⟩ | ⟨c11, h⟩
  · refine zr_tabIn (tgt := 223) (off := 222) c11 dX4_push_1 (by decide) (by decide) (by decide) (by decide) ?_
    exact kX4_push_223 hd _ _ _ h
  rcases zif h with ⟨c12, h⟩ | ⟨c12, h⟩
  · refine zr_tabIn (tgt := 223) (off := 222) c12 dX4_push_1 (by decide) (by decide) (by decide) (by decide) ?_
    exact kX4_push_223 hd _ _ _ h
  rcases zif h with ⟨c13, h⟩ | ⟨c13, h⟩
  · refine zr_tabIn (tgt := 223) (off := 222) c13 dX4_push_1 (by decide) (by decide) (by decide) (by decide) ?_
    exact kX4_push_223 hd _ _ _ h
  rcases zif h with ⟨c14, h⟩ | ⟨c14, h⟩
  · refine zr_tabIn (tgt := 223) (off := 222) c14 dX4_push_1 (by decide) (by decide) (by decide) (by decide) ?_
    exact kX4_push_223 hd _ _ _ h
  rcases zif h with ⟨c15, h⟩ | ⟨c15, h⟩
  · refine zr_tabIn (tgt := 223) (off := 222) c15 dX4_push_1 (by decide) (by decide) (by decide) (by decide) ?_
    exact kX4_push_223 hd _ _ _ h
  rcases zif h with ⟨c16, h⟩ | ⟨c16, h⟩
  · refine zr_tabIn (tgt := 223) (off := 222) c16 dX4_push_1 (by decide) (by decide) (by decide) (by decide) ?_
    exact kX4_push_223 hd _ _ _ h
  rcases zif h with ⟨c17, h⟩ | ⟨c17, h⟩
  · refine zr_tabIn (tgt := 223) (off := 222) c17 dX4_push_1 (by decide) (by decide) (by decide) (by decide) ?_
    exact kX4_push_223 hd _ _ _ h
  rcases zif h with ⟨c18, h⟩ | ⟨c18, h⟩
  · refine zr_tabIn (tgt := 140) (off := 139) c18 dX4_push_1 (by decide) (by decide) (by decide) (by decide) ?_
    exact kX4_push_140 hd _ _ _ h
  rcases zif h with ⟨c19, h⟩ | ⟨c19, h⟩
  · refine zr_tabIn (tgt := 140) (off := 139) c19 dX4_push_1 (by decide) (by decide) (by decide) (by decide) ?_
    exact kX4_push_140 hd _ _ _ h
  rcases zif h with ⟨c20, h⟩ | ⟨c20, h⟩
  · refine zr_tabIn (tgt := 223) (off := 222) c20 dX4_push_1 (by decide) (by decide) (by decide) (by decide) ?_
    exact kX4_push_223 hd _ _ _ h
  rcases zif h with ⟨c21, h⟩ | ⟨c21, h⟩
  · refine zr_tabIn (tgt := 223) (off := 222) c21 dX4_push_1 (by decide) (by decide) (by decide) (by decide) ?_
    exact kX4_push_223 hd _ _ _ h
  rcases zif h with ⟨c22, h⟩ | ⟨c22, h⟩
  · refine zr_tabIn (tgt := 223) (off := 222) c22 dX4_push_1 (by decide) (by decide) (by decide) (by decide) ?_
    exact kX4_push_223 hd _ _ _ h
  rcases zif h with ⟨c23, h⟩ | ⟨c23, h⟩
  · refine zr_tabIn (tgt := 223) (off := 222) c23 dX4_push_1 (by decide) (by decide) (by decide) (by decide) ?_
    exact kX4_push_223 hd _ _ _ h
  rcases zif h with ⟨c24, h⟩ | ⟨c24, h⟩
  · refine zr_tabIn (tgt := 223) (off := 222) c24 dX4_push_1 (by decide) (by decide) (by decide) (by decide) ?_
    exact kX4_push_223 hd _ _ _ h
  rcases zif h with ⟨c35, h⟩ | ⟨c35, h⟩
  · refine zr_tabIn (tgt := 158) (off := 157) c35 dX4_push_1 (by decide) (by decide) (by decide) (by decide) ?_
    refine zv_aload_n (n := 0) dX4_push_158 rfl rfl ?_
    refine zr_gR dX4_push_159 fg_371 h (fun v25 e26 h => ?_)
    refine zv_aload_n (n := 0) dX4_push_162 rfl rfl ?_
    refine zr_gR dX4_push_163 fg_371 h (fun v27 e28 h => ?_)
    refine zv_iconst (v := 1) dX4_push_166 (by decide) ?_
    refine zr_cVi (ci := 1) (st := [.ref v25]) dX4_push_167 mw_X1_operand wd_1130 wd_1131 wd_1132 rfl rfl [.int (1 : Int32)] rfl rfl (Nat.le_of_ble_eq_true rfl) (show d - 1 + 1 ≤ d by omega) h (fun o29 e30 => tX1_operand (d := d - 1) (by omega) e30) (fun o29 e30 h => ?_)
    refine zv_i2b dX4_push_170 ?_
    refine zv_i2l dX4_push_171 ?_
    refine zr_cVv (ci := 1) (st := []) dX4_push_172 mw_X1_pushNumber wd_1125 wd_1126 wd_1127 rfl rfl [.long (Int32.toInt64 ((Int32.toInt8 o29.2).toInt32))] rfl rfl (Nat.le_of_ble_eq_true rfl) (show d - 1 + 1 ≤ d by omega) h (fun o31 e32 => tX1_pushNumber (d := d - 1) (by omega) e32) (fun o31 e32 h => ?_)
    refine zv_aload_n (n := 0) dX4_push_175 rfl rfl ?_
    refine zv_iconst (v := 2) dX4_push_176 (by decide) ?_
    refine zr_cVi (ci := 4) (st := []) dX4_push_177 mw_X4_goOn wd_1117 wd_1119 wd_22 rfl rfl [.int (2 : Int32)] rfl rfl (Nat.le_of_ble_eq_true rfl) (show d - 1 + 1 ≤ d by omega) h (fun o33 e34 => tX4_goOn (d := d - 1) (by omega) e34) (fun o33 e34 h => ?_)
    cases h
    exact zv_iret dX4_push_180 rfl
  rcases zif h with ⟨c46, h⟩ | ⟨c46, h⟩
  · refine zr_tabIn (tgt := 181) (off := 180) c46 dX4_push_1 (by decide) (by decide) (by decide) (by decide) ?_
    refine zv_aload_n (n := 0) dX4_push_181 rfl rfl ?_
    refine zr_gR dX4_push_182 fg_371 h (fun v36 e37 h => ?_)
    refine zv_aload_n (n := 0) dX4_push_185 rfl rfl ?_
    refine zr_gR dX4_push_186 fg_371 h (fun v38 e39 h => ?_)
    refine zr_cVi (ci := 1) (st := [.ref v36]) dX4_push_189 mw_X1_pair wd_1134 wd_1135 wd_1136 rfl rfl [] rfl rfl (Nat.le_of_ble_eq_true rfl) (show d - 1 + 1 ≤ d by omega) h (fun o40 e41 => tX1_pair (d := d - 1) (by omega) e41) (fun o40 e41 h => ?_)
    refine zv_i2l dX4_push_192 ?_
    refine zr_cVv (ci := 1) (st := []) dX4_push_193 mw_X1_pushNumber wd_1125 wd_1126 wd_1127 rfl rfl [.long (Int32.toInt64 o40.2)] rfl rfl (Nat.le_of_ble_eq_true rfl) (show d - 1 + 1 ≤ d by omega) h (fun o42 e43 => tX1_pushNumber (d := d - 1) (by omega) e43) (fun o42 e43 h => ?_)
    refine zv_aload_n (n := 0) dX4_push_196 rfl rfl ?_
    refine zv_iconst (v := 3) dX4_push_197 (by decide) ?_
    refine zr_cVi (ci := 4) (st := []) dX4_push_198 mw_X4_goOn wd_1117 wd_1119 wd_22 rfl rfl [.int (3 : Int32)] rfl rfl (Nat.le_of_ble_eq_true rfl) (show d - 1 + 1 ≤ d by omega) h (fun o44 e45 => tX4_goOn (d := d - 1) (by omega) e45) (fun o44 e45 h => ?_)
    cases h
    exact zv_iret dX4_push_201 rfl
  rcases zif h with ⟨c47, h⟩ | ⟨c47, h⟩
  · refine zr_tabIn (tgt := 223) (off := 222) c47 dX4_push_1 (by decide) (by decide) (by decide) (by decide) ?_
    exact kX4_push_223 hd _ _ _ h
  rcases zif h with ⟨c48, h⟩ | ⟨c48, h⟩
  · refine zr_tabIn (tgt := 223) (off := 222) c48 dX4_push_1 (by decide) (by decide) (by decide) (by decide) ?_
    exact kX4_push_223 hd _ _ _ h
  rcases zif h with ⟨c49, h⟩ | ⟨c49, h⟩
  · refine zr_tabIn (tgt := 223) (off := 222) c49 dX4_push_1 (by decide) (by decide) (by decide) (by decide) ?_
    exact kX4_push_223 hd _ _ _ h
  rcases zif h with ⟨c50, h⟩ | ⟨c50, h⟩
  · refine zr_tabIn (tgt := 202) (off := 201) c50 dX4_push_1 (by decide) (by decide) (by decide) (by decide) ?_
    exact zv_fewer [0] rfl (kX4_push_202 hd _ _ h)
  rcases zif h with ⟨c51, h⟩ | ⟨c51, h⟩
  · refine zr_tabIn (tgt := 202) (off := 201) c51 dX4_push_1 (by decide) (by decide) (by decide) (by decide) ?_
    exact zv_fewer [0] rfl (kX4_push_202 hd _ _ h)
  rcases zif h with ⟨c52, h⟩ | ⟨c52, h⟩
  · refine zr_tabIn (tgt := 223) (off := 222) c52 dX4_push_1 (by decide) (by decide) (by decide) (by decide) ?_
    exact kX4_push_223 hd _ _ _ h
  rcases zif h with ⟨c53, h⟩ | ⟨c53, h⟩
  · refine zr_tabIn (tgt := 223) (off := 222) c53 dX4_push_1 (by decide) (by decide) (by decide) (by decide) ?_
    exact kX4_push_223 hd _ _ _ h
  rcases zif h with ⟨c54, h⟩ | ⟨c54, h⟩
  · refine zr_tabIn (tgt := 202) (off := 201) c54 dX4_push_1 (by decide) (by decide) (by decide) (by decide) ?_
    exact zv_fewer [0] rfl (kX4_push_202 hd _ _ h)
  refine zv_tableOut (tgt := 223) dX4_push_1 (by have := lv_neT c3 (show (0 : Int32).toInt = 0 by decide); have := lv_neT c10 (show (1 : Int32).toInt = 1 by decide); have := lv_neT c11 (show (2 : Int32).toInt = 2 by decide); have := lv_neT c12 (show (3 : Int32).toInt = 3 by decide); have := lv_neT c13 (show (4 : Int32).toInt = 4 by decide); have := lv_neT c14 (show (5 : Int32).toInt = 5 by decide); have := lv_neT c15 (show (6 : Int32).toInt = 6 by decide); have := lv_neT c16 (show (7 : Int32).toInt = 7 by decide); have := lv_neT c17 (show (8 : Int32).toInt = 8 by decide); have := lv_neT c18 (show (9 : Int32).toInt = 9 by decide); have := lv_neT c19 (show (10 : Int32).toInt = 10 by decide); have := lv_neT c20 (show (11 : Int32).toInt = 11 by decide); have := lv_neT c21 (show (12 : Int32).toInt = 12 by decide); have := lv_neT c22 (show (13 : Int32).toInt = 13 by decide); have := lv_neT c23 (show (14 : Int32).toInt = 14 by decide); have := lv_neT c24 (show (15 : Int32).toInt = 15 by decide); have := lv_neT c35 (show (16 : Int32).toInt = 16 by decide); have := lv_neT c46 (show (17 : Int32).toInt = 17 by decide); have := lv_neT c47 (show (18 : Int32).toInt = 18 by decide); have := lv_neT c48 (show (19 : Int32).toInt = 19 by decide); have := lv_neT c49 (show (20 : Int32).toInt = 20 by decide); have := lv_neT c50 (show (21 : Int32).toInt = 21 by decide); have := lv_neT c51 (show (22 : Int32).toInt = 22 by decide); have := lv_neT c52 (show (23 : Int32).toInt = 23 by decide); have := lv_neT c53 (show (24 : Int32).toInt = 24 by decide); have := lv_neT c54 (show (25 : Int32).toInt = 25 by decide); omega) (by decide) ?_
  exact kX4_push_223 hd _ _ _ h
def mX4_push (N : Nat) (a0 : Nat) (a1 : Int32) (x : zv_X) : Option (zv_X × Int32) := mX4_push_0 N a0 a1 x
theorem tX4_push {d : Nat} (hd : 2 ≤ d) {N : Nat} {x : zv_X} {a0 : Nat} {a1 : Int32} {o : (zv_X × Int32)} (h : mX4_push N a0 a1 x = some o) : zv_T d yX4_push cX4_push 2 ((some .int)) [.ref a0, .int a1] x o.1 (some (.int o.2)) := by
  unfold mX4_push at h
  exact zv_enter (by decide) (Nat.le_of_ble_eq_true rfl) (kX4_push_0 hd _ _ _ h)

abbrev fX2_field (d : Nat) (x0 : zv_X) (o : (zv_X × Int32)) : zv_G := (d, RX2, cX2_field, 3, (some .int), ("field", []), x0, o.1, zv_fin x0 o.1 (some (.int o.2)))
def mX2_field_0 (N : Nat) (l0 : Nat) (l1 : Int32) (l2 : Int32) (x : zv_X) : Option (zv_X × Int32) := (zm_R x l0 2 1).bind fun v1 => (zm_R x l0 2 2).bind fun v3 => (zm_aI x v3 l1).bind fun v5 => (zm_aI x v1 ((v5 + (2 : Int32)) + l2)).bind fun v7 => some (x, v7)
theorem kX2_field_0 {d : Nat} {x0 : zv_X} {o : (zv_X × Int32)} (hd : 0 ≤ d) {N : Nat} (l0 : Nat) (l1 : Int32) (l2 : Int32) (x : zv_X) (h : mX2_field_0 N l0 l1 l2 x = some o) : zv_V (fX2_field d x0 o) 0 [(0, .ref l0), (1, .int l1), (2, .int l2)] [] x := by
  unfold mX2_field_0 at h
  refine zv_aload_n (n := 0) dX2_field_0 rfl rfl ?_
  refine zr_gR dX2_field_1 fg_268 h (fun v1 e2 h => ?_)
  refine zv_aload_n (n := 0) dX2_field_4 rfl rfl ?_
  refine zr_gR dX2_field_5 fg_269 h (fun v3 e4 h => ?_)
  refine zv_iload_n (n := 1) dX2_field_8 rfl rfl ?_
  refine zr_aI dX2_field_9 h (fun v5 e6 h => ?_)
  refine zv_iconst (v := 2) dX2_field_10 (by decide) ?_
  refine zv_iadd dX2_field_11 ?_
  refine zv_iload_n (n := 2) dX2_field_12 rfl rfl ?_
  refine zv_iadd dX2_field_13 ?_
  refine zr_aI dX2_field_14 h (fun v7 e8 h => ?_)
  cases h
  exact zv_iret dX2_field_15 rfl
def mX2_field (N : Nat) (a0 : Nat) (a1 : Int32) (a2 : Int32) (x : zv_X) : Option (zv_X × Int32) := mX2_field_0 N a0 a1 a2 x
theorem tX2_field {d : Nat} (hd : 0 ≤ d) {N : Nat} {x : zv_X} {a0 : Nat} {a1 : Int32} {a2 : Int32} {o : (zv_X × Int32)} (h : mX2_field N a0 a1 a2 x = some o) : zv_T d yX2_field cX2_field 3 ((some .int)) [.ref a0, .int a1, .int a2] x o.1 (some (.int o.2)) := by
  unfold mX2_field at h
  exact zv_enter (by decide) (Nat.le_of_ble_eq_true rfl) (kX2_field_0 hd _ _ _ _ h)

abbrev fX4_faultOfObject (d : Nat) (x0 : zv_X) (o : (zv_X × Int32)) : zv_G := (d, RX4, cX4_faultOfObject, 3, (some .int), ("faultOfObject", []), x0, o.1, zv_fin x0 o.1 (some (.int o.2)))
def mX4_faultOfObject_20 (N : Nat) (s0 : Int32) (x : zv_X) : Option (zv_X × Int32) := some (x, s0)
theorem kX4_faultOfObject_20 {d : Nat} {x0 : zv_X} {o : (zv_X × Int32)} (hd : 3 ≤ d) {N : Nat} (s0 : Int32) (x : zv_X) (h : mX4_faultOfObject_20 N s0 x = some o) : zv_V (fX4_faultOfObject d x0 o) 20 [] [.int s0] x := by
  unfold mX4_faultOfObject_20 at h
  cases h
  exact zv_iret dX4_faultOfObject_20 rfl
def mX4_faultOfObject_0 (N : Nat) (l0 : Nat) (l1 : Int32) (l2 : Int32) (x : zv_X) : Option (zv_X × Int32) := if l1 = 0 then (some (x, (2 : Int32))) else (if zm_k x l0 4 = true then ((mX4_isOf N l0 l1 l2 x).bind fun o1 => if o1.2 = 0 then (mX4_faultOfObject_20 N (5 : Int32) o1.1) else (mX4_faultOfObject_20 N (0 : Int32) o1.1)) else none)
theorem kX4_faultOfObject_0 {d : Nat} {x0 : zv_X} {o : (zv_X × Int32)} (hd : 3 ≤ d) {N : Nat} (l0 : Nat) (l1 : Int32) (l2 : Int32) (x : zv_X) (h : mX4_faultOfObject_0 N l0 l1 l2 x = some o) : zv_V (fX4_faultOfObject d x0 o) 0 [(0, .ref l0), (1, .int l1), (2, .int l2)] [] x := by
  unfold mX4_faultOfObject_0 at h
  refine zv_iload_n (n := 1) dX4_faultOfObject_0 rfl rfl ?_
  refine zr_if_ne (tgt := 6) dX4_faultOfObject_1 (by decide) h (fun c4 h => ?_) (fun c4 h => ?_)
  · refine zv_aload_n (n := 0) dX4_faultOfObject_6 rfl rfl ?_
    refine zv_iload_n (n := 1) dX4_faultOfObject_7 rfl rfl ?_
    refine zv_iload_n (n := 2) dX4_faultOfObject_8 rfl rfl ?_
    refine zr_cVi (ci := 4) (st := []) dX4_faultOfObject_9 mw_X4_isOf wd_1261 wd_1263 wd_36 rfl rfl [.int l1, .int l2] rfl rfl (Nat.le_of_ble_eq_true rfl) (show d - 1 + 1 ≤ d by omega) h (fun o1 e2 => tX4_isOf (d := d - 1) (by omega) e2) (fun o1 e2 h => ?_)
    refine zr_if_eq (tgt := 19) dX4_faultOfObject_12 (by decide) h (fun c3 h => ?_) (fun c3 h => ?_)
    · refine zv_iconst (v := 5) dX4_faultOfObject_19 (by decide) ?_
      exact zv_fewer [] rfl (kX4_faultOfObject_20 hd _ _ h)
    · refine zv_iconst (v := 0) dX4_faultOfObject_15 (by decide) ?_
      refine zv_goto (tgt := 20) dX4_faultOfObject_16 (by decide) ?_
      exact zv_fewer [] rfl (kX4_faultOfObject_20 hd _ _ h)
  · refine zv_iconst (v := 2) dX4_faultOfObject_4 (by decide) ?_
    cases h
    exact zv_iret dX4_faultOfObject_5 rfl
def mX4_faultOfObject (N : Nat) (a0 : Nat) (a1 : Int32) (a2 : Int32) (x : zv_X) : Option (zv_X × Int32) := mX4_faultOfObject_0 N a0 a1 a2 x
theorem tX4_faultOfObject {d : Nat} (hd : 3 ≤ d) {N : Nat} {x : zv_X} {a0 : Nat} {a1 : Int32} {a2 : Int32} {o : (zv_X × Int32)} (h : mX4_faultOfObject N a0 a1 a2 x = some o) : zv_T d yX4_faultOfObject cX4_faultOfObject 3 ((some .int)) [.ref a0, .int a1, .int a2] x o.1 (some (.int o.2)) := by
  unfold mX4_faultOfObject at h
  exact zv_enter (by decide) (Nat.le_of_ble_eq_true rfl) (kX4_faultOfObject_0 hd _ _ _ _ h)

abbrev fX4_readField (d : Nat) (x0 : zv_X) (o : (zv_X × Int32)) : zv_G := (d, RX4, cX4_readField, 6, (some .int), ("readField", []), x0, o.1, zv_fin x0 o.1 (some (.int o.2)))
def mX4_readField_97 (N : Nat) (l0 : Nat) (x : zv_X) : Option (zv_X × Int32) := if zm_k x l0 4 = true then ((mX4_goOn N l0 (3 : Int32) x).bind fun o1 => some (o1.1, o1.2)) else none
theorem kX4_readField_97 {d : Nat} {x0 : zv_X} {o : (zv_X × Int32)} (hd : 4 ≤ d) {N : Nat} (l0 : Nat) (x : zv_X) (h : mX4_readField_97 N l0 x = some o) : zv_V (fX4_readField d x0 o) 97 [(0, .ref l0)] [] x := by
  unfold mX4_readField_97 at h
  refine zv_aload_n (n := 0) dX4_readField_97 rfl rfl ?_
  refine zv_iconst (v := 3) dX4_readField_98 (by decide) ?_
  refine zr_cVi (ci := 4) (st := []) dX4_readField_99 mw_X4_goOn wd_1117 wd_1119 wd_22 rfl rfl [.int (3 : Int32)] rfl rfl (Nat.le_of_ble_eq_true rfl) (show d - 1 + 1 ≤ d by omega) h (fun o1 e2 => tX4_goOn (d := d - 1) (by omega) e2) (fun o1 e2 h => ?_)
  cases h
  exact zv_iret dX4_readField_102 rfl
def mX4_readField_0 (N : Nat) (l0 : Nat) (x : zv_X) : Option (zv_X × Int32) := (zm_R x l0 4 5).bind fun v1 => if zm_k x v1 1 = true then ((mX1_operand N v1 (1 : Int32) x).bind fun o3 => (zm_R o3.1 l0 4 5).bind fun v5 => if zm_k o3.1 v5 1 = true then ((mX1_operand N v5 (2 : Int32) o3.1).bind fun o7 => (zm_R o7.1 l0 4 5).bind fun v9 => if zm_k o7.1 v9 1 = true then ((mX1_reference N v9 (0 : Int32) o7.1).bind fun o11 => if zm_k o11.1 l0 4 = true then ((mX4_faultOfObject N l0 o11.2 o3.2 o11.1).bind fun o13 => if o13.2 = 0 then ((zm_R o13.1 l0 4 2).bind fun v15 => if zm_k o13.1 v15 2 = true then ((mX2_field N v15 o11.2 o7.2 o13.1).bind fun o17 => (zm_R o17.1 l0 4 5).bind fun v19 => if zm_k o17.1 v19 1 = true then ((mX1_drop N v19 (1 : Int32) o17.1).bind fun o21 => (zm_R o21 l0 4 0).bind fun v23 => if zm_k o21 v23 7 = true then ((mX7_kindOfField N v23 o3.2 o7.2 o21).bind fun o25 => if o25.2 = (3 : Int32) then ((zm_R o25.1 l0 4 5).bind fun v31 => if zm_k o25.1 v31 1 = true then ((mX1_pushReference N v31 o17.2 o25.1).bind fun o33 => mX4_readField_97 N l0 o33) else none) else ((zm_R o25.1 l0 4 5).bind fun v27 => if zm_k o25.1 v27 1 = true then ((mX1_pushNumber N v27 (Int32.toInt64 o17.2) o25.1).bind fun o29 => mX4_readField_97 N l0 o29) else none)) else none) else none) else none) else (some (o13.1, o13.2))) else none) else none) else none) else none
theorem kX4_readField_0 {d : Nat} {x0 : zv_X} {o : (zv_X × Int32)} (hd : 4 ≤ d) {N : Nat} (l0 : Nat) (x : zv_X) (h : mX4_readField_0 N l0 x = some o) : zv_V (fX4_readField d x0 o) 0 [(0, .ref l0)] [] x := by
  unfold mX4_readField_0 at h
  refine zv_aload_n (n := 0) dX4_readField_0 rfl rfl ?_
  refine zr_gR dX4_readField_1 fg_371 h (fun v1 e2 h => ?_)
  refine zv_iconst (v := 1) dX4_readField_4 (by decide) ?_
  refine zr_cVi (ci := 1) (st := []) dX4_readField_5 mw_X1_operand wd_1130 wd_1131 wd_1132 rfl rfl [.int (1 : Int32)] rfl rfl (Nat.le_of_ble_eq_true rfl) (show d - 1 + 1 ≤ d by omega) h (fun o3 e4 => tX1_operand (d := d - 1) (by omega) e4) (fun o3 e4 h => ?_)
  refine zv_istore_n (L' := [(1, .int o3.2), (0, .ref l0)]) dX4_readField_8 rfl (Nat.le_of_ble_eq_true rfl) rfl ?_
  refine zv_aload_n (n := 1) dX4_readField_9 rfl rfl ?_
  refine zr_gR dX4_readField_10 fg_371 h (fun v5 e6 h => ?_)
  refine zv_iconst (v := 2) dX4_readField_13 (by decide) ?_
  refine zr_cVi (ci := 1) (st := []) dX4_readField_14 mw_X1_operand wd_1130 wd_1131 wd_1132 rfl rfl [.int (2 : Int32)] rfl rfl (Nat.le_of_ble_eq_true rfl) (show d - 1 + 1 ≤ d by omega) h (fun o7 e8 => tX1_operand (d := d - 1) (by omega) e8) (fun o7 e8 h => ?_)
  refine zv_istore_n (L' := [(2, .int o7.2), (1, .int o3.2), (0, .ref l0)]) dX4_readField_17 rfl (Nat.le_of_ble_eq_true rfl) rfl ?_
  refine zv_aload_n (n := 2) dX4_readField_18 rfl rfl ?_
  refine zr_gR dX4_readField_19 fg_371 h (fun v9 e10 h => ?_)
  refine zv_iconst (v := 0) dX4_readField_22 (by decide) ?_
  refine zr_cVi (ci := 1) (st := []) dX4_readField_23 mw_X1_reference wd_1151 wd_1152 wd_1153 rfl rfl [.int (0 : Int32)] rfl rfl (Nat.le_of_ble_eq_true rfl) (show d - 1 + 1 ≤ d by omega) h (fun o11 e12 => tX1_reference (d := d - 1) (by omega) e12) (fun o11 e12 h => ?_)
  refine zv_istore_n (L' := [(3, .int o11.2), (2, .int o7.2), (1, .int o3.2), (0, .ref l0)]) dX4_readField_26 rfl (Nat.le_of_ble_eq_true rfl) rfl ?_
  refine zv_aload_n (n := 3) dX4_readField_27 rfl rfl ?_
  refine zv_iload_n (n := 0) dX4_readField_28 rfl rfl ?_
  refine zv_iload_n (n := 2) dX4_readField_29 rfl rfl ?_
  refine zr_cVi (ci := 4) (st := []) dX4_readField_30 mw_X4_faultOfObject wd_1257 wd_1259 wd_35 rfl rfl [.int o11.2, .int o3.2] rfl rfl (Nat.le_of_ble_eq_true rfl) (show d - 1 + 1 ≤ d by omega) h (fun o13 e14 => tX4_faultOfObject (d := d - 1) (by omega) e14) (fun o13 e14 h => ?_)
  refine zv_istore (L' := [(4, .int o13.2), (3, .int o11.2), (2, .int o7.2), (1, .int o3.2), (0, .ref l0)]) dX4_readField_33 (Nat.le_of_ble_eq_true rfl) rfl ?_
  refine zv_iload (n := 0) dX4_readField_35 rfl ?_
  refine zr_if_eq (tgt := 43) dX4_readField_37 (by decide) h (fun c36 h => ?_) (fun c36 h => ?_)
  · refine zv_aload_n (n := 4) dX4_readField_43 rfl rfl ?_
    refine zr_gR dX4_readField_44 fg_368 h (fun v15 e16 h => ?_)
    refine zv_iload_n (n := 1) dX4_readField_47 rfl rfl ?_
    refine zv_iload_n (n := 2) dX4_readField_48 rfl rfl ?_
    refine zr_cVi (ci := 2) (st := []) dX4_readField_49 mw_X2_field wd_1269 wd_1270 wd_1271 rfl rfl [.int o11.2, .int o7.2] rfl rfl (Nat.le_of_ble_eq_true rfl) (show d - 1 + 1 ≤ d by omega) h (fun o17 e18 => tX2_field (d := d - 1) (by omega) e18) (fun o17 e18 h => ?_)
    refine zv_istore (L' := [(5, .int o17.2), (4, .int o13.2), (3, .int o11.2), (2, .int o7.2), (1, .int o3.2), (0, .ref l0)]) dX4_readField_52 (Nat.le_of_ble_eq_true rfl) rfl ?_
    refine zv_aload_n (n := 5) dX4_readField_54 rfl rfl ?_
    refine zr_gR dX4_readField_55 fg_371 h (fun v19 e20 h => ?_)
    refine zv_iconst (v := 1) dX4_readField_58 (by decide) ?_
    refine zr_cVv (ci := 1) (st := []) dX4_readField_59 mw_X1_drop wd_1180 wd_1181 wd_1182 rfl rfl [.int (1 : Int32)] rfl rfl (Nat.le_of_ble_eq_true rfl) (show d - 1 + 1 ≤ d by omega) h (fun o21 e22 => tX1_drop (d := d - 1) (by omega) e22) (fun o21 e22 h => ?_)
    refine zv_aload_n (n := 5) dX4_readField_62 rfl rfl ?_
    refine zr_gR dX4_readField_63 fg_366 h (fun v23 e24 h => ?_)
    refine zv_iload_n (n := 4) dX4_readField_66 rfl rfl ?_
    refine zv_iload_n (n := 3) dX4_readField_67 rfl rfl ?_
    refine zr_cVi (ci := 7) (st := []) dX4_readField_68 mw_X7_kindOfField wd_1273 wd_735 wd_736 rfl rfl [.int o3.2, .int o7.2] rfl rfl (Nat.le_of_ble_eq_true rfl) (show d - 1 + 1 ≤ d by omega) h (fun o25 e26 => tX7_kindOfField (d := d - 1) (by omega) e26) (fun o25 e26 h => ?_)
    refine zv_iconst (v := 3) dX4_readField_71 (by decide) ?_
    refine zr_icmp_ne (tgt := 87) dX4_readField_72 (by decide) h (fun c35 h => ?_) (fun c35 h => ?_)
    · refine zv_aload_n (n := 5) dX4_readField_87 rfl rfl ?_
      refine zr_gR dX4_readField_88 fg_371 h (fun v27 e28 h => ?_)
      refine zv_iload (n := 0) dX4_readField_91 rfl ?_
      refine zv_i2l dX4_readField_93 ?_
      refine zr_cVv (ci := 1) (st := []) dX4_readField_94 mw_X1_pushNumber wd_1125 wd_1126 wd_1127 rfl rfl [.long (Int32.toInt64 o17.2)] rfl rfl (Nat.le_of_ble_eq_true rfl) (show d - 1 + 1 ≤ d by omega) h (fun o29 e30 => tX1_pushNumber (d := d - 1) (by omega) e30) (fun o29 e30 h => ?_)
      exact zv_fewer [5] rfl (kX4_readField_97 hd _ _ h)
    · refine zv_aload_n (n := 5) dX4_readField_75 rfl rfl ?_
      refine zr_gR dX4_readField_76 fg_371 h (fun v31 e32 h => ?_)
      refine zv_iload (n := 0) dX4_readField_79 rfl ?_
      refine zr_cVv (ci := 1) (st := []) dX4_readField_81 mw_X1_pushReference wd_1121 wd_1122 wd_1123 rfl rfl [.int o17.2] rfl rfl (Nat.le_of_ble_eq_true rfl) (show d - 1 + 1 ≤ d by omega) h (fun o33 e34 => tX1_pushReference (d := d - 1) (by omega) e34) (fun o33 e34 h => ?_)
      refine zv_goto (tgt := 97) dX4_readField_84 (by decide) ?_
      exact zv_fewer [5] rfl (kX4_readField_97 hd _ _ h)
  · refine zv_iload (n := 0) dX4_readField_40 rfl ?_
    cases h
    exact zv_iret dX4_readField_42 rfl
def mX4_readField (N : Nat) (a0 : Nat) (x : zv_X) : Option (zv_X × Int32) := mX4_readField_0 N a0 x
theorem tX4_readField {d : Nat} (hd : 4 ≤ d) {N : Nat} {x : zv_X} {a0 : Nat} {o : (zv_X × Int32)} (h : mX4_readField N a0 x = some o) : zv_T d yX4_readField cX4_readField 6 ((some .int)) [.ref a0] x o.1 (some (.int o.2)) := by
  unfold mX4_readField at h
  exact zv_enter (by decide) (Nat.le_of_ble_eq_true rfl) (kX4_readField_0 hd _ _ h)

abbrev fX4_combined (d : Nat) (x0 : zv_X) (o : (zv_X × Int64)) : zv_G := (d, RX4, cX4_combined, 5, (some .long), ("combined", []), x0, o.1, zv_fin x0 o.1 (some (.long o.2)))
def mX4_combined_0 (N : Nat) (l0 : Int32) (l1 : Int64) (l3 : Int64) (x : zv_X) : Option (zv_X × Int64) := if l0 = (96 : Int32) then (some (x, l1 + l3)) else if l0 = (100 : Int32) then (some (x, l1 - l3)) else if l0 = (104 : Int32) then (some (x, l1 * l3)) else if l0 = (108 : Int32) then (if l3 = 0 then none else (some (x, l1 / l3))) else if l0 = (112 : Int32) then (if l3 = 0 then none else (some (x, l1 - l1 / l3 * l3))) else if l0 = (126 : Int32) then (some (x, l1 &&& l3)) else if l0 = (128 : Int32) then (some (x, l1 ||| l3)) else (some (x, l1 ^^^ l3))
theorem kX4_combined_0 {d : Nat} {x0 : zv_X} {o : (zv_X × Int64)} (hd : 0 ≤ d) {N : Nat} (l0 : Int32) (l1 : Int64) (l3 : Int64) (x : zv_X) (h : mX4_combined_0 N l0 l1 l3 x = some o) : zv_V (fX4_combined d x0 o) 0 [(0, .int l0), (1, .long l1), (3, .long l3)] [] x := by
  unfold mX4_combined_0 at h
  refine zv_iload_n (n := 0) dX4_combined_0 rfl rfl ?_
  rcases zif h with ⟨c1, h⟩ | ⟨c1, h⟩
  · refine zr_lookIn (tgt := 68) (off := 67) c1 dX4_combined_1 (by decide) (by decide) (by decide) ?_
    refine zv_lload_n (n := 1) dX4_combined_68 rfl rfl ?_
    refine zv_lload_n (n := 2) dX4_combined_69 rfl rfl ?_
    refine zv_ladd dX4_combined_70 ?_
    cases h
    exact zv_lret dX4_combined_71 rfl
  rcases zif h with ⟨c2, h⟩ | ⟨c2, h⟩
  · refine zr_lookIn (tgt := 72) (off := 71) c2 dX4_combined_1 (by decide) (by decide) (by decide) ?_
    refine zv_lload_n (n := 1) dX4_combined_72 rfl rfl ?_
    refine zv_lload_n (n := 2) dX4_combined_73 rfl rfl ?_
    refine zv_lsub dX4_combined_74 ?_
    cases h
    exact zv_lret dX4_combined_75 rfl
  rcases zif h with ⟨c3, h⟩ | ⟨c3, h⟩
  · refine zr_lookIn (tgt := 76) (off := 75) c3 dX4_combined_1 (by decide) (by decide) (by decide) ?_
    refine zv_lload_n (n := 1) dX4_combined_76 rfl rfl ?_
    refine zv_lload_n (n := 2) dX4_combined_77 rfl rfl ?_
    refine zv_lmul dX4_combined_78 ?_
    cases h
    exact zv_lret dX4_combined_79 rfl
  rcases zif h with ⟨c5, h⟩ | ⟨c5, h⟩
  · refine zr_lookIn (tgt := 80) (off := 79) c5 dX4_combined_1 (by decide) (by decide) (by decide) ?_
    refine zv_lload_n (n := 1) dX4_combined_80 rfl rfl ?_
    refine zv_lload_n (n := 2) dX4_combined_81 rfl rfl ?_
    refine zr_ldiv dX4_combined_82 h (fun c4 h => ?_)
    cases h
    exact zv_lret dX4_combined_83 rfl
  rcases zif h with ⟨c7, h⟩ | ⟨c7, h⟩
  · refine zr_lookIn (tgt := 84) (off := 83) c7 dX4_combined_1 (by decide) (by decide) (by decide) ?_
    refine zv_lload_n (n := 1) dX4_combined_84 rfl rfl ?_
    refine zv_lload_n (n := 2) dX4_combined_85 rfl rfl ?_
    refine zr_lrem dX4_combined_86 h (fun c6 h => ?_)
    cases h
    exact zv_lret dX4_combined_87 rfl
  rcases zif h with ⟨c8, h⟩ | ⟨c8, h⟩
  · refine zr_lookIn (tgt := 88) (off := 87) c8 dX4_combined_1 (by decide) (by decide) (by decide) ?_
    refine zv_lload_n (n := 1) dX4_combined_88 rfl rfl ?_
    refine zv_lload_n (n := 2) dX4_combined_89 rfl rfl ?_
    refine zv_land dX4_combined_90 ?_
    cases h
    exact zv_lret dX4_combined_91 rfl
  rcases zif h with ⟨c9, h⟩ | ⟨c9, h⟩
  · refine zr_lookIn (tgt := 92) (off := 91) c9 dX4_combined_1 (by decide) (by decide) (by decide) ?_
    refine zv_lload_n (n := 1) dX4_combined_92 rfl rfl ?_
    refine zv_lload_n (n := 2) dX4_combined_93 rfl rfl ?_
    refine zv_lor dX4_combined_94 ?_
    cases h
    exact zv_lret dX4_combined_95 rfl
  refine zv_lookup (tgt := 96) (off := 95) dX4_combined_1 (by decide) (by show Op.lookupswitch.offset [((96 : Int), (67 : Int)), ((100 : Int), (71 : Int)), ((104 : Int), (75 : Int)), ((108 : Int), (79 : Int)), ((112 : Int), (83 : Int)), ((126 : Int), (87 : Int)), ((128 : Int), (91 : Int))] 95 _ = _; rw [lv_osw c1 (show (96 : Int32).toInt = 96 by decide), lv_osw c2 (show (100 : Int32).toInt = 100 by decide), lv_osw c3 (show (104 : Int32).toInt = 104 by decide), lv_osw c5 (show (108 : Int32).toInt = 108 by decide), lv_osw c7 (show (112 : Int32).toInt = 112 by decide), lv_osw c8 (show (126 : Int32).toInt = 126 by decide), lv_osw c9 (show (128 : Int32).toInt = 128 by decide)]; rfl) (by decide) ?_
  refine zv_lload_n (n := 1) dX4_combined_96 rfl rfl ?_
  refine zv_lload_n (n := 2) dX4_combined_97 rfl rfl ?_
  refine zv_lxor dX4_combined_98 ?_
  cases h
  exact zv_lret dX4_combined_99 rfl
def mX4_combined (N : Nat) (a0 : Int32) (a1 : Int64) (a2 : Int64) (x : zv_X) : Option (zv_X × Int64) := mX4_combined_0 N a0 a1 a2 x
theorem tX4_combined {d : Nat} (hd : 0 ≤ d) {N : Nat} {x : zv_X} {a0 : Int32} {a1 : Int64} {a2 : Int64} {o : (zv_X × Int64)} (h : mX4_combined N a0 a1 a2 x = some o) : zv_T d yX4_combined cX4_combined 5 ((some .long)) [.int a0, .long a1, .long a2] x o.1 (some (.long o.2)) := by
  unfold mX4_combined at h
  exact zv_enter (by decide) (Nat.le_of_ble_eq_true rfl) (kX4_combined_0 hd _ _ _ _ h)

abbrev fX4_moved (d : Nat) (x0 : zv_X) (o : (zv_X × Int64)) : zv_G := (d, RX4, cX4_moved, 7, (some .long), ("moved", []), x0, o.1, zv_fin x0 o.1 (some (.long o.2)))
def mX4_moved_68 (N : Nat) (l6 : Int32) (s0 : Int64) (x : zv_X) : Option (zv_X × Int64) := some (x, (Int64.toUInt64 s0 >>> ((Int32.toInt64 l6).toUInt64 &&& Int64.toUInt64 63)).toInt64)
theorem kX4_moved_68 {d : Nat} {x0 : zv_X} {o : (zv_X × Int64)} (hd : 0 ≤ d) {N : Nat} (l6 : Int32) (s0 : Int64) (x : zv_X) (h : mX4_moved_68 N l6 s0 x = some o) : zv_V (fX4_moved d x0 o) 68 [(6, .int l6)] [.long s0] x := by
  unfold mX4_moved_68 at h
  refine zv_iload (n := 0) dX4_moved_68 rfl ?_
  refine zv_lushr dX4_moved_70 ?_
  cases h
  exact zv_lret dX4_moved_71 rfl
def mX4_moved_14 (N : Nat) (l0 : Int32) (l1 : Int64) (l5 : Int32) (s0 : Int32) (s1 : Int32) (x : zv_X) : Option (zv_X × Int64) := if l0 = (120 : Int32) then (some (x, l1 <<< (Int32.toInt64 (s1 &&& s0) &&& 63))) else if l0 = (122 : Int32) then (some (x, l1 >>> (Int32.toInt64 (s1 &&& s0) &&& 63))) else (if l5 = 0 then (mX4_moved_68 N (s1 &&& s0) l1 x) else (mX4_moved_68 N (s1 &&& s0) (l1 &&& (4294967295 : Int64)) x))
theorem kX4_moved_14 {d : Nat} {x0 : zv_X} {o : (zv_X × Int64)} (hd : 0 ≤ d) {N : Nat} (l0 : Int32) (l1 : Int64) (l5 : Int32) (s0 : Int32) (s1 : Int32) (x : zv_X) (h : mX4_moved_14 N l0 l1 l5 s0 s1 x = some o) : zv_V (fX4_moved d x0 o) 14 [(0, .int l0), (1, .long l1), (5, .int l5)] [.int s0, .int s1] x := by
  unfold mX4_moved_14 at h
  refine zv_iand dX4_moved_14 ?_
  refine zv_istore (L' := [(6, .int (s1 &&& s0)), (0, .int l0), (1, .long l1), (5, .int l5)]) dX4_moved_15 (Nat.le_of_ble_eq_true rfl) rfl ?_
  refine zv_iload_n (n := 1) dX4_moved_17 rfl rfl ?_
  rcases zif h with ⟨c1, h⟩ | ⟨c1, h⟩
  · refine zr_lookIn (tgt := 44) (off := 26) c1 dX4_moved_18 (by decide) (by decide) (by decide) ?_
    refine zv_lload_n (n := 2) dX4_moved_44 rfl rfl ?_
    refine zv_iload (n := 0) dX4_moved_45 rfl ?_
    refine zv_lshl dX4_moved_47 ?_
    cases h
    exact zv_lret dX4_moved_48 rfl
  rcases zif h with ⟨c2, h⟩ | ⟨c2, h⟩
  · refine zr_lookIn (tgt := 49) (off := 31) c2 dX4_moved_18 (by decide) (by decide) (by decide) ?_
    refine zv_lload_n (n := 2) dX4_moved_49 rfl rfl ?_
    refine zv_iload (n := 0) dX4_moved_50 rfl ?_
    refine zv_lshr dX4_moved_52 ?_
    cases h
    exact zv_lret dX4_moved_53 rfl
  refine zv_lookup (tgt := 54) (off := 36) dX4_moved_18 (by decide) (by show Op.lookupswitch.offset [((120 : Int), (26 : Int)), ((122 : Int), (31 : Int))] 36 _ = _; rw [lv_osw c1 (show (120 : Int32).toInt = 120 by decide), lv_osw c2 (show (122 : Int32).toInt = 122 by decide)]; rfl) (by decide) ?_
  refine zv_iload (n := 3) dX4_moved_54 rfl ?_
  refine zr_if_eq (tgt := 67) dX4_moved_56 (by decide) h (fun c3 h => ?_) (fun c3 h => ?_)
  · refine zv_lload_n (n := 2) dX4_moved_67 rfl rfl ?_
    exact zv_fewer [0] rfl (kX4_moved_68 hd _ _ _ h)
  · refine zv_lload_n (n := 2) dX4_moved_59 rfl rfl ?_
    refine zv_ldc2 dX4_moved_60 wd_1224 ?_
    refine zv_land dX4_moved_63 ?_
    refine zv_goto (tgt := 68) dX4_moved_64 (by decide) ?_
    exact zv_fewer [0] rfl (kX4_moved_68 hd _ _ _ h)
def mX4_moved_0 (N : Nat) (l0 : Int32) (l1 : Int64) (l3 : Int64) (l5 : Int32) (x : zv_X) : Option (zv_X × Int64) := if l5 = 0 then (mX4_moved_14 N l0 l1 l5 (63 : Int32) (Int64.toInt32 l3) x) else (mX4_moved_14 N l0 l1 l5 (31 : Int32) (Int64.toInt32 l3) x)
theorem kX4_moved_0 {d : Nat} {x0 : zv_X} {o : (zv_X × Int64)} (hd : 0 ≤ d) {N : Nat} (l0 : Int32) (l1 : Int64) (l3 : Int64) (l5 : Int32) (x : zv_X) (h : mX4_moved_0 N l0 l1 l3 l5 x = some o) : zv_V (fX4_moved d x0 o) 0 [(0, .int l0), (1, .long l1), (3, .long l3), (5, .int l5)] [] x := by
  unfold mX4_moved_0 at h
  refine zv_lload_n (n := 2) dX4_moved_0 rfl rfl ?_
  refine zv_l2i dX4_moved_1 ?_
  refine zv_iload (n := 3) dX4_moved_2 rfl ?_
  refine zr_if_eq (tgt := 12) dX4_moved_4 (by decide) h (fun c1 h => ?_) (fun c1 h => ?_)
  · refine zv_bipush (v := 63) dX4_moved_12 (by decide) ?_
    exact zv_fewer [0, 1, 3] rfl (kX4_moved_14 hd _ _ _ _ _ _ h)
  · refine zv_bipush (v := 31) dX4_moved_7 (by decide) ?_
    refine zv_goto (tgt := 14) dX4_moved_9 (by decide) ?_
    exact zv_fewer [0, 1, 3] rfl (kX4_moved_14 hd _ _ _ _ _ _ h)
def mX4_moved (N : Nat) (a0 : Int32) (a1 : Int64) (a2 : Int64) (a3 : Int32) (x : zv_X) : Option (zv_X × Int64) := mX4_moved_0 N a0 a1 a2 a3 x
theorem tX4_moved {d : Nat} (hd : 0 ≤ d) {N : Nat} {x : zv_X} {a0 : Int32} {a1 : Int64} {a2 : Int64} {a3 : Int32} {o : (zv_X × Int64)} (h : mX4_moved N a0 a1 a2 a3 x = some o) : zv_T d yX4_moved cX4_moved 7 ((some .long)) [.int a0, .long a1, .long a2, .int a3] x o.1 (some (.long o.2)) := by
  unfold mX4_moved at h
  exact zv_enter (by decide) (Nat.le_of_ble_eq_true rfl) (kX4_moved_0 hd _ _ _ _ _ h)
