abbrev fX4_goOn (d : Nat) (x0 : zv_X) (o : (zv_X × Int32)) : zv_G := (d, RX4, cX4_goOn, 2, (some .int), ("goOn", []), x0, o.1, zv_fin x0 o.1 (some (.int o.2)))
def mX4_goOn_0 (N : Nat) (l0 : Nat) (l1 : Int32) (x : zv_X) : Option (zv_X × Int32) := (zm_R x l0 4 5).bind fun v1 => (zm_I x v1 1 4).bind fun v3 => (zm_p x v1 1 4 (.int (v3 + l1))).bind fun x5 => some (x5, (0 : Int32))
theorem kX4_goOn_0 {d : Nat} {x0 : zv_X} {o : (zv_X × Int32)} (hd : 0 ≤ d) {N : Nat} (l0 : Nat) (l1 : Int32) (x : zv_X) (h : mX4_goOn_0 N l0 l1 x = some o) : zv_V (fX4_goOn d x0 o) 0 [(0, .ref l0), (1, .int l1)] [] x := by
  unfold mX4_goOn_0 at h
  refine zv_aload_n (n := 0) dX4_goOn_0 rfl rfl ?_
  refine zr_gR dX4_goOn_1 fg_371 h (fun v1 e2 h => ?_)
  refine zv_dup dX4_goOn_4 rfl ?_
  refine zr_gI dX4_goOn_5 fg_353 h (fun v3 e4 h => ?_)
  refine zv_iload_n (n := 1) dX4_goOn_8 rfl rfl ?_
  refine zv_iadd dX4_goOn_9 ?_
  refine zr_p dX4_goOn_10 fl_353 (fun q => nomatch q) rfl rfl h (fun x5 e6 h => ?_)
  refine zv_iconst (v := 0) dX4_goOn_13 (by decide) ?_
  cases h
  exact zv_iret dX4_goOn_14 rfl
def mX4_goOn (N : Nat) (a0 : Nat) (a1 : Int32) (x : zv_X) : Option (zv_X × Int32) := mX4_goOn_0 N a0 a1 x
theorem tX4_goOn {d : Nat} (hd : 0 ≤ d) {N : Nat} {x : zv_X} {a0 : Nat} {a1 : Int32} {o : (zv_X × Int32)} (h : mX4_goOn N a0 a1 x = some o) : zv_T d yX4_goOn cX4_goOn 2 ((some .int)) [.ref a0, .int a1] x o.1 (some (.int o.2)) := by
  unfold mX4_goOn at h
  exact zv_enter (by decide) (Nat.le_of_ble_eq_true rfl) (kX4_goOn_0 hd _ _ _ h)

abbrev fX4_holds (d : Nat) (x0 : zv_X) (o : (zv_X × Int32)) : zv_G := (d, RX4, cX4_holds, 5, (some .boolean), ("holds", []), x0, o.1, zv_fin x0 o.1 (some (.int o.2)))
def mX4_holds_47 (N : Nat) (s0 : Int32) (x : zv_X) : Option (zv_X × Int32) := if s0 = 0 ∨ s0 = 1 then some (x, s0) else none
theorem kX4_holds_47 {d : Nat} {x0 : zv_X} {o : (zv_X × Int32)} (hd : 0 ≤ d) {N : Nat} (s0 : Int32) (x : zv_X) (h : mX4_holds_47 N s0 x = some o) : zv_V (fX4_holds d x0 o) 47 [] [.int s0] x := by
  unfold mX4_holds_47 at h
  obtain ⟨hv, h⟩ := zg h
  cases h
  exact zv_zret dX4_holds_47 rfl hv
def mX4_holds_59 (N : Nat) (s0 : Int32) (x : zv_X) : Option (zv_X × Int32) := if s0 = 0 ∨ s0 = 1 then some (x, s0) else none
theorem kX4_holds_59 {d : Nat} {x0 : zv_X} {o : (zv_X × Int32)} (hd : 0 ≤ d) {N : Nat} (s0 : Int32) (x : zv_X) (h : mX4_holds_59 N s0 x = some o) : zv_V (fX4_holds d x0 o) 59 [] [.int s0] x := by
  unfold mX4_holds_59 at h
  obtain ⟨hv, h⟩ := zg h
  cases h
  exact zv_zret dX4_holds_59 rfl hv
def mX4_holds_71 (N : Nat) (s0 : Int32) (x : zv_X) : Option (zv_X × Int32) := if s0 = 0 ∨ s0 = 1 then some (x, s0) else none
theorem kX4_holds_71 {d : Nat} {x0 : zv_X} {o : (zv_X × Int32)} (hd : 0 ≤ d) {N : Nat} (s0 : Int32) (x : zv_X) (h : mX4_holds_71 N s0 x = some o) : zv_V (fX4_holds d x0 o) 71 [] [.int s0] x := by
  unfold mX4_holds_71 at h
  obtain ⟨hv, h⟩ := zg h
  cases h
  exact zv_zret dX4_holds_71 rfl hv
def mX4_holds_83 (N : Nat) (s0 : Int32) (x : zv_X) : Option (zv_X × Int32) := if s0 = 0 ∨ s0 = 1 then some (x, s0) else none
theorem kX4_holds_83 {d : Nat} {x0 : zv_X} {o : (zv_X × Int32)} (hd : 0 ≤ d) {N : Nat} (s0 : Int32) (x : zv_X) (h : mX4_holds_83 N s0 x = some o) : zv_V (fX4_holds d x0 o) 83 [] [.int s0] x := by
  unfold mX4_holds_83 at h
  obtain ⟨hv, h⟩ := zg h
  cases h
  exact zv_zret dX4_holds_83 rfl hv
def mX4_holds_95 (N : Nat) (s0 : Int32) (x : zv_X) : Option (zv_X × Int32) := if s0 = 0 ∨ s0 = 1 then some (x, s0) else none
theorem kX4_holds_95 {d : Nat} {x0 : zv_X} {o : (zv_X × Int32)} (hd : 0 ≤ d) {N : Nat} (s0 : Int32) (x : zv_X) (h : mX4_holds_95 N s0 x = some o) : zv_V (fX4_holds d x0 o) 95 [] [.int s0] x := by
  unfold mX4_holds_95 at h
  obtain ⟨hv, h⟩ := zg h
  cases h
  exact zv_zret dX4_holds_95 rfl hv
def mX4_holds_107 (N : Nat) (s0 : Int32) (x : zv_X) : Option (zv_X × Int32) := if s0 = 0 ∨ s0 = 1 then some (x, s0) else none
theorem kX4_holds_107 {d : Nat} {x0 : zv_X} {o : (zv_X × Int32)} (hd : 0 ≤ d) {N : Nat} (s0 : Int32) (x : zv_X) (h : mX4_holds_107 N s0 x = some o) : zv_V (fX4_holds d x0 o) 107 [] [.int s0] x := by
  unfold mX4_holds_107 at h
  obtain ⟨hv, h⟩ := zg h
  cases h
  exact zv_zret dX4_holds_107 rfl hv
def mX4_holds_0 (N : Nat) (l0 : Int32) (l1 : Int64) (l3 : Int64) (x : zv_X) : Option (zv_X × Int32) := if l0 = (153 : Int32) then (if (lg_cmp l1 l3) = 0 then (mX4_holds_47 N (1 : Int32) x) else (mX4_holds_47 N (0 : Int32) x)) else if l0 = (154 : Int32) then (if (lg_cmp l1 l3) = 0 then (mX4_holds_59 N (0 : Int32) x) else (mX4_holds_59 N (1 : Int32) x)) else if l0 = (155 : Int32) then (if 0 ≤ (lg_cmp l1 l3) then (mX4_holds_71 N (0 : Int32) x) else (mX4_holds_71 N (1 : Int32) x)) else if l0 = (156 : Int32) then (if (lg_cmp l1 l3) < 0 then (mX4_holds_83 N (0 : Int32) x) else (mX4_holds_83 N (1 : Int32) x)) else if l0 = (157 : Int32) then (if (lg_cmp l1 l3) ≤ 0 then (mX4_holds_95 N (0 : Int32) x) else (mX4_holds_95 N (1 : Int32) x)) else (if 0 < (lg_cmp l1 l3) then (mX4_holds_107 N (0 : Int32) x) else (mX4_holds_107 N (1 : Int32) x))
theorem kX4_holds_0 {d : Nat} {x0 : zv_X} {o : (zv_X × Int32)} (hd : 0 ≤ d) {N : Nat} (l0 : Int32) (l1 : Int64) (l3 : Int64) (x : zv_X) (h : mX4_holds_0 N l0 l1 l3 x = some o) : zv_V (fX4_holds d x0 o) 0 [(0, .int l0), (1, .long l1), (3, .long l3)] [] x := by
  unfold mX4_holds_0 at h
  refine zv_iload_n (n := 0) dX4_holds_0 rfl rfl ?_
  rcases zif h with ⟨c2, h⟩ | ⟨c2, h⟩
  · refine zr_tabIn (tgt := 36) (off := 35) c2 dX4_holds_1 (by decide) (by decide) (by decide) (by decide) ?_
    refine zv_lload_n (n := 1) dX4_holds_36 rfl rfl ?_
    refine zv_lload_n (n := 2) dX4_holds_37 rfl rfl ?_
    refine zv_lcmp dX4_holds_38 ?_
    refine zr_if_ne (tgt := 46) dX4_holds_39 (by decide) h (fun c1 h => ?_) (fun c1 h => ?_)
    · refine zv_iconst (v := 0) dX4_holds_46 (by decide) ?_
      exact zv_fewer [] rfl (kX4_holds_47 hd _ _ h)
    · refine zv_iconst (v := 1) dX4_holds_42 (by decide) ?_
      refine zv_goto (tgt := 47) dX4_holds_43 (by decide) ?_
      exact zv_fewer [] rfl (kX4_holds_47 hd _ _ h)
  rcases zif h with ⟨c4, h⟩ | ⟨c4, h⟩
  · refine zr_tabIn (tgt := 48) (off := 47) c4 dX4_holds_1 (by decide) (by decide) (by decide) (by decide) ?_
    refine zv_lload_n (n := 1) dX4_holds_48 rfl rfl ?_
    refine zv_lload_n (n := 2) dX4_holds_49 rfl rfl ?_
    refine zv_lcmp dX4_holds_50 ?_
    refine zr_if_eq (tgt := 58) dX4_holds_51 (by decide) h (fun c3 h => ?_) (fun c3 h => ?_)
    · refine zv_iconst (v := 0) dX4_holds_58 (by decide) ?_
      exact zv_fewer [] rfl (kX4_holds_59 hd _ _ h)
    · refine zv_iconst (v := 1) dX4_holds_54 (by decide) ?_
      refine zv_goto (tgt := 59) dX4_holds_55 (by decide) ?_
      exact zv_fewer [] rfl (kX4_holds_59 hd _ _ h)
  rcases zif h with ⟨c6, h⟩ | ⟨c6, h⟩
  · refine zr_tabIn (tgt := 60) (off := 59) c6 dX4_holds_1 (by decide) (by decide) (by decide) (by decide) ?_
    refine zv_lload_n (n := 1) dX4_holds_60 rfl rfl ?_
    refine zv_lload_n (n := 2) dX4_holds_61 rfl rfl ?_
    refine zv_lcmp dX4_holds_62 ?_
    refine zr_if_ge (tgt := 70) dX4_holds_63 (by decide) h (fun c5 h => ?_) (fun c5 h => ?_)
    · refine zv_iconst (v := 0) dX4_holds_70 (by decide) ?_
      exact zv_fewer [] rfl (kX4_holds_71 hd _ _ h)
    · refine zv_iconst (v := 1) dX4_holds_66 (by decide) ?_
      refine zv_goto (tgt := 71) dX4_holds_67 (by decide) ?_
      exact zv_fewer [] rfl (kX4_holds_71 hd _ _ h)
  rcases zif h with ⟨c8, h⟩ | ⟨c8, h⟩
  · refine zr_tabIn (tgt := 72) (off := 71) c8 dX4_holds_1 (by decide) (by decide) (by decide) (by decide) ?_
    refine zv_lload_n (n := 1) dX4_holds_72 rfl rfl ?_
    refine zv_lload_n (n := 2) dX4_holds_73 rfl rfl ?_
    refine zv_lcmp dX4_holds_74 ?_
    refine zr_if_lt (tgt := 82) dX4_holds_75 (by decide) h (fun c7 h => ?_) (fun c7 h => ?_)
    · refine zv_iconst (v := 0) dX4_holds_82 (by decide) ?_
      exact zv_fewer [] rfl (kX4_holds_83 hd _ _ h)
    · refine zv_iconst (v := 1) dX4_holds_78 (by decide) ?_
      refine zv_goto (tgt := 83) dX4_holds_79 (by decide) ?_
      exact zv_fewer [] rfl (kX4_holds_83 hd _ _ h)
  rcases zif h with ⟨c10, h⟩ | ⟨c10, h⟩
  · refine zr_tabIn (tgt := 84) (off := 83) c10 dX4_holds_1 (by decide) (by decide) (by decide) (by decide) ?_
    refine zv_lload_n (n := 1) dX4_holds_84 rfl rfl ?_
    refine zv_lload_n (n := 2) dX4_holds_85 rfl rfl ?_
    refine zv_lcmp dX4_holds_86 ?_
    refine zr_if_le (tgt := 94) dX4_holds_87 (by decide) h (fun c9 h => ?_) (fun c9 h => ?_)
    · refine zv_iconst (v := 0) dX4_holds_94 (by decide) ?_
      exact zv_fewer [] rfl (kX4_holds_95 hd _ _ h)
    · refine zv_iconst (v := 1) dX4_holds_90 (by decide) ?_
      refine zv_goto (tgt := 95) dX4_holds_91 (by decide) ?_
      exact zv_fewer [] rfl (kX4_holds_95 hd _ _ h)
  refine zv_tableOut (tgt := 96) dX4_holds_1 (by have := lv_neT c2 (show (153 : Int32).toInt = 153 by decide); have := lv_neT c4 (show (154 : Int32).toInt = 154 by decide); have := lv_neT c6 (show (155 : Int32).toInt = 155 by decide); have := lv_neT c8 (show (156 : Int32).toInt = 156 by decide); have := lv_neT c10 (show (157 : Int32).toInt = 157 by decide); omega) (by decide) ?_
  refine zv_lload_n (n := 1) dX4_holds_96 rfl rfl ?_
  refine zv_lload_n (n := 2) dX4_holds_97 rfl rfl ?_
  refine zv_lcmp dX4_holds_98 ?_
  refine zr_if_gt (tgt := 106) dX4_holds_99 (by decide) h (fun c11 h => ?_) (fun c11 h => ?_)
  · refine zv_iconst (v := 0) dX4_holds_106 (by decide) ?_
    exact zv_fewer [] rfl (kX4_holds_107 hd _ _ h)
  · refine zv_iconst (v := 1) dX4_holds_102 (by decide) ?_
    refine zv_goto (tgt := 107) dX4_holds_103 (by decide) ?_
    exact zv_fewer [] rfl (kX4_holds_107 hd _ _ h)
def mX4_holds (N : Nat) (a0 : Int32) (a1 : Int64) (a2 : Int64) (x : zv_X) : Option (zv_X × Int32) := mX4_holds_0 N a0 a1 a2 x
theorem tX4_holds {d : Nat} (hd : 0 ≤ d) {N : Nat} {x : zv_X} {a0 : Int32} {a1 : Int64} {a2 : Int64} {o : (zv_X × Int32)} (h : mX4_holds N a0 a1 a2 x = some o) : zv_T d yX4_holds cX4_holds 5 ((some .boolean)) [.int a0, .long a1, .long a2] x o.1 (some (.int o.2)) := by
  unfold mX4_holds at h
  exact zv_enter (by decide) (Nat.le_of_ble_eq_true rfl) (kX4_holds_0 hd _ _ _ _ h)

abbrev fX4_branch (d : Nat) (x0 : zv_X) (o : (zv_X × Int32)) : zv_G := (d, RX4, cX4_branch, 4, (some .int), ("branch", []), x0, o.1, zv_fin x0 o.1 (some (.int o.2)))
def mX4_branch_201 (N : Nat) (s0 : Int32) (s1 : Nat) (x : zv_X) : Option (zv_X × Int32) := if zm_k x s1 4 = true then ((mX4_goOn N s1 s0 x).bind fun o1 => some (o1.1, o1.2)) else none
theorem kX4_branch_201 {d : Nat} {x0 : zv_X} {o : (zv_X × Int32)} (hd : 2 ≤ d) {N : Nat} (s0 : Int32) (s1 : Nat) (x : zv_X) (h : mX4_branch_201 N s0 s1 x = some o) : zv_V (fX4_branch d x0 o) 201 [] [.int s0, .ref s1] x := by
  unfold mX4_branch_201 at h
  refine zr_cVi (ci := 4) (st := []) dX4_branch_201 mw_X4_goOn wd_1117 wd_1119 wd_22 rfl rfl [.int s0] rfl rfl (Nat.le_of_ble_eq_true rfl) (show d - 1 + 1 ≤ d by omega) h (fun o1 e2 => tX4_goOn (d := d - 1) (by omega) e2) (fun o1 e2 h => ?_)
  cases h
  exact zv_iret dX4_branch_204 rfl
def mX4_branch_177 (N : Nat) (l0 : Nat) (l2 : Int32) (l3 : Int32) (x : zv_X) : Option (zv_X × Int32) := (zm_R x l0 4 5).bind fun v1 => if zm_k x v1 1 = true then ((mX1_drop N v1 l3 x).bind fun o3 => if l2 = 0 then (mX4_branch_201 N (3 : Int32) l0 o3) else ((zm_R o3 l0 4 5).bind fun v5 => if zm_k o3 v5 1 = true then ((mX1_pair N v5 o3).bind fun o7 => mX4_branch_201 N o7.2 l0 o7.1) else none)) else none
theorem kX4_branch_177 {d : Nat} {x0 : zv_X} {o : (zv_X × Int32)} (hd : 2 ≤ d) {N : Nat} (l0 : Nat) (l2 : Int32) (l3 : Int32) (x : zv_X) (h : mX4_branch_177 N l0 l2 l3 x = some o) : zv_V (fX4_branch d x0 o) 177 [(0, .ref l0), (2, .int l2), (3, .int l3)] [] x := by
  unfold mX4_branch_177 at h
  refine zv_aload_n (n := 0) dX4_branch_177 rfl rfl ?_
  refine zr_gR dX4_branch_178 fg_371 h (fun v1 e2 h => ?_)
  refine zv_iload_n (n := 2) dX4_branch_181 rfl rfl ?_
  refine zr_cVv (ci := 1) (st := []) dX4_branch_182 mw_X1_drop wd_1180 wd_1181 wd_1182 rfl rfl [.int l3] rfl rfl (Nat.le_of_ble_eq_true rfl) (show d - 1 + 1 ≤ d by omega) h (fun o3 e4 => tX1_drop (d := d - 1) (by omega) e4) (fun o3 e4 h => ?_)
  refine zv_aload_n (n := 0) dX4_branch_185 rfl rfl ?_
  refine zv_iload_n (n := 1) dX4_branch_186 rfl rfl ?_
  refine zr_if_eq (tgt := 200) dX4_branch_187 (by decide) h (fun c9 h => ?_) (fun c9 h => ?_)
  · refine zv_iconst (v := 3) dX4_branch_200 (by decide) ?_
    exact zv_fewer [] rfl (kX4_branch_201 hd _ _ _ h)
  · refine zv_aload_n (n := 0) dX4_branch_190 rfl rfl ?_
    refine zr_gR dX4_branch_191 fg_371 h (fun v5 e6 h => ?_)
    refine zr_cVi (ci := 1) (st := [.ref l0]) dX4_branch_194 mw_X1_pair wd_1134 wd_1135 wd_1136 rfl rfl [] rfl rfl (Nat.le_of_ble_eq_true rfl) (show d - 1 + 1 ≤ d by omega) h (fun o7 e8 => tX1_pair (d := d - 1) (by omega) e8) (fun o7 e8 h => ?_)
    refine zv_goto (tgt := 201) dX4_branch_197 (by decide) ?_
    exact zv_fewer [] rfl (kX4_branch_201 hd _ _ _ h)
def mX4_branch_174 (N : Nat) (l0 : Nat) (s0 : Int32) (x : zv_X) : Option (zv_X × Int32) := mX4_branch_177 N l0 s0 (1 : Int32) x
theorem kX4_branch_174 {d : Nat} {x0 : zv_X} {o : (zv_X × Int32)} (hd : 2 ≤ d) {N : Nat} (l0 : Nat) (s0 : Int32) (x : zv_X) (h : mX4_branch_174 N l0 s0 x = some o) : zv_V (fX4_branch d x0 o) 174 [(0, .ref l0)] [.int s0] x := by
  unfold mX4_branch_174 at h
  refine zv_istore_n (L' := [(2, .int s0), (0, .ref l0)]) dX4_branch_174 rfl (Nat.le_of_ble_eq_true rfl) rfl ?_
  refine zv_iconst (v := 1) dX4_branch_175 (by decide) ?_
  refine zv_istore_n (L' := [(3, .int (1 : Int32)), (2, .int s0), (0, .ref l0)]) dX4_branch_176 rfl (Nat.le_of_ble_eq_true rfl) rfl ?_
  exact zv_fewer [2, 1, 0] rfl (kX4_branch_177 hd _ _ _ _ h)
def mX4_branch_166 (N : Nat) (l0 : Nat) (s0 : Int32) (s1 : Int32) (x : zv_X) : Option (zv_X × Int32) := if s1 = s0 then (mX4_branch_174 N l0 (1 : Int32) x) else (mX4_branch_174 N l0 (0 : Int32) x)
theorem kX4_branch_166 {d : Nat} {x0 : zv_X} {o : (zv_X × Int32)} (hd : 2 ≤ d) {N : Nat} (l0 : Nat) (s0 : Int32) (s1 : Int32) (x : zv_X) (h : mX4_branch_166 N l0 s0 s1 x = some o) : zv_V (fX4_branch d x0 o) 166 [(0, .ref l0)] [.int s0, .int s1] x := by
  unfold mX4_branch_166 at h
  refine zr_icmp_ne (tgt := 173) dX4_branch_166 (by decide) h (fun c1 h => ?_) (fun c1 h => ?_)
  · refine zv_iconst (v := 0) dX4_branch_173 (by decide) ?_
    exact kX4_branch_174 hd _ _ _ h
  · refine zv_iconst (v := 1) dX4_branch_169 (by decide) ?_
    refine zv_goto (tgt := 174) dX4_branch_170 (by decide) ?_
    exact kX4_branch_174 hd _ _ _ h
def mX4_branch_154 (N : Nat) (l0 : Nat) (l1 : Int32) (s0 : Int32) (x : zv_X) : Option (zv_X × Int32) := if l1 = (198 : Int32) then (mX4_branch_166 N l0 (1 : Int32) s0 x) else (mX4_branch_166 N l0 (0 : Int32) s0 x)
theorem kX4_branch_154 {d : Nat} {x0 : zv_X} {o : (zv_X × Int32)} (hd : 2 ≤ d) {N : Nat} (l0 : Nat) (l1 : Int32) (s0 : Int32) (x : zv_X) (h : mX4_branch_154 N l0 l1 s0 x = some o) : zv_V (fX4_branch d x0 o) 154 [(0, .ref l0), (1, .int l1)] [.int s0] x := by
  unfold mX4_branch_154 at h
  refine zv_iload_n (n := 1) dX4_branch_154 rfl rfl ?_
  refine zv_sipush (v := 198) dX4_branch_155 (by decide) ?_
  refine zr_icmp_ne (tgt := 165) dX4_branch_158 (by decide) h (fun c1 h => ?_) (fun c1 h => ?_)
  · refine zv_iconst (v := 0) dX4_branch_165 (by decide) ?_
    exact zv_fewer [0] rfl (kX4_branch_166 hd _ _ _ _ h)
  · refine zv_iconst (v := 1) dX4_branch_161 (by decide) ?_
    refine zv_goto (tgt := 166) dX4_branch_162 (by decide) ?_
    exact zv_fewer [0] rfl (kX4_branch_166 hd _ _ _ _ h)
def mX4_branch_132 (N : Nat) (l0 : Nat) (s0 : Int32) (x : zv_X) : Option (zv_X × Int32) := mX4_branch_177 N l0 s0 (2 : Int32) x
theorem kX4_branch_132 {d : Nat} {x0 : zv_X} {o : (zv_X × Int32)} (hd : 2 ≤ d) {N : Nat} (l0 : Nat) (s0 : Int32) (x : zv_X) (h : mX4_branch_132 N l0 s0 x = some o) : zv_V (fX4_branch d x0 o) 132 [(0, .ref l0)] [.int s0] x := by
  unfold mX4_branch_132 at h
  refine zv_istore_n (L' := [(2, .int s0), (0, .ref l0)]) dX4_branch_132 rfl (Nat.le_of_ble_eq_true rfl) rfl ?_
  refine zv_iconst (v := 2) dX4_branch_133 (by decide) ?_
  refine zv_istore_n (L' := [(3, .int (2 : Int32)), (2, .int s0), (0, .ref l0)]) dX4_branch_134 rfl (Nat.le_of_ble_eq_true rfl) rfl ?_
  refine zv_goto (tgt := 177) dX4_branch_135 (by decide) ?_
  exact zv_fewer [2, 1, 0] rfl (kX4_branch_177 hd _ _ _ _ h)
def mX4_branch_124 (N : Nat) (l0 : Nat) (s0 : Int32) (s1 : Int32) (x : zv_X) : Option (zv_X × Int32) := if s1 = s0 then (mX4_branch_132 N l0 (1 : Int32) x) else (mX4_branch_132 N l0 (0 : Int32) x)
theorem kX4_branch_124 {d : Nat} {x0 : zv_X} {o : (zv_X × Int32)} (hd : 2 ≤ d) {N : Nat} (l0 : Nat) (s0 : Int32) (s1 : Int32) (x : zv_X) (h : mX4_branch_124 N l0 s0 s1 x = some o) : zv_V (fX4_branch d x0 o) 124 [(0, .ref l0)] [.int s0, .int s1] x := by
  unfold mX4_branch_124 at h
  refine zr_icmp_ne (tgt := 131) dX4_branch_124 (by decide) h (fun c1 h => ?_) (fun c1 h => ?_)
  · refine zv_iconst (v := 0) dX4_branch_131 (by decide) ?_
    exact kX4_branch_132 hd _ _ _ h
  · refine zv_iconst (v := 1) dX4_branch_127 (by decide) ?_
    refine zv_goto (tgt := 132) dX4_branch_128 (by decide) ?_
    exact kX4_branch_132 hd _ _ _ h
def mX4_branch_112 (N : Nat) (l0 : Nat) (l1 : Int32) (s0 : Int32) (x : zv_X) : Option (zv_X × Int32) := if l1 = (165 : Int32) then (mX4_branch_124 N l0 (1 : Int32) s0 x) else (mX4_branch_124 N l0 (0 : Int32) s0 x)
theorem kX4_branch_112 {d : Nat} {x0 : zv_X} {o : (zv_X × Int32)} (hd : 2 ≤ d) {N : Nat} (l0 : Nat) (l1 : Int32) (s0 : Int32) (x : zv_X) (h : mX4_branch_112 N l0 l1 s0 x = some o) : zv_V (fX4_branch d x0 o) 112 [(0, .ref l0), (1, .int l1)] [.int s0] x := by
  unfold mX4_branch_112 at h
  refine zv_iload_n (n := 1) dX4_branch_112 rfl rfl ?_
  refine zv_sipush (v := 165) dX4_branch_113 (by decide) ?_
  refine zr_icmp_ne (tgt := 123) dX4_branch_116 (by decide) h (fun c1 h => ?_) (fun c1 h => ?_)
  · refine zv_iconst (v := 0) dX4_branch_123 (by decide) ?_
    exact zv_fewer [0] rfl (kX4_branch_124 hd _ _ _ _ h)
  · refine zv_iconst (v := 1) dX4_branch_119 (by decide) ?_
    refine zv_goto (tgt := 124) dX4_branch_120 (by decide) ?_
    exact zv_fewer [0] rfl (kX4_branch_124 hd _ _ _ _ h)
def mX4_branch_0 (N : Nat) (l0 : Nat) (l1 : Int32) (x : zv_X) : Option (zv_X × Int32) := if l1 = (167 : Int32) then (mX4_branch_177 N l0 (1 : Int32) (0 : Int32) x) else (if (158 : Int32) < l1 then (if (164 : Int32) < l1 then (if (166 : Int32) < l1 then ((zm_R x l0 4 5).bind fun v1 => if zm_k x v1 1 = true then ((mX1_reference N v1 (0 : Int32) x).bind fun o3 => if o3.2 = 0 then (mX4_branch_154 N l0 l1 (1 : Int32) o3.1) else (mX4_branch_154 N l0 l1 (0 : Int32) o3.1)) else none) else ((zm_R x l0 4 5).bind fun v6 => if zm_k x v6 1 = true then ((mX1_reference N v6 (0 : Int32) x).bind fun o8 => (zm_R o8.1 l0 4 5).bind fun v10 => if zm_k o8.1 v10 1 = true then ((mX1_reference N v10 (1 : Int32) o8.1).bind fun o12 => if o8.2 = o12.2 then (mX4_branch_112 N l0 l1 (1 : Int32) o12.1) else (mX4_branch_112 N l0 l1 (0 : Int32) o12.1)) else none) else none)) else ((zm_R x l0 4 5).bind fun v16 => if zm_k x v16 1 = true then ((mX1_number N v16 (1 : Int32) x).bind fun o18 => (zm_R o18.1 l0 4 5).bind fun v20 => if zm_k o18.1 v20 1 = true then ((mX1_number N v20 (0 : Int32) o18.1).bind fun o22 => (mX4_holds N ((l1 - (159 : Int32)) + (153 : Int32)) o18.2 o22.2 o22.1).bind fun o24 => mX4_branch_177 N l0 o24.2 (2 : Int32) o24.1) else none) else none)) else ((zm_R x l0 4 5).bind fun v27 => if zm_k x v27 1 = true then ((mX1_number N v27 (0 : Int32) x).bind fun o29 => (mX4_holds N l1 o29.2 (0 : Int64) o29.1).bind fun o31 => mX4_branch_177 N l0 o31.2 (1 : Int32) o31.1) else none))
theorem kX4_branch_0 {d : Nat} {x0 : zv_X} {o : (zv_X × Int32)} (hd : 2 ≤ d) {N : Nat} (l0 : Nat) (l1 : Int32) (x : zv_X) (h : mX4_branch_0 N l0 l1 x = some o) : zv_V (fX4_branch d x0 o) 0 [(0, .ref l0), (1, .int l1)] [] x := by
  unfold mX4_branch_0 at h
  refine zv_iload_n (n := 1) dX4_branch_0 rfl rfl ?_
  refine zv_sipush (v := 167) dX4_branch_1 (by decide) ?_
  refine zr_icmp_ne (tgt := 14) dX4_branch_4 (by decide) h (fun c34 h => ?_) (fun c34 h => ?_)
  · refine zv_iload_n (n := 1) dX4_branch_14 rfl rfl ?_
    refine zv_sipush (v := 158) dX4_branch_15 (by decide) ?_
    refine zr_icmp_gt (tgt := 40) dX4_branch_18 (by decide) h (fun c33 h => ?_) (fun c33 h => ?_)
    · refine zv_iload_n (n := 1) dX4_branch_40 rfl rfl ?_
      refine zv_sipush (v := 164) dX4_branch_41 (by decide) ?_
      refine zr_icmp_gt (tgt := 81) dX4_branch_44 (by decide) h (fun c26 h => ?_) (fun c26 h => ?_)
      · refine zv_iload_n (n := 1) dX4_branch_81 rfl rfl ?_
        refine zv_sipush (v := 166) dX4_branch_82 (by decide) ?_
        refine zr_icmp_gt (tgt := 138) dX4_branch_85 (by decide) h (fun c15 h => ?_) (fun c15 h => ?_)
        · refine zv_aload_n (n := 0) dX4_branch_138 rfl rfl ?_
          refine zr_gR dX4_branch_139 fg_371 h (fun v1 e2 h => ?_)
          refine zv_iconst (v := 0) dX4_branch_142 (by decide) ?_
          refine zr_cVi (ci := 1) (st := []) dX4_branch_143 mw_X1_reference wd_1151 wd_1152 wd_1153 rfl rfl [.int (0 : Int32)] rfl rfl (Nat.le_of_ble_eq_true rfl) (show d - 1 + 1 ≤ d by omega) h (fun o3 e4 => tX1_reference (d := d - 1) (by omega) e4) (fun o3 e4 h => ?_)
          refine zr_if_ne (tgt := 153) dX4_branch_146 (by decide) h (fun c5 h => ?_) (fun c5 h => ?_)
          · refine zv_iconst (v := 0) dX4_branch_153 (by decide) ?_
            exact kX4_branch_154 hd _ _ _ _ h
          · refine zv_iconst (v := 1) dX4_branch_149 (by decide) ?_
            refine zv_goto (tgt := 154) dX4_branch_150 (by decide) ?_
            exact kX4_branch_154 hd _ _ _ _ h
        · refine zv_aload_n (n := 0) dX4_branch_88 rfl rfl ?_
          refine zr_gR dX4_branch_89 fg_371 h (fun v6 e7 h => ?_)
          refine zv_iconst (v := 0) dX4_branch_92 (by decide) ?_
          refine zr_cVi (ci := 1) (st := []) dX4_branch_93 mw_X1_reference wd_1151 wd_1152 wd_1153 rfl rfl [.int (0 : Int32)] rfl rfl (Nat.le_of_ble_eq_true rfl) (show d - 1 + 1 ≤ d by omega) h (fun o8 e9 => tX1_reference (d := d - 1) (by omega) e9) (fun o8 e9 h => ?_)
          refine zv_aload_n (n := 0) dX4_branch_96 rfl rfl ?_
          refine zr_gR dX4_branch_97 fg_371 h (fun v10 e11 h => ?_)
          refine zv_iconst (v := 1) dX4_branch_100 (by decide) ?_
          refine zr_cVi (ci := 1) (st := [.int o8.2]) dX4_branch_101 mw_X1_reference wd_1151 wd_1152 wd_1153 rfl rfl [.int (1 : Int32)] rfl rfl (Nat.le_of_ble_eq_true rfl) (show d - 1 + 1 ≤ d by omega) h (fun o12 e13 => tX1_reference (d := d - 1) (by omega) e13) (fun o12 e13 h => ?_)
          refine zr_icmp_ne (tgt := 111) dX4_branch_104 (by decide) h (fun c14 h => ?_) (fun c14 h => ?_)
          · refine zv_iconst (v := 0) dX4_branch_111 (by decide) ?_
            exact kX4_branch_112 hd _ _ _ _ h
          · refine zv_iconst (v := 1) dX4_branch_107 (by decide) ?_
            refine zv_goto (tgt := 112) dX4_branch_108 (by decide) ?_
            exact kX4_branch_112 hd _ _ _ _ h
      · refine zv_iload_n (n := 1) dX4_branch_47 rfl rfl ?_
        refine zv_sipush (v := 159) dX4_branch_48 (by decide) ?_
        refine zv_isub dX4_branch_51 ?_
        refine zv_sipush (v := 153) dX4_branch_52 (by decide) ?_
        refine zv_iadd dX4_branch_55 ?_
        refine zv_aload_n (n := 0) dX4_branch_56 rfl rfl ?_
        refine zr_gR dX4_branch_57 fg_371 h (fun v16 e17 h => ?_)
        refine zv_iconst (v := 1) dX4_branch_60 (by decide) ?_
        refine zr_cVl (ci := 1) (st := [.int ((l1 - (159 : Int32)) + (153 : Int32))]) dX4_branch_61 mw_X1_number wd_1155 wd_1156 wd_1157 rfl rfl [.int (1 : Int32)] rfl rfl (Nat.le_of_ble_eq_true rfl) (show d - 1 + 1 ≤ d by omega) h (fun o18 e19 => tX1_number (d := d - 1) (by omega) e19) (fun o18 e19 h => ?_)
        refine zv_aload_n (n := 0) dX4_branch_64 rfl rfl ?_
        refine zr_gR dX4_branch_65 fg_371 h (fun v20 e21 h => ?_)
        refine zv_iconst (v := 0) dX4_branch_68 (by decide) ?_
        refine zr_cVl (ci := 1) (st := [.long o18.2, .int ((l1 - (159 : Int32)) + (153 : Int32))]) dX4_branch_69 mw_X1_number wd_1155 wd_1156 wd_1157 rfl rfl [.int (0 : Int32)] rfl rfl (Nat.le_of_ble_eq_true rfl) (show d - 1 + 1 ≤ d by omega) h (fun o22 e23 => tX1_number (d := d - 1) (by omega) e23) (fun o22 e23 h => ?_)
        refine zr_cSi (st := []) dX4_branch_72 mw_X4_holds wd_1246 wd_1247 [.int ((l1 - (159 : Int32)) + (153 : Int32)), .long o18.2, .long o22.2] rfl rfl (Nat.le_of_ble_eq_true rfl) (show d - 1 + 1 ≤ d by omega) h (fun o24 e25 => tX4_holds (d := d - 1) (by omega) e25) (fun o24 e25 h => ?_)
        refine zv_istore_n (L' := [(2, .int o24.2), (0, .ref l0), (1, .int l1)]) dX4_branch_75 rfl (Nat.le_of_ble_eq_true rfl) rfl ?_
        refine zv_iconst (v := 2) dX4_branch_76 (by decide) ?_
        refine zv_istore_n (L' := [(3, .int (2 : Int32)), (2, .int o24.2), (0, .ref l0), (1, .int l1)]) dX4_branch_77 rfl (Nat.le_of_ble_eq_true rfl) rfl ?_
        refine zv_goto (tgt := 177) dX4_branch_78 (by decide) ?_
        exact zv_fewer [2, 1, 0] rfl (kX4_branch_177 hd _ _ _ _ h)
    · refine zv_iload_n (n := 1) dX4_branch_21 rfl rfl ?_
      refine zv_aload_n (n := 0) dX4_branch_22 rfl rfl ?_
      refine zr_gR dX4_branch_23 fg_371 h (fun v27 e28 h => ?_)
      refine zv_iconst (v := 0) dX4_branch_26 (by decide) ?_
      refine zr_cVl (ci := 1) (st := [.int l1]) dX4_branch_27 mw_X1_number wd_1155 wd_1156 wd_1157 rfl rfl [.int (0 : Int32)] rfl rfl (Nat.le_of_ble_eq_true rfl) (show d - 1 + 1 ≤ d by omega) h (fun o29 e30 => tX1_number (d := d - 1) (by omega) e30) (fun o29 e30 h => ?_)
      refine zv_lconst (v := 0) dX4_branch_30 (by decide) ?_
      refine zr_cSi (st := []) dX4_branch_31 mw_X4_holds wd_1246 wd_1247 [.int l1, .long o29.2, .long (0 : Int64)] rfl rfl (Nat.le_of_ble_eq_true rfl) (show d - 1 + 1 ≤ d by omega) h (fun o31 e32 => tX4_holds (d := d - 1) (by omega) e32) (fun o31 e32 h => ?_)
      refine zv_istore_n (L' := [(2, .int o31.2), (0, .ref l0), (1, .int l1)]) dX4_branch_34 rfl (Nat.le_of_ble_eq_true rfl) rfl ?_
      refine zv_iconst (v := 1) dX4_branch_35 (by decide) ?_
      refine zv_istore_n (L' := [(3, .int (1 : Int32)), (2, .int o31.2), (0, .ref l0), (1, .int l1)]) dX4_branch_36 rfl (Nat.le_of_ble_eq_true rfl) rfl ?_
      refine zv_goto (tgt := 177) dX4_branch_37 (by decide) ?_
      exact zv_fewer [2, 1, 0] rfl (kX4_branch_177 hd _ _ _ _ h)
  · refine zv_iconst (v := 1) dX4_branch_7 (by decide) ?_
    refine zv_istore_n (L' := [(2, .int (1 : Int32)), (0, .ref l0), (1, .int l1)]) dX4_branch_8 rfl (Nat.le_of_ble_eq_true rfl) rfl ?_
    refine zv_iconst (v := 0) dX4_branch_9 (by decide) ?_
    refine zv_istore_n (L' := [(3, .int (0 : Int32)), (2, .int (1 : Int32)), (0, .ref l0), (1, .int l1)]) dX4_branch_10 rfl (Nat.le_of_ble_eq_true rfl) rfl ?_
    refine zv_goto (tgt := 177) dX4_branch_11 (by decide) ?_
    exact zv_fewer [2, 1, 0] rfl (kX4_branch_177 hd _ _ _ _ h)
def mX4_branch (N : Nat) (a0 : Nat) (a1 : Int32) (x : zv_X) : Option (zv_X × Int32) := mX4_branch_0 N a0 a1 x
theorem tX4_branch {d : Nat} (hd : 2 ≤ d) {N : Nat} {x : zv_X} {a0 : Nat} {a1 : Int32} {o : (zv_X × Int32)} (h : mX4_branch N a0 a1 x = some o) : zv_T d yX4_branch cX4_branch 4 ((some .int)) [.ref a0, .int a1] x o.1 (some (.int o.2)) := by
  unfold mX4_branch at h
  exact zv_enter (by decide) (Nat.le_of_ble_eq_true rfl) (kX4_branch_0 hd _ _ _ h)

abbrev fX1_copySlot (d : Nat) (x0 : zv_X) (o : zv_X) : zv_G := (d, RX1, cX1_copySlot, 4, none, ("copySlot", []), x0, o, zv_fin x0 o none)
def mX1_copySlot_0 (N : Nat) (l0 : Nat) (l1 : Nat) (l2 : Int32) (l3 : Int32) (x : zv_X) : Option zv_X := (zm_R x l0 1 0).bind fun v1 => (zm_R x l1 1 0).bind fun v3 => (zm_aL x v3 l2).bind fun v5 => (zm_sL x v1 l3 v5).bind fun x7 => (zm_R x7 l0 1 1).bind fun v9 => (zm_R x7 l1 1 1).bind fun v11 => (zm_aI x7 v11 l2).bind fun v13 => (zm_sI x7 v9 l3 v13).bind fun x15 => some x15
theorem kX1_copySlot_0 {d : Nat} {x0 : zv_X} {o : zv_X} (hd : 0 ≤ d) {N : Nat} (l0 : Nat) (l1 : Nat) (l2 : Int32) (l3 : Int32) (x : zv_X) (h : mX1_copySlot_0 N l0 l1 l2 l3 x = some o) : zv_V (fX1_copySlot d x0 o) 0 [(0, .ref l0), (1, .ref l1), (2, .int l2), (3, .int l3)] [] x := by
  unfold mX1_copySlot_0 at h
  refine zv_aload_n (n := 0) dX1_copySlot_0 rfl rfl ?_
  refine zr_gR dX1_copySlot_1 fg_348 h (fun v1 e2 h => ?_)
  refine zv_iload_n (n := 3) dX1_copySlot_4 rfl rfl ?_
  refine zv_aload_n (n := 1) dX1_copySlot_5 rfl rfl ?_
  refine zr_gR dX1_copySlot_6 fg_348 h (fun v3 e4 h => ?_)
  refine zv_iload_n (n := 2) dX1_copySlot_9 rfl rfl ?_
  refine zr_aL dX1_copySlot_10 h (fun v5 e6 h => ?_)
  refine zr_sL dX1_copySlot_11 h (fun x7 e8 h => ?_)
  refine zv_aload_n (n := 0) dX1_copySlot_12 rfl rfl ?_
  refine zr_gR dX1_copySlot_13 fg_349 h (fun v9 e10 h => ?_)
  refine zv_iload_n (n := 3) dX1_copySlot_16 rfl rfl ?_
  refine zv_aload_n (n := 1) dX1_copySlot_17 rfl rfl ?_
  refine zr_gR dX1_copySlot_18 fg_349 h (fun v11 e12 h => ?_)
  refine zv_iload_n (n := 2) dX1_copySlot_21 rfl rfl ?_
  refine zr_aI dX1_copySlot_22 h (fun v13 e14 h => ?_)
  refine zr_sI dX1_copySlot_23 h (fun x15 e16 h => ?_)
  cases h
  exact zv_vret dX1_copySlot_24 rfl
def mX1_copySlot (N : Nat) (a0 : Nat) (a1 : Nat) (a2 : Int32) (a3 : Int32) (x : zv_X) : Option zv_X := mX1_copySlot_0 N a0 a1 a2 a3 x
theorem tX1_copySlot {d : Nat} (hd : 0 ≤ d) {N : Nat} {x : zv_X} {a0 : Nat} {a1 : Nat} {a2 : Int32} {a3 : Int32} {o : zv_X} (h : mX1_copySlot N a0 a1 a2 a3 x = some o) : zv_T d yX1_copySlot cX1_copySlot 4 (none) [.ref a0, .ref a1, .int a2, .int a3] x o none := by
  unfold mX1_copySlot at h
  exact zv_enter (by decide) (Nat.le_of_ble_eq_true rfl) (kX1_copySlot_0 hd _ _ _ _ _ h)

abbrev fX1_takeArguments (d : Nat) (x0 : zv_X) (o : zv_X) : zv_G := (d, RX1, cX1_takeArguments, 4, none, ("takeArguments", []), x0, o, zv_fin x0 o none)
def mX1_takeArguments_15 (N : Nat) : Nat → Nat → Nat → Int32 → Int32 → zv_X → Option zv_X
  | 0, _, _, _, _, _ => none
  | n + 1, l0, l1, l2, l3, x => if l2 ≤ l3 then (some x) else ((zm_I x l1 1 2).bind fun v1 => if zm_k x l0 1 = true then ((mX1_copySlot N l0 l1 (v1 + l3) l3 x).bind fun o3 => mX1_takeArguments_15 N n l0 l1 l2 (l3 + (1)) o3) else none)
theorem kX1_takeArguments_15 {d : Nat} {x0 : zv_X} {o : zv_X} (hd : 1 ≤ d) {N : Nat} : ∀ (n : Nat) (l0 : Nat) (l1 : Nat) (l2 : Int32) (l3 : Int32) (x : zv_X), mX1_takeArguments_15 N n l0 l1 l2 l3 x = some o → zv_V (fX1_takeArguments d x0 o) 15 [(0, .ref l0), (1, .ref l1), (2, .int l2), (3, .int l3)] [] x := by
  intro n
  induction n with
  | zero => intro l0 l1 l2 l3 x h; cases h
  | succ n ih =>
    intro l0 l1 l2 l3 x h
    unfold mX1_takeArguments_15 at h
    refine zv_iload_n (n := 3) dX1_takeArguments_15 rfl rfl ?_
    refine zv_iload_n (n := 2) dX1_takeArguments_16 rfl rfl ?_
    refine zr_icmp_ge (tgt := 38) dX1_takeArguments_17 (by decide) h (fun c5 h => ?_) (fun c5 h => ?_)
    · cases h
      exact zv_vret dX1_takeArguments_38 rfl
    · refine zv_aload_n (n := 0) dX1_takeArguments_20 rfl rfl ?_
      refine zv_aload_n (n := 1) dX1_takeArguments_21 rfl rfl ?_
      refine zv_aload_n (n := 1) dX1_takeArguments_22 rfl rfl ?_
      refine zr_gI dX1_takeArguments_23 fg_350 h (fun v1 e2 h => ?_)
      refine zv_iload_n (n := 3) dX1_takeArguments_26 rfl rfl ?_
      refine zv_iadd dX1_takeArguments_27 ?_
      refine zv_iload_n (n := 3) dX1_takeArguments_28 rfl rfl ?_
      refine zr_cVv (ci := 1) (st := []) dX1_takeArguments_29 mw_X1_copySlot wd_1143 wd_1145 wd_23 rfl rfl [.ref l1, .int (v1 + l3), .int l3] rfl rfl (Nat.le_of_ble_eq_true rfl) (show d - 1 + 1 ≤ d by omega) h (fun o3 e4 => tX1_copySlot (d := d - 1) (by omega) e4) (fun o3 e4 h => ?_)
      refine zv_iinc (n := 3) (v := l3 + (1)) (L' := [(3, .int (l3 + (1))), (0, .ref l0), (1, .ref l1), (2, .int l2)]) dX1_takeArguments_32 rfl rfl (Nat.le_of_ble_eq_true rfl) rfl ?_
      refine zv_goto (tgt := 15) dX1_takeArguments_35 (by decide) ?_
      exact zv_fewer [1, 2, 3, 0] rfl (ih _ _ _ _ _ h)
def mX1_takeArguments_0 (N : Nat) (l0 : Nat) (l1 : Nat) (x : zv_X) : Option zv_X := (zm_R x l0 1 3).bind fun v1 => (zm_I x v1 6 2).bind fun v3 => if zm_k x l1 1 = true then ((mX1_drop N l1 v3 x).bind fun o5 => mX1_takeArguments_15 N N l0 l1 v3 (0 : Int32) o5) else none
theorem kX1_takeArguments_0 {d : Nat} {x0 : zv_X} {o : zv_X} (hd : 1 ≤ d) {N : Nat} (l0 : Nat) (l1 : Nat) (x : zv_X) (h : mX1_takeArguments_0 N l0 l1 x = some o) : zv_V (fX1_takeArguments d x0 o) 0 [(0, .ref l0), (1, .ref l1)] [] x := by
  unfold mX1_takeArguments_0 at h
  refine zv_aload_n (n := 0) dX1_takeArguments_0 rfl rfl ?_
  refine zr_gR dX1_takeArguments_1 fg_351 h (fun v1 e2 h => ?_)
  refine zr_gI dX1_takeArguments_4 fg_318 h (fun v3 e4 h => ?_)
  refine zv_istore_n (L' := [(2, .int v3), (0, .ref l0), (1, .ref l1)]) dX1_takeArguments_7 rfl (Nat.le_of_ble_eq_true rfl) rfl ?_
  refine zv_aload_n (n := 2) dX1_takeArguments_8 rfl rfl ?_
  refine zv_iload_n (n := 0) dX1_takeArguments_9 rfl rfl ?_
  refine zr_cVv (ci := 1) (st := []) dX1_takeArguments_10 mw_X1_drop wd_1291 wd_1181 wd_1182 rfl rfl [.int v3] rfl rfl (Nat.le_of_ble_eq_true rfl) (show d - 1 + 1 ≤ d by omega) h (fun o5 e6 => tX1_drop (d := d - 1) (by omega) e6) (fun o5 e6 h => ?_)
  refine zv_iconst (v := 0) dX1_takeArguments_13 (by decide) ?_
  refine zv_istore_n (L' := [(3, .int (0 : Int32)), (2, .int v3), (0, .ref l0), (1, .ref l1)]) dX1_takeArguments_14 rfl (Nat.le_of_ble_eq_true rfl) rfl ?_
  exact zv_fewer [2, 3, 1, 0] rfl (kX1_takeArguments_15 hd N _ _ _ _ _ h)
def mX1_takeArguments (N : Nat) (a0 : Nat) (a1 : Nat) (x : zv_X) : Option zv_X := mX1_takeArguments_0 N a0 a1 x
theorem tX1_takeArguments {d : Nat} (hd : 1 ≤ d) {N : Nat} {x : zv_X} {a0 : Nat} {a1 : Nat} {o : zv_X} (h : mX1_takeArguments N a0 a1 x = some o) : zv_T d yX1_takeArguments cX1_takeArguments 4 (none) [.ref a0, .ref a1] x o none := by
  unfold mX1_takeArguments at h
  exact zv_enter (by decide) (Nat.le_of_ble_eq_true rfl) (kX1_takeArguments_0 hd _ _ _ h)

abbrev fX4_call (d : Nat) (x0 : zv_X) (o : (zv_X × Int32)) : zv_G := (d, RX4, cX4_call, 3, (some .int), ("call", []), x0, o.1, zv_fin x0 o.1 (some (.int o.2)))
def mX4_call_0 (N : Nat) (l0 : Nat) (x : zv_X) : Option (zv_X × Int32) := (zm_R x l0 4 5).bind fun v1 => if zm_k x v1 1 = true then ((mX1_operand N v1 (1 : Int32) x).bind fun o3 => (zm_I o3.1 l0 4 6).bind fun v5 => if (v5 + (1 : Int32)) = (16 : Int32) then (some (o3.1, (6 : Int32))) else ((zm_R o3.1 l0 4 5).bind fun v7 => (zm_I o3.1 l0 4 6).bind fun v9 => (zm_p o3.1 l0 4 6 (.int (v9 + (1 : Int32)))).bind fun x11 => (zm_R x11 l0 4 4).bind fun v13 => (zm_I x11 l0 4 6).bind fun v15 => (zm_aR x11 v13 v15).bind fun v17 => (zm_p x11 l0 4 5 (.ref v17)).bind fun x19 => (zm_R x19 l0 4 5).bind fun v21 => (zm_R x19 l0 4 1).bind fun v23 => if zm_k x19 v23 5 = true then ((mJx4a65c_get_915e3 N v23 o3.2 x19).bind fun o25 => if zm_k o25.1 o25.2 6 = true then (if zm_k o25.1 v21 1 = true then ((mX1_begin N v21 o25.2 o25.1).bind fun o27 => (zm_R o27 l0 4 5).bind fun v29 => if zm_k o27 v29 1 = true then ((mX1_takeArguments N v29 v7 o27).bind fun o31 => some (o31, (0 : Int32))) else none) else none) else none) else none)) else none
theorem kX4_call_0 {d : Nat} {x0 : zv_X} {o : (zv_X × Int32)} (hd : 3 ≤ d) {N : Nat} (l0 : Nat) (x : zv_X) (h : mX4_call_0 N l0 x = some o) : zv_V (fX4_call d x0 o) 0 [(0, .ref l0)] [] x := by
  unfold mX4_call_0 at h
  refine zv_aload_n (n := 0) dX4_call_0 rfl rfl ?_
  refine zr_gR dX4_call_1 fg_371 h (fun v1 e2 h => ?_)
  refine zv_iconst (v := 1) dX4_call_4 (by decide) ?_
  refine zr_cVi (ci := 1) (st := []) dX4_call_5 mw_X1_operand wd_1130 wd_1131 wd_1132 rfl rfl [.int (1 : Int32)] rfl rfl (Nat.le_of_ble_eq_true rfl) (show d - 1 + 1 ≤ d by omega) h (fun o3 e4 => tX1_operand (d := d - 1) (by omega) e4) (fun o3 e4 h => ?_)
  refine zv_istore_n (L' := [(1, .int o3.2), (0, .ref l0)]) dX4_call_8 rfl (Nat.le_of_ble_eq_true rfl) rfl ?_
  refine zv_aload_n (n := 1) dX4_call_9 rfl rfl ?_
  refine zr_gI dX4_call_10 fg_372 h (fun v5 e6 h => ?_)
  refine zv_iconst (v := 1) dX4_call_13 (by decide) ?_
  refine zv_iadd dX4_call_14 ?_
  refine zv_bipush (v := 16) dX4_call_15 (by decide) ?_
  refine zr_icmp_ne (tgt := 23) dX4_call_17 (by decide) h (fun c33 h => ?_) (fun c33 h => ?_)
  · refine zv_aload_n (n := 1) dX4_call_23 rfl rfl ?_
    refine zr_gR dX4_call_24 fg_371 h (fun v7 e8 h => ?_)
    refine zv_astore_n (L' := [(2, .ref v7), (1, .int o3.2), (0, .ref l0)]) dX4_call_27 rfl (Nat.le_of_ble_eq_true rfl) rfl ?_
    refine zv_aload_n (n := 2) dX4_call_28 rfl rfl ?_
    refine zv_dup dX4_call_29 rfl ?_
    refine zr_gI dX4_call_30 fg_372 h (fun v9 e10 h => ?_)
    refine zv_iconst (v := 1) dX4_call_33 (by decide) ?_
    refine zv_iadd dX4_call_34 ?_
    refine zr_p dX4_call_35 fl_372 (fun q => nomatch q) rfl rfl h (fun x11 e12 h => ?_)
    refine zv_aload_n (n := 2) dX4_call_38 rfl rfl ?_
    refine zv_aload_n (n := 2) dX4_call_39 rfl rfl ?_
    refine zr_gR dX4_call_40 fg_370 h (fun v13 e14 h => ?_)
    refine zv_aload_n (n := 2) dX4_call_43 rfl rfl ?_
    refine zr_gI dX4_call_44 fg_372 h (fun v15 e16 h => ?_)
    refine zr_aR dX4_call_47 h (fun v17 e18 h => ?_)
    refine zr_p dX4_call_48 fl_371 (fun q => nomatch q) rfl rfl h (fun x19 e20 h => ?_)
    refine zv_aload_n (n := 2) dX4_call_51 rfl rfl ?_
    refine zr_gR dX4_call_52 fg_371 h (fun v21 e22 h => ?_)
    refine zv_aload_n (n := 2) dX4_call_55 rfl rfl ?_
    refine zr_gR dX4_call_56 fg_367 h (fun v23 e24 h => ?_)
    refine zv_iload_n (n := 1) dX4_call_59 rfl rfl ?_
    refine zr_cVr (ci := 5) (st := [.ref v21]) dX4_call_60 mw_Jx4a65c_get_915e3 wd_1286 wd_744 wd_745 rfl rfl [.int o3.2] rfl rfl (Nat.le_of_ble_eq_true rfl) (show d - 1 + 1 ≤ d by omega) h (fun o25 e26 => tJx4a65c_get_915e3 (d := d - 1) (by omega) e26) (fun o25 e26 h => ?_)
    refine zr_cast (ci := 6) dX4_call_63 wd_303 rfl (by decide) h (fun h => ?_)
    refine zr_cVv (ci := 1) (st := []) dX4_call_66 mw_X1_begin wd_852 wd_853 wd_854 rfl rfl [.ref o25.2] rfl rfl (Nat.le_of_ble_eq_true rfl) (show d - 1 + 1 ≤ d by omega) h (fun o27 e28 => tX1_begin (d := d - 1) (by omega) e28) (fun o27 e28 h => ?_)
    refine zv_aload_n (n := 2) dX4_call_69 rfl rfl ?_
    refine zr_gR dX4_call_70 fg_371 h (fun v29 e30 h => ?_)
    refine zv_aload_n (n := 0) dX4_call_73 rfl rfl ?_
    refine zr_cVv (ci := 1) (st := []) dX4_call_74 mw_X1_takeArguments wd_1287 wd_1288 wd_1289 rfl rfl [.ref v7] rfl rfl (Nat.le_of_ble_eq_true rfl) (show d - 1 + 1 ≤ d by omega) h (fun o31 e32 => tX1_takeArguments (d := d - 1) (by omega) e32) (fun o31 e32 h => ?_)
    refine zv_iconst (v := 0) dX4_call_77 (by decide) ?_
    cases h
    exact zv_iret dX4_call_78 rfl
  · refine zv_bipush (v := 6) dX4_call_20 (by decide) ?_
    cases h
    exact zv_iret dX4_call_22 rfl
def mX4_call (N : Nat) (a0 : Nat) (x : zv_X) : Option (zv_X × Int32) := mX4_call_0 N a0 x
theorem tX4_call {d : Nat} (hd : 3 ≤ d) {N : Nat} {x : zv_X} {a0 : Nat} {o : (zv_X × Int32)} (h : mX4_call N a0 x = some o) : zv_T d yX4_call cX4_call 3 ((some .int)) [.ref a0] x o.1 (some (.int o.2)) := by
  unfold mX4_call at h
  exact zv_enter (by decide) (Nat.le_of_ble_eq_true rfl) (kX4_call_0 hd _ _ h)

abbrev fX4_isOf (d : Nat) (x0 : zv_X) (o : (zv_X × Int32)) : zv_G := (d, RX4, cX4_isOf, 3, (some .boolean), ("isOf", []), x0, o.1, zv_fin x0 o.1 (some (.int o.2)))
def mX4_isOf_21 (N : Nat) (s0 : Int32) (x : zv_X) : Option (zv_X × Int32) := if s0 = 0 ∨ s0 = 1 then some (x, s0) else none
theorem kX4_isOf_21 {d : Nat} {x0 : zv_X} {o : (zv_X × Int32)} (hd : 2 ≤ d) {N : Nat} (s0 : Int32) (x : zv_X) (h : mX4_isOf_21 N s0 x = some o) : zv_V (fX4_isOf d x0 o) 21 [] [.int s0] x := by
  unfold mX4_isOf_21 at h
  obtain ⟨hv, h⟩ := zg h
  cases h
  exact zv_zret dX4_isOf_21 rfl hv
def mX4_isOf_0 (N : Nat) (l0 : Nat) (l1 : Int32) (l2 : Int32) (x : zv_X) : Option (zv_X × Int32) := (zm_R x l0 4 2).bind fun v1 => if zm_k x v1 2 = true then ((mX2_classes N v1 l1 x).bind fun o3 => if ((o3.2 >>> (l2 &&& 31)) &&& (1 : Int32)) = (1 : Int32) then (mX4_isOf_21 N (1 : Int32) o3.1) else (mX4_isOf_21 N (0 : Int32) o3.1)) else none
theorem kX4_isOf_0 {d : Nat} {x0 : zv_X} {o : (zv_X × Int32)} (hd : 2 ≤ d) {N : Nat} (l0 : Nat) (l1 : Int32) (l2 : Int32) (x : zv_X) (h : mX4_isOf_0 N l0 l1 l2 x = some o) : zv_V (fX4_isOf d x0 o) 0 [(0, .ref l0), (1, .int l1), (2, .int l2)] [] x := by
  unfold mX4_isOf_0 at h
  refine zv_aload_n (n := 0) dX4_isOf_0 rfl rfl ?_
  refine zr_gR dX4_isOf_1 fg_368 h (fun v1 e2 h => ?_)
  refine zv_iload_n (n := 1) dX4_isOf_4 rfl rfl ?_
  refine zr_cVi (ci := 2) (st := []) dX4_isOf_5 mw_X2_classes wd_1265 wd_1266 wd_1267 rfl rfl [.int l1] rfl rfl (Nat.le_of_ble_eq_true rfl) (show d - 1 + 1 ≤ d by omega) h (fun o3 e4 => tX2_classes (d := d - 1) (by omega) e4) (fun o3 e4 h => ?_)
  refine zv_iload_n (n := 2) dX4_isOf_8 rfl rfl ?_
  refine zv_ishr dX4_isOf_9 ?_
  refine zv_iconst (v := 1) dX4_isOf_10 (by decide) ?_
  refine zv_iand dX4_isOf_11 ?_
  refine zv_iconst (v := 1) dX4_isOf_12 (by decide) ?_
  refine zr_icmp_ne (tgt := 20) dX4_isOf_13 (by decide) h (fun c5 h => ?_) (fun c5 h => ?_)
  · refine zv_iconst (v := 0) dX4_isOf_20 (by decide) ?_
    exact zv_fewer [] rfl (kX4_isOf_21 hd _ _ h)
  · refine zv_iconst (v := 1) dX4_isOf_16 (by decide) ?_
    refine zv_goto (tgt := 21) dX4_isOf_17 (by decide) ?_
    exact zv_fewer [] rfl (kX4_isOf_21 hd _ _ h)
def mX4_isOf (N : Nat) (a0 : Nat) (a1 : Int32) (a2 : Int32) (x : zv_X) : Option (zv_X × Int32) := mX4_isOf_0 N a0 a1 a2 x
theorem tX4_isOf {d : Nat} (hd : 2 ≤ d) {N : Nat} {x : zv_X} {a0 : Nat} {a1 : Int32} {a2 : Int32} {o : (zv_X × Int32)} (h : mX4_isOf N a0 a1 a2 x = some o) : zv_T d yX4_isOf cX4_isOf 3 ((some .boolean)) [.ref a0, .int a1, .int a2] x o.1 (some (.int o.2)) := by
  unfold mX4_isOf at h
  exact zv_enter (by decide) (Nat.le_of_ble_eq_true rfl) (kX4_isOf_0 hd _ _ _ _ h)

abbrev fX4_cast (d : Nat) (x0 : zv_X) (o : (zv_X × Int32)) : zv_G := (d, RX4, cX4_cast, 2, (some .int), ("cast", []), x0, o.1, zv_fin x0 o.1 (some (.int o.2)))
def mX4_cast_38 (N : Nat) (s0 : Int32) (x : zv_X) : Option (zv_X × Int32) := some (x, s0)
theorem kX4_cast_38 {d : Nat} {x0 : zv_X} {o : (zv_X × Int32)} (hd : 3 ≤ d) {N : Nat} (s0 : Int32) (x : zv_X) (h : mX4_cast_38 N s0 x = some o) : zv_V (fX4_cast d x0 o) 38 [] [.int s0] x := by
  unfold mX4_cast_38 at h
  cases h
  exact zv_iret dX4_cast_38 rfl
def mX4_cast_29 (N : Nat) (l0 : Nat) (x : zv_X) : Option (zv_X × Int32) := if zm_k x l0 4 = true then ((mX4_goOn N l0 (2 : Int32) x).bind fun o1 => mX4_cast_38 N o1.2 o1.1) else none
theorem kX4_cast_29 {d : Nat} {x0 : zv_X} {o : (zv_X × Int32)} (hd : 3 ≤ d) {N : Nat} (l0 : Nat) (x : zv_X) (h : mX4_cast_29 N l0 x = some o) : zv_V (fX4_cast d x0 o) 29 [(0, .ref l0)] [] x := by
  unfold mX4_cast_29 at h
  refine zv_aload_n (n := 0) dX4_cast_29 rfl rfl ?_
  refine zv_iconst (v := 2) dX4_cast_30 (by decide) ?_
  refine zr_cVi (ci := 4) (st := []) dX4_cast_31 mw_X4_goOn wd_1117 wd_1119 wd_22 rfl rfl [.int (2 : Int32)] rfl rfl (Nat.le_of_ble_eq_true rfl) (show d - 1 + 1 ≤ d by omega) h (fun o1 e2 => tX4_goOn (d := d - 1) (by omega) e2) (fun o1 e2 h => ?_)
  refine zv_goto (tgt := 38) dX4_cast_34 (by decide) ?_
  exact zv_fewer [] rfl (kX4_cast_38 hd _ _ h)
def mX4_cast_0 (N : Nat) (l0 : Nat) (x : zv_X) : Option (zv_X × Int32) := (zm_R x l0 4 5).bind fun v1 => if zm_k x v1 1 = true then ((mX1_reference N v1 (0 : Int32) x).bind fun o3 => if o3.2 = 0 then (mX4_cast_29 N l0 o3.1) else ((zm_R o3.1 l0 4 5).bind fun v5 => if zm_k o3.1 v5 1 = true then ((mX1_operand N v5 (1 : Int32) o3.1).bind fun o7 => if zm_k o7.1 l0 4 = true then ((mX4_isOf N l0 o3.2 o7.2 o7.1).bind fun o9 => if o9.2 = 0 then (mX4_cast_38 N (5 : Int32) o9.1) else (mX4_cast_29 N l0 o9.1)) else none) else none)) else none
theorem kX4_cast_0 {d : Nat} {x0 : zv_X} {o : (zv_X × Int32)} (hd : 3 ≤ d) {N : Nat} (l0 : Nat) (x : zv_X) (h : mX4_cast_0 N l0 x = some o) : zv_V (fX4_cast d x0 o) 0 [(0, .ref l0)] [] x := by
  unfold mX4_cast_0 at h
  refine zv_aload_n (n := 0) dX4_cast_0 rfl rfl ?_
  refine zr_gR dX4_cast_1 fg_371 h (fun v1 e2 h => ?_)
  refine zv_iconst (v := 0) dX4_cast_4 (by decide) ?_
  refine zr_cVi (ci := 1) (st := []) dX4_cast_5 mw_X1_reference wd_1151 wd_1152 wd_1153 rfl rfl [.int (0 : Int32)] rfl rfl (Nat.le_of_ble_eq_true rfl) (show d - 1 + 1 ≤ d by omega) h (fun o3 e4 => tX1_reference (d := d - 1) (by omega) e4) (fun o3 e4 h => ?_)
  refine zv_istore_n (L' := [(1, .int o3.2), (0, .ref l0)]) dX4_cast_8 rfl (Nat.le_of_ble_eq_true rfl) rfl ?_
  refine zv_iload_n (n := 0) dX4_cast_9 rfl rfl ?_
  refine zr_if_eq (tgt := 29) dX4_cast_10 (by decide) h (fun c12 h => ?_) (fun c12 h => ?_)
  · exact zv_fewer [1] rfl (kX4_cast_29 hd _ _ h)
  · refine zv_aload_n (n := 1) dX4_cast_13 rfl rfl ?_
    refine zv_iload_n (n := 0) dX4_cast_14 rfl rfl ?_
    refine zv_aload_n (n := 1) dX4_cast_15 rfl rfl ?_
    refine zr_gR dX4_cast_16 fg_371 h (fun v5 e6 h => ?_)
    refine zv_iconst (v := 1) dX4_cast_19 (by decide) ?_
    refine zr_cVi (ci := 1) (st := [.int o3.2, .ref l0]) dX4_cast_20 mw_X1_operand wd_1130 wd_1131 wd_1132 rfl rfl [.int (1 : Int32)] rfl rfl (Nat.le_of_ble_eq_true rfl) (show d - 1 + 1 ≤ d by omega) h (fun o7 e8 => tX1_operand (d := d - 1) (by omega) e8) (fun o7 e8 h => ?_)
    refine zr_cVi (ci := 4) (st := []) dX4_cast_23 mw_X4_isOf wd_1261 wd_1263 wd_36 rfl rfl [.int o3.2, .int o7.2] rfl rfl (Nat.le_of_ble_eq_true rfl) (show d - 1 + 1 ≤ d by omega) h (fun o9 e10 => tX4_isOf (d := d - 1) (by omega) e10) (fun o9 e10 h => ?_)
    refine zr_if_eq (tgt := 37) dX4_cast_26 (by decide) h (fun c11 h => ?_) (fun c11 h => ?_)
    · refine zv_iconst (v := 5) dX4_cast_37 (by decide) ?_
      exact zv_fewer [] rfl (kX4_cast_38 hd _ _ h)
    · exact zv_fewer [1] rfl (kX4_cast_29 hd _ _ h)
def mX4_cast (N : Nat) (a0 : Nat) (x : zv_X) : Option (zv_X × Int32) := mX4_cast_0 N a0 x
theorem tX4_cast {d : Nat} (hd : 3 ≤ d) {N : Nat} {x : zv_X} {a0 : Nat} {o : (zv_X × Int32)} (h : mX4_cast N a0 x = some o) : zv_T d yX4_cast cX4_cast 2 ((some .int)) [.ref a0] x o.1 (some (.int o.2)) := by
  unfold mX4_cast at h
  exact zv_enter (by decide) (Nat.le_of_ble_eq_true rfl) (kX4_cast_0 hd _ _ h)

abbrev fJ13_compare_74951 (d : Nat) (x0 : zv_X) (o : (zv_X × Int32)) : zv_G := (d, RJ13, cJ13_compare_74951, 4, (some .int), ("compare", []), x0, o.1, zv_fin x0 o.1 (some (.int o.2)))
def mJ13_compare_74951_21 (N : Nat) (s0 : Int32) (x : zv_X) : Option (zv_X × Int32) := some (x, s0)
theorem kJ13_compare_74951_21 {d : Nat} {x0 : zv_X} {o : (zv_X × Int32)} (hd : 0 ≤ d) {N : Nat} (s0 : Int32) (x : zv_X) (h : mJ13_compare_74951_21 N s0 x = some o) : zv_V (fJ13_compare_74951 d x0 o) 21 [] [.int s0] x := by
  unfold mJ13_compare_74951_21 at h
  cases h
  exact zv_iret dJ13_compare_74951_21 rfl
def mJ13_compare_74951_0 (N : Nat) (l0 : Int64) (l2 : Int64) (x : zv_X) : Option (zv_X × Int32) := if 0 ≤ (lg_cmp l0 l2) then (if (lg_cmp l0 l2) = 0 then (mJ13_compare_74951_21 N (0 : Int32) x) else (mJ13_compare_74951_21 N (1 : Int32) x)) else (mJ13_compare_74951_21 N (-1 : Int32) x)
theorem kJ13_compare_74951_0 {d : Nat} {x0 : zv_X} {o : (zv_X × Int32)} (hd : 0 ≤ d) {N : Nat} (l0 : Int64) (l2 : Int64) (x : zv_X) (h : mJ13_compare_74951_0 N l0 l2 x = some o) : zv_V (fJ13_compare_74951 d x0 o) 0 [(0, .long l0), (2, .long l2)] [] x := by
  unfold mJ13_compare_74951_0 at h
  refine zv_lload_n (n := 0) dJ13_compare_74951_0 rfl rfl ?_
  refine zv_lload_n (n := 1) dJ13_compare_74951_1 rfl rfl ?_
  refine zv_lcmp dJ13_compare_74951_2 ?_
  refine zr_if_ge (tgt := 10) dJ13_compare_74951_3 (by decide) h (fun c2 h => ?_) (fun c2 h => ?_)
  · refine zv_lload_n (n := 0) dJ13_compare_74951_10 rfl rfl ?_
    refine zv_lload_n (n := 1) dJ13_compare_74951_11 rfl rfl ?_
    refine zv_lcmp dJ13_compare_74951_12 ?_
    refine zr_if_ne (tgt := 20) dJ13_compare_74951_13 (by decide) h (fun c1 h => ?_) (fun c1 h => ?_)
    · refine zv_iconst (v := 1) dJ13_compare_74951_20 (by decide) ?_
      exact zv_fewer [] rfl (kJ13_compare_74951_21 hd _ _ h)
    · refine zv_iconst (v := 0) dJ13_compare_74951_16 (by decide) ?_
      refine zv_goto (tgt := 21) dJ13_compare_74951_17 (by decide) ?_
      exact zv_fewer [] rfl (kJ13_compare_74951_21 hd _ _ h)
  · refine zv_iconst (v := -1) dJ13_compare_74951_6 (by decide) ?_
    refine zv_goto (tgt := 21) dJ13_compare_74951_7 (by decide) ?_
    exact zv_fewer [] rfl (kJ13_compare_74951_21 hd _ _ h)
def mJ13_compare_74951 (N : Nat) (a0 : Int64) (a1 : Int64) (x : zv_X) : Option (zv_X × Int32) := mJ13_compare_74951_0 N a0 a1 x
theorem tJ13_compare_74951 {d : Nat} (hd : 0 ≤ d) {N : Nat} {x : zv_X} {a0 : Int64} {a1 : Int64} {o : (zv_X × Int32)} (h : mJ13_compare_74951 N a0 a1 x = some o) : zv_T d yJ13_compare_74951 cJ13_compare_74951 4 ((some .int)) [.long a0, .long a1] x o.1 (some (.int o.2)) := by
  unfold mJ13_compare_74951 at h
  exact zv_enter (by decide) (Nat.le_of_ble_eq_true rfl) (kJ13_compare_74951_0 hd _ _ _ h)

abbrev fX1_increase (d : Nat) (x0 : zv_X) (o : zv_X) : zv_G := (d, RX1, cX1_increase, 3, none, ("increase", []), x0, o, zv_fin x0 o none)
def mX1_increase_0 (N : Nat) (l0 : Nat) (l1 : Int32) (l2 : Int32) (x : zv_X) : Option zv_X := (zm_R x l0 1 0).bind fun v1 => (zm_R x l0 1 0).bind fun v3 => (zm_aL x v3 l1).bind fun v5 => (zm_sL x v1 l1 (Int32.toInt64 (Int64.toInt32 (v5 + (Int32.toInt64 l2))))).bind fun x7 => some x7
theorem kX1_increase_0 {d : Nat} {x0 : zv_X} {o : zv_X} (hd : 0 ≤ d) {N : Nat} (l0 : Nat) (l1 : Int32) (l2 : Int32) (x : zv_X) (h : mX1_increase_0 N l0 l1 l2 x = some o) : zv_V (fX1_increase d x0 o) 0 [(0, .ref l0), (1, .int l1), (2, .int l2)] [] x := by
  unfold mX1_increase_0 at h
  refine zv_aload_n (n := 0) dX1_increase_0 rfl rfl ?_
  refine zr_gR dX1_increase_1 fg_348 h (fun v1 e2 h => ?_)
  refine zv_iload_n (n := 1) dX1_increase_4 rfl rfl ?_
  refine zv_aload_n (n := 0) dX1_increase_5 rfl rfl ?_
  refine zr_gR dX1_increase_6 fg_348 h (fun v3 e4 h => ?_)
  refine zv_iload_n (n := 1) dX1_increase_9 rfl rfl ?_
  refine zr_aL dX1_increase_10 h (fun v5 e6 h => ?_)
  refine zv_iload_n (n := 2) dX1_increase_11 rfl rfl ?_
  refine zv_i2l dX1_increase_12 ?_
  refine zv_ladd dX1_increase_13 ?_
  refine zv_l2i dX1_increase_14 ?_
  refine zv_i2l dX1_increase_15 ?_
  refine zr_sL dX1_increase_16 h (fun x7 e8 h => ?_)
  cases h
  exact zv_vret dX1_increase_17 rfl
def mX1_increase (N : Nat) (a0 : Nat) (a1 : Int32) (a2 : Int32) (x : zv_X) : Option zv_X := mX1_increase_0 N a0 a1 a2 x
theorem tX1_increase {d : Nat} (hd : 0 ≤ d) {N : Nat} {x : zv_X} {a0 : Nat} {a1 : Int32} {a2 : Int32} {o : zv_X} (h : mX1_increase N a0 a1 a2 x = some o) : zv_T d yX1_increase cX1_increase 3 (none) [.ref a0, .int a1, .int a2] x o none := by
  unfold mX1_increase at h
  exact zv_enter (by decide) (Nat.le_of_ble_eq_true rfl) (kX1_increase_0 hd _ _ _ _ h)

abbrev fX1_pushNumber (d : Nat) (x0 : zv_X) (o : zv_X) : zv_G := (d, RX1, cX1_pushNumber, 3, none, ("pushNumber", []), x0, o, zv_fin x0 o none)
def mX1_pushNumber_0 (N : Nat) (l0 : Nat) (l1 : Int64) (x : zv_X) : Option zv_X := (zm_I x l0 1 2).bind fun v1 => if zm_k x l0 1 = true then ((mX1_setNumber N l0 v1 l1 x).bind fun o3 => (zm_I o3 l0 1 2).bind fun v5 => (zm_p o3 l0 1 2 (.int (v5 + (1 : Int32)))).bind fun x7 => some x7) else none
theorem kX1_pushNumber_0 {d : Nat} {x0 : zv_X} {o : zv_X} (hd : 1 ≤ d) {N : Nat} (l0 : Nat) (l1 : Int64) (x : zv_X) (h : mX1_pushNumber_0 N l0 l1 x = some o) : zv_V (fX1_pushNumber d x0 o) 0 [(0, .ref l0), (1, .long l1)] [] x := by
  unfold mX1_pushNumber_0 at h
  refine zv_aload_n (n := 0) dX1_pushNumber_0 rfl rfl ?_
  refine zv_aload_n (n := 0) dX1_pushNumber_1 rfl rfl ?_
  refine zr_gI dX1_pushNumber_2 fg_350 h (fun v1 e2 h => ?_)
  refine zv_lload_n (n := 1) dX1_pushNumber_5 rfl rfl ?_
  refine zr_cVv (ci := 1) (st := []) dX1_pushNumber_6 mw_X1_setNumber wd_1129 wd_1101 wd_1102 rfl rfl [.int v1, .long l1] rfl rfl (Nat.le_of_ble_eq_true rfl) (show d - 1 + 1 ≤ d by omega) h (fun o3 e4 => tX1_setNumber (d := d - 1) (by omega) e4) (fun o3 e4 h => ?_)
  refine zv_aload_n (n := 0) dX1_pushNumber_9 rfl rfl ?_
  refine zv_dup dX1_pushNumber_10 rfl ?_
  refine zr_gI dX1_pushNumber_11 fg_350 h (fun v5 e6 h => ?_)
  refine zv_iconst (v := 1) dX1_pushNumber_14 (by decide) ?_
  refine zv_iadd dX1_pushNumber_15 ?_
  refine zr_p dX1_pushNumber_16 fl_350 (fun q => nomatch q) rfl rfl h (fun x7 e8 h => ?_)
  cases h
  exact zv_vret dX1_pushNumber_19 rfl
def mX1_pushNumber (N : Nat) (a0 : Nat) (a1 : Int64) (x : zv_X) : Option zv_X := mX1_pushNumber_0 N a0 a1 x
theorem tX1_pushNumber {d : Nat} (hd : 1 ≤ d) {N : Nat} {x : zv_X} {a0 : Nat} {a1 : Int64} {o : zv_X} (h : mX1_pushNumber N a0 a1 x = some o) : zv_T d yX1_pushNumber cX1_pushNumber 3 (none) [.ref a0, .long a1] x o none := by
  unfold mX1_pushNumber at h
  exact zv_enter (by decide) (Nat.le_of_ble_eq_true rfl) (kX1_pushNumber_0 hd _ _ _ h)

abbrev fX4_converted (d : Nat) (x0 : zv_X) (o : (zv_X × Int64)) : zv_G := (d, RX4, cX4_converted, 3, (some .long), ("converted", []), x0, o.1, zv_fin x0 o.1 (some (.long o.2)))
def mX4_converted_0 (N : Nat) (l0 : Int32) (l1 : Int64) (x : zv_X) : Option (zv_X × Int64) := if l0 = (136 : Int32) then (some (x, Int32.toInt64 (Int64.toInt32 l1))) else if l0 = (145 : Int32) then (some (x, Int32.toInt64 ((Int32.toInt8 (Int64.toInt32 l1)).toInt32))) else if l0 = (146 : Int32) then (some (x, Int32.toInt64 ((Int32.toUInt32 (Int64.toInt32 l1) % 65536).toInt32))) else if l0 = (147 : Int32) then (some (x, Int32.toInt64 ((Int32.toInt16 (Int64.toInt32 l1)).toInt32))) else (some (x, l1))
theorem kX4_converted_0 {d : Nat} {x0 : zv_X} {o : (zv_X × Int64)} (hd : 0 ≤ d) {N : Nat} (l0 : Int32) (l1 : Int64) (x : zv_X) (h : mX4_converted_0 N l0 l1 x = some o) : zv_V (fX4_converted d x0 o) 0 [(0, .int l0), (1, .long l1)] [] x := by
  unfold mX4_converted_0 at h
  refine zv_iload_n (n := 0) dX4_converted_0 rfl rfl ?_
  rcases zif h with ⟨c1, h⟩ | ⟨c1, h⟩
  · refine zr_lookIn (tgt := 44) (off := 43) c1 dX4_converted_1 (by decide) (by decide) (by decide) ?_
    refine zv_lload_n (n := 1) dX4_converted_44 rfl rfl ?_
    refine zv_l2i dX4_converted_45 ?_
    refine zv_i2l dX4_converted_46 ?_
    cases h
    exact zv_lret dX4_converted_47 rfl
  rcases zif h with ⟨c2, h⟩ | ⟨c2, h⟩
  · refine zr_lookIn (tgt := 48) (off := 47) c2 dX4_converted_1 (by decide) (by decide) (by decide) ?_
    refine zv_lload_n (n := 1) dX4_converted_48 rfl rfl ?_
    refine zv_l2i dX4_converted_49 ?_
    refine zv_i2b dX4_converted_50 ?_
    refine zv_i2l dX4_converted_51 ?_
    cases h
    exact zv_lret dX4_converted_52 rfl
  rcases zif h with ⟨c3, h⟩ | ⟨c3, h⟩
  · refine zr_lookIn (tgt := 53) (off := 52) c3 dX4_converted_1 (by decide) (by decide) (by decide) ?_
    refine zv_lload_n (n := 1) dX4_converted_53 rfl rfl ?_
    refine zv_l2i dX4_converted_54 ?_
    refine zv_i2c dX4_converted_55 ?_
    refine zv_i2l dX4_converted_56 ?_
    cases h
    exact zv_lret dX4_converted_57 rfl
  rcases zif h with ⟨c4, h⟩ | ⟨c4, h⟩
  · refine zr_lookIn (tgt := 58) (off := 57) c4 dX4_converted_1 (by decide) (by decide) (by decide) ?_
    refine zv_lload_n (n := 1) dX4_converted_58 rfl rfl ?_
    refine zv_l2i dX4_converted_59 ?_
    refine zv_i2s dX4_converted_60 ?_
    refine zv_i2l dX4_converted_61 ?_
    cases h
    exact zv_lret dX4_converted_62 rfl
  refine zv_lookup (tgt := 63) (off := 62) dX4_converted_1 (by decide) (by show Op.lookupswitch.offset [((136 : Int), (43 : Int)), ((145 : Int), (47 : Int)), ((146 : Int), (52 : Int)), ((147 : Int), (57 : Int))] 62 _ = _; rw [lv_osw c1 (show (136 : Int32).toInt = 136 by decide), lv_osw c2 (show (145 : Int32).toInt = 145 by decide), lv_osw c3 (show (146 : Int32).toInt = 146 by decide), lv_osw c4 (show (147 : Int32).toInt = 147 by decide)]; rfl) (by decide) ?_
  refine zv_lload_n (n := 1) dX4_converted_63 rfl rfl ?_
  cases h
  exact zv_lret dX4_converted_64 rfl
def mX4_converted (N : Nat) (a0 : Int32) (a1 : Int64) (x : zv_X) : Option (zv_X × Int64) := mX4_converted_0 N a0 a1 x
theorem tX4_converted {d : Nat} (hd : 0 ≤ d) {N : Nat} {x : zv_X} {a0 : Int32} {a1 : Int64} {o : (zv_X × Int64)} (h : mX4_converted N a0 a1 x = some o) : zv_T d yX4_converted cX4_converted 3 ((some .long)) [.int a0, .long a1] x o.1 (some (.long o.2)) := by
  unfold mX4_converted at h
  exact zv_enter (by decide) (Nat.le_of_ble_eq_true rfl) (kX4_converted_0 hd _ _ _ h)

abbrev fX4_convert (d : Nat) (x0 : zv_X) (o : (zv_X × Int32)) : zv_G := (d, RX4, cX4_convert, 5, (some .int), ("convert", []), x0, o.1, zv_fin x0 o.1 (some (.int o.2)))
def mX4_convert_0 (N : Nat) (l0 : Nat) (l1 : Int32) (x : zv_X) : Option (zv_X × Int32) := if l1 = (132 : Int32) then ((zm_R x l0 4 5).bind fun v34 => (zm_R x l0 4 5).bind fun v36 => if zm_k x v36 1 = true then ((mX1_operand N v36 (1 : Int32) x).bind fun o38 => (zm_R o38.1 l0 4 5).bind fun v40 => if zm_k o38.1 v40 1 = true then ((mX1_operand N v40 (2 : Int32) o38.1).bind fun o42 => if zm_k o42.1 v34 1 = true then ((mX1_increase N v34 o38.2 ((Int32.toInt8 o42.2).toInt32) o42.1).bind fun o44 => if zm_k o44 l0 4 = true then ((mX4_goOn N l0 (3 : Int32) o44).bind fun o46 => some (o46.1, o46.2)) else none) else none) else none) else none) else ((zm_R x l0 4 5).bind fun v1 => if zm_k x v1 1 = true then ((mX1_number N v1 (0 : Int32) x).bind fun o3 => if l1 = (148 : Int32) then ((zm_R o3.1 l0 4 5).bind fun v17 => if zm_k o3.1 v17 1 = true then ((mX1_number N v17 (1 : Int32) o3.1).bind fun o19 => (mJ13_compare_74951 N o19.2 o3.2 o19.1).bind fun o21 => (zm_R o21.1 l0 4 5).bind fun v23 => if zm_k o21.1 v23 1 = true then ((mX1_drop N v23 (2 : Int32) o21.1).bind fun o25 => (zm_R o25 l0 4 5).bind fun v27 => if zm_k o25 v27 1 = true then ((mX1_pushNumber N v27 (Int32.toInt64 o21.2) o25).bind fun o29 => if zm_k o29 l0 4 = true then ((mX4_goOn N l0 (1 : Int32) o29).bind fun o31 => some (o31.1, o31.2)) else none) else none) else none) else none) else ((zm_R o3.1 l0 4 5).bind fun v5 => if zm_k o3.1 v5 1 = true then ((mX1_drop N v5 (1 : Int32) o3.1).bind fun o7 => (zm_R o7 l0 4 5).bind fun v9 => (mX4_converted N l1 o3.2 o7).bind fun o11 => if zm_k o11.1 v9 1 = true then ((mX1_pushNumber N v9 o11.2 o11.1).bind fun o13 => if zm_k o13 l0 4 = true then ((mX4_goOn N l0 (1 : Int32) o13).bind fun o15 => some (o15.1, o15.2)) else none) else none) else none)) else none)
theorem kX4_convert_0 {d : Nat} {x0 : zv_X} {o : (zv_X × Int32)} (hd : 2 ≤ d) {N : Nat} (l0 : Nat) (l1 : Int32) (x : zv_X) (h : mX4_convert_0 N l0 l1 x = some o) : zv_V (fX4_convert d x0 o) 0 [(0, .ref l0), (1, .int l1)] [] x := by
  unfold mX4_convert_0 at h
  refine zv_iload_n (n := 1) dX4_convert_0 rfl rfl ?_
  refine zv_sipush (v := 132) dX4_convert_1 (by decide) ?_
  refine zr_icmp_ne (tgt := 37) dX4_convert_4 (by decide) h (fun c48 h => ?_) (fun c48 h => ?_)
  · refine zv_aload_n (n := 0) dX4_convert_37 rfl rfl ?_
    refine zr_gR dX4_convert_38 fg_371 h (fun v1 e2 h => ?_)
    refine zv_iconst (v := 0) dX4_convert_41 (by decide) ?_
    refine zr_cVl (ci := 1) (st := []) dX4_convert_42 mw_X1_number wd_1155 wd_1156 wd_1157 rfl rfl [.int (0 : Int32)] rfl rfl (Nat.le_of_ble_eq_true rfl) (show d - 1 + 1 ≤ d by omega) h (fun o3 e4 => tX1_number (d := d - 1) (by omega) e4) (fun o3 e4 h => ?_)
    refine zv_lstore_n (L' := [(2, .long o3.2), (0, .ref l0), (1, .int l1)]) dX4_convert_45 rfl (Nat.le_of_ble_eq_true rfl) rfl ?_
    refine zv_iload_n (n := 2) dX4_convert_46 rfl rfl ?_
    refine zv_sipush (v := 148) dX4_convert_47 (by decide) ?_
    refine zr_icmp_ne (tgt := 91) dX4_convert_50 (by decide) h (fun c33 h => ?_) (fun c33 h => ?_)
    · refine zv_aload_n (n := 1) dX4_convert_91 rfl rfl ?_
      refine zr_gR dX4_convert_92 fg_371 h (fun v5 e6 h => ?_)
      refine zv_iconst (v := 1) dX4_convert_95 (by decide) ?_
      refine zr_cVv (ci := 1) (st := []) dX4_convert_96 mw_X1_drop wd_1180 wd_1181 wd_1182 rfl rfl [.int (1 : Int32)] rfl rfl (Nat.le_of_ble_eq_true rfl) (show d - 1 + 1 ≤ d by omega) h (fun o7 e8 => tX1_drop (d := d - 1) (by omega) e8) (fun o7 e8 h => ?_)
      refine zv_aload_n (n := 1) dX4_convert_99 rfl rfl ?_
      refine zr_gR dX4_convert_100 fg_371 h (fun v9 e10 h => ?_)
      refine zv_iload_n (n := 2) dX4_convert_103 rfl rfl ?_
      refine zv_lload_n (n := 0) dX4_convert_104 rfl rfl ?_
      refine zr_cSl (st := [.ref v9]) dX4_convert_105 mw_X4_converted wd_1239 wd_1240 [.int l1, .long o3.2] rfl rfl (Nat.le_of_ble_eq_true rfl) (show d - 1 + 1 ≤ d by omega) h (fun o11 e12 => tX4_converted (d := d - 1) (by omega) e12) (fun o11 e12 h => ?_)
      refine zr_cVv (ci := 1) (st := []) dX4_convert_108 mw_X1_pushNumber wd_1125 wd_1126 wd_1127 rfl rfl [.long o11.2] rfl rfl (Nat.le_of_ble_eq_true rfl) (show d - 1 + 1 ≤ d by omega) h (fun o13 e14 => tX1_pushNumber (d := d - 1) (by omega) e14) (fun o13 e14 h => ?_)
      refine zv_aload_n (n := 1) dX4_convert_111 rfl rfl ?_
      refine zv_iconst (v := 1) dX4_convert_112 (by decide) ?_
      refine zr_cVi (ci := 4) (st := []) dX4_convert_113 mw_X4_goOn wd_1117 wd_1119 wd_22 rfl rfl [.int (1 : Int32)] rfl rfl (Nat.le_of_ble_eq_true rfl) (show d - 1 + 1 ≤ d by omega) h (fun o15 e16 => tX4_goOn (d := d - 1) (by omega) e16) (fun o15 e16 h => ?_)
      cases h
      exact zv_iret dX4_convert_116 rfl
    · refine zv_aload_n (n := 1) dX4_convert_53 rfl rfl ?_
      refine zr_gR dX4_convert_54 fg_371 h (fun v17 e18 h => ?_)
      refine zv_iconst (v := 1) dX4_convert_57 (by decide) ?_
      refine zr_cVl (ci := 1) (st := []) dX4_convert_58 mw_X1_number wd_1155 wd_1156 wd_1157 rfl rfl [.int (1 : Int32)] rfl rfl (Nat.le_of_ble_eq_true rfl) (show d - 1 + 1 ≤ d by omega) h (fun o19 e20 => tX1_number (d := d - 1) (by omega) e20) (fun o19 e20 h => ?_)
      refine zv_lload_n (n := 0) dX4_convert_61 rfl rfl ?_
      refine zr_cSi (st := []) dX4_convert_62 mw_J13_compare_74951 wd_1236 wd_1237 [.long o19.2, .long o3.2] rfl rfl (Nat.le_of_ble_eq_true rfl) (show d - 1 + 1 ≤ d by omega) h (fun o21 e22 => tJ13_compare_74951 (d := d - 1) (by omega) e22) (fun o21 e22 h => ?_)
      refine zv_istore (L' := [(4, .int o21.2), (2, .long o3.2), (0, .ref l0), (1, .int l1)]) dX4_convert_65 (Nat.le_of_ble_eq_true rfl) rfl ?_
      refine zv_aload_n (n := 2) dX4_convert_67 rfl rfl ?_
      refine zr_gR dX4_convert_68 fg_371 h (fun v23 e24 h => ?_)
      refine zv_iconst (v := 2) dX4_convert_71 (by decide) ?_
      refine zr_cVv (ci := 1) (st := []) dX4_convert_72 mw_X1_drop wd_1180 wd_1181 wd_1182 rfl rfl [.int (2 : Int32)] rfl rfl (Nat.le_of_ble_eq_true rfl) (show d - 1 + 1 ≤ d by omega) h (fun o25 e26 => tX1_drop (d := d - 1) (by omega) e26) (fun o25 e26 h => ?_)
      refine zv_aload_n (n := 2) dX4_convert_75 rfl rfl ?_
      refine zr_gR dX4_convert_76 fg_371 h (fun v27 e28 h => ?_)
      refine zv_iload (n := 0) dX4_convert_79 rfl ?_
      refine zv_i2l dX4_convert_81 ?_
      refine zr_cVv (ci := 1) (st := []) dX4_convert_82 mw_X1_pushNumber wd_1125 wd_1126 wd_1127 rfl rfl [.long (Int32.toInt64 o21.2)] rfl rfl (Nat.le_of_ble_eq_true rfl) (show d - 1 + 1 ≤ d by omega) h (fun o29 e30 => tX1_pushNumber (d := d - 1) (by omega) e30) (fun o29 e30 h => ?_)
      refine zv_aload_n (n := 2) dX4_convert_85 rfl rfl ?_
      refine zv_iconst (v := 1) dX4_convert_86 (by decide) ?_
      refine zr_cVi (ci := 4) (st := []) dX4_convert_87 mw_X4_goOn wd_1117 wd_1119 wd_22 rfl rfl [.int (1 : Int32)] rfl rfl (Nat.le_of_ble_eq_true rfl) (show d - 1 + 1 ≤ d by omega) h (fun o31 e32 => tX4_goOn (d := d - 1) (by omega) e32) (fun o31 e32 h => ?_)
      cases h
      exact zv_iret dX4_convert_90 rfl
  · refine zv_aload_n (n := 0) dX4_convert_7 rfl rfl ?_
    refine zr_gR dX4_convert_8 fg_371 h (fun v34 e35 h => ?_)
    refine zv_aload_n (n := 0) dX4_convert_11 rfl rfl ?_
    refine zr_gR dX4_convert_12 fg_371 h (fun v36 e37 h => ?_)
    refine zv_iconst (v := 1) dX4_convert_15 (by decide) ?_
    refine zr_cVi (ci := 1) (st := [.ref v34]) dX4_convert_16 mw_X1_operand wd_1130 wd_1131 wd_1132 rfl rfl [.int (1 : Int32)] rfl rfl (Nat.le_of_ble_eq_true rfl) (show d - 1 + 1 ≤ d by omega) h (fun o38 e39 => tX1_operand (d := d - 1) (by omega) e39) (fun o38 e39 h => ?_)
    refine zv_aload_n (n := 0) dX4_convert_19 rfl rfl ?_
    refine zr_gR dX4_convert_20 fg_371 h (fun v40 e41 h => ?_)
    refine zv_iconst (v := 2) dX4_convert_23 (by decide) ?_
    refine zr_cVi (ci := 1) (st := [.int o38.2, .ref v34]) dX4_convert_24 mw_X1_operand wd_1130 wd_1131 wd_1132 rfl rfl [.int (2 : Int32)] rfl rfl (Nat.le_of_ble_eq_true rfl) (show d - 1 + 1 ≤ d by omega) h (fun o42 e43 => tX1_operand (d := d - 1) (by omega) e43) (fun o42 e43 h => ?_)
    refine zv_i2b dX4_convert_27 ?_
    refine zr_cVv (ci := 1) (st := []) dX4_convert_28 mw_X1_increase wd_1232 wd_1233 wd_1234 rfl rfl [.int o38.2, .int ((Int32.toInt8 o42.2).toInt32)] rfl rfl (Nat.le_of_ble_eq_true rfl) (show d - 1 + 1 ≤ d by omega) h (fun o44 e45 => tX1_increase (d := d - 1) (by omega) e45) (fun o44 e45 h => ?_)
    refine zv_aload_n (n := 0) dX4_convert_31 rfl rfl ?_
    refine zv_iconst (v := 3) dX4_convert_32 (by decide) ?_
    refine zr_cVi (ci := 4) (st := []) dX4_convert_33 mw_X4_goOn wd_1117 wd_1119 wd_22 rfl rfl [.int (3 : Int32)] rfl rfl (Nat.le_of_ble_eq_true rfl) (show d - 1 + 1 ≤ d by omega) h (fun o46 e47 => tX4_goOn (d := d - 1) (by omega) e47) (fun o46 e47 h => ?_)
    cases h
    exact zv_iret dX4_convert_36 rfl
def mX4_convert (N : Nat) (a0 : Nat) (a1 : Int32) (x : zv_X) : Option (zv_X × Int32) := mX4_convert_0 N a0 a1 x
theorem tX4_convert {d : Nat} (hd : 2 ≤ d) {N : Nat} {x : zv_X} {a0 : Nat} {a1 : Int32} {o : (zv_X × Int32)} (h : mX4_convert N a0 a1 x = some o) : zv_T d yX4_convert cX4_convert 5 ((some .int)) [.ref a0, .int a1] x o.1 (some (.int o.2)) := by
  unfold mX4_convert at h
  exact zv_enter (by decide) (Nat.le_of_ble_eq_true rfl) (kX4_convert_0 hd _ _ _ h)

abbrev fX4_leave (d : Nat) (x0 : zv_X) (o : (zv_X × Int32)) : zv_G := (d, RX4, cX4_leave, 3, (some .int), ("leave", []), x0, o.1, zv_fin x0 o.1 (some (.int o.2)))
def mX4_leave_132 (N : Nat) (l0 : Nat) (x : zv_X) : Option (zv_X × Int32) := if zm_k x l0 4 = true then ((mX4_goOn N l0 (2 : Int32) x).bind fun o1 => some (o1.1, o1.2)) else none
theorem kX4_leave_132 {d : Nat} {x0 : zv_X} {o : (zv_X × Int32)} (hd : 2 ≤ d) {N : Nat} (l0 : Nat) (x : zv_X) (h : mX4_leave_132 N l0 x = some o) : zv_V (fX4_leave d x0 o) 132 [(0, .ref l0)] [] x := by
  unfold mX4_leave_132 at h
  refine zv_aload_n (n := 0) dX4_leave_132 rfl rfl ?_
  refine zv_iconst (v := 2) dX4_leave_133 (by decide) ?_
  refine zr_cVi (ci := 4) (st := []) dX4_leave_134 mw_X4_goOn wd_1117 wd_1119 wd_22 rfl rfl [.int (2 : Int32)] rfl rfl (Nat.le_of_ble_eq_true rfl) (show d - 1 + 1 ≤ d by omega) h (fun o1 e2 => tX4_goOn (d := d - 1) (by omega) e2) (fun o1 e2 h => ?_)
  cases h
  exact zv_iret dX4_leave_137 rfl
def mX4_leave_61 (N : Nat)  (x : zv_X) : Option (zv_X × Int32) := some (x, (0 : Int32))
theorem kX4_leave_61 {d : Nat} {x0 : zv_X} {o : (zv_X × Int32)} (hd : 2 ≤ d) {N : Nat}  (x : zv_X) (h : mX4_leave_61 N  x = some o) : zv_V (fX4_leave d x0 o) 61 [] [] x := by
  unfold mX4_leave_61 at h
  refine zv_iconst (v := 0) dX4_leave_61 (by decide) ?_
  cases h
  exact zv_iret dX4_leave_62 rfl
def mX4_leave_36 (N : Nat) (s0 : Int64) (s1 : Nat) (x : zv_X) : Option (zv_X × Int32) := (zm_p x s1 4 8 (.long s0)).bind fun x1 => mX4_leave_61 N x1
theorem kX4_leave_36 {d : Nat} {x0 : zv_X} {o : (zv_X × Int32)} (hd : 2 ≤ d) {N : Nat} (s0 : Int64) (s1 : Nat) (x : zv_X) (h : mX4_leave_36 N s0 s1 x = some o) : zv_V (fX4_leave d x0 o) 36 [] [.long s0, .ref s1] x := by
  unfold mX4_leave_36 at h
  refine zr_p dX4_leave_36 fl_374 (fun q => nomatch q) rfl rfl h (fun x1 e2 h => ?_)
  refine zv_goto (tgt := 61) dX4_leave_39 (by decide) ?_
  exact kX4_leave_61 hd _ h
def mX4_leave_0 (N : Nat) (l0 : Nat) (l1 : Int32) (x : zv_X) : Option (zv_X × Int32) := (zm_I x l0 4 6).bind fun v1 => if v1 = 0 then ((zm_p x l0 4 7 (.int (0 : Int32))).bind fun x31 => if l1 = (176 : Int32) then ((zm_R x31 l0 4 5).bind fun v40 => if zm_k x31 v40 1 = true then ((mX1_reference N v40 (0 : Int32) x31).bind fun o42 => if o42.2 = 0 then (mX4_leave_36 N (0 : Int64) l0 o42.1) else (mX4_leave_36 N (1 : Int64) l0 o42.1)) else none) else (if l1 = (177 : Int32) then (mX4_leave_61 N x31) else ((zm_R x31 l0 4 5).bind fun v33 => if zm_k x31 v33 1 = true then ((mX1_number N v33 (0 : Int32) x31).bind fun o35 => (zm_p o35.1 l0 4 8 (.long o35.2)).bind fun x37 => mX4_leave_61 N x37) else none))) else ((zm_R x l0 4 5).bind fun v3 => (zm_I x l0 4 6).bind fun v5 => (zm_p x l0 4 6 (.int (v5 - (1 : Int32)))).bind fun x7 => (zm_R x7 l0 4 4).bind fun v9 => (zm_I x7 l0 4 6).bind fun v11 => (zm_aR x7 v9 v11).bind fun v13 => (zm_p x7 l0 4 5 (.ref v13)).bind fun x15 => if l1 = (176 : Int32) then ((zm_R x15 l0 4 5).bind fun v24 => if zm_k x15 v3 1 = true then ((mX1_reference N v3 (0 : Int32) x15).bind fun o26 => if zm_k o26.1 v24 1 = true then ((mX1_pushReference N v24 o26.2 o26.1).bind fun o28 => mX4_leave_132 N l0 o28) else none) else none) else (if l1 = (177 : Int32) then (mX4_leave_132 N l0 x15) else ((zm_R x15 l0 4 5).bind fun v17 => if zm_k x15 v3 1 = true then ((mX1_number N v3 (0 : Int32) x15).bind fun o19 => if zm_k o19.1 v17 1 = true then ((mX1_pushNumber N v17 o19.2 o19.1).bind fun o21 => mX4_leave_132 N l0 o21) else none) else none)))
theorem kX4_leave_0 {d : Nat} {x0 : zv_X} {o : (zv_X × Int32)} (hd : 2 ≤ d) {N : Nat} (l0 : Nat) (l1 : Int32) (x : zv_X) (h : mX4_leave_0 N l0 l1 x = some o) : zv_V (fX4_leave d x0 o) 0 [(0, .ref l0), (1, .int l1)] [] x := by
  unfold mX4_leave_0 at h
  refine zv_aload_n (n := 0) dX4_leave_0 rfl rfl ?_
  refine zr_gI dX4_leave_1 fg_372 h (fun v1 e2 h => ?_)
  refine zr_if_ne (tgt := 63) dX4_leave_4 (by decide) h (fun c46 h => ?_) (fun c46 h => ?_)
  · refine zv_aload_n (n := 0) dX4_leave_63 rfl rfl ?_
    refine zr_gR dX4_leave_64 fg_371 h (fun v3 e4 h => ?_)
    refine zv_astore_n (L' := [(2, .ref v3), (0, .ref l0), (1, .int l1)]) dX4_leave_67 rfl (Nat.le_of_ble_eq_true rfl) rfl ?_
    refine zv_aload_n (n := 1) dX4_leave_68 rfl rfl ?_
    refine zv_dup dX4_leave_69 rfl ?_
    refine zr_gI dX4_leave_70 fg_372 h (fun v5 e6 h => ?_)
    refine zv_iconst (v := 1) dX4_leave_73 (by decide) ?_
    refine zv_isub dX4_leave_74 ?_
    refine zr_p dX4_leave_75 fl_372 (fun q => nomatch q) rfl rfl h (fun x7 e8 h => ?_)
    refine zv_aload_n (n := 1) dX4_leave_78 rfl rfl ?_
    refine zv_aload_n (n := 1) dX4_leave_79 rfl rfl ?_
    refine zr_gR dX4_leave_80 fg_370 h (fun v9 e10 h => ?_)
    refine zv_aload_n (n := 1) dX4_leave_83 rfl rfl ?_
    refine zr_gI dX4_leave_84 fg_372 h (fun v11 e12 h => ?_)
    refine zr_aR dX4_leave_87 h (fun v13 e14 h => ?_)
    refine zr_p dX4_leave_88 fl_371 (fun q => nomatch q) rfl rfl h (fun x15 e16 h => ?_)
    refine zv_iload_n (n := 2) dX4_leave_91 rfl rfl ?_
    refine zv_sipush (v := 176) dX4_leave_92 (by decide) ?_
    refine zr_icmp_ne (tgt := 113) dX4_leave_95 (by decide) h (fun c30 h => ?_) (fun c30 h => ?_)
    · refine zv_iload_n (n := 2) dX4_leave_113 rfl rfl ?_
      refine zv_sipush (v := 177) dX4_leave_114 (by decide) ?_
      refine zr_icmp_eq (tgt := 132) dX4_leave_117 (by decide) h (fun c23 h => ?_) (fun c23 h => ?_)
      · exact zv_fewer [1] rfl (kX4_leave_132 hd _ _ h)
      · refine zv_aload_n (n := 1) dX4_leave_120 rfl rfl ?_
        refine zr_gR dX4_leave_121 fg_371 h (fun v17 e18 h => ?_)
        refine zv_aload_n (n := 0) dX4_leave_124 rfl rfl ?_
        refine zv_iconst (v := 0) dX4_leave_125 (by decide) ?_
        refine zr_cVl (ci := 1) (st := [.ref v17]) dX4_leave_126 mw_X1_number wd_1155 wd_1156 wd_1157 rfl rfl [.int (0 : Int32)] rfl rfl (Nat.le_of_ble_eq_true rfl) (show d - 1 + 1 ≤ d by omega) h (fun o19 e20 => tX1_number (d := d - 1) (by omega) e20) (fun o19 e20 h => ?_)
        refine zr_cVv (ci := 1) (st := []) dX4_leave_129 mw_X1_pushNumber wd_1125 wd_1126 wd_1127 rfl rfl [.long o19.2] rfl rfl (Nat.le_of_ble_eq_true rfl) (show d - 1 + 1 ≤ d by omega) h (fun o21 e22 => tX1_pushNumber (d := d - 1) (by omega) e22) (fun o21 e22 h => ?_)
        exact zv_fewer [1] rfl (kX4_leave_132 hd _ _ h)
    · refine zv_aload_n (n := 1) dX4_leave_98 rfl rfl ?_
      refine zr_gR dX4_leave_99 fg_371 h (fun v24 e25 h => ?_)
      refine zv_aload_n (n := 0) dX4_leave_102 rfl rfl ?_
      refine zv_iconst (v := 0) dX4_leave_103 (by decide) ?_
      refine zr_cVi (ci := 1) (st := [.ref v24]) dX4_leave_104 mw_X1_reference wd_1151 wd_1152 wd_1153 rfl rfl [.int (0 : Int32)] rfl rfl (Nat.le_of_ble_eq_true rfl) (show d - 1 + 1 ≤ d by omega) h (fun o26 e27 => tX1_reference (d := d - 1) (by omega) e27) (fun o26 e27 h => ?_)
      refine zr_cVv (ci := 1) (st := []) dX4_leave_107 mw_X1_pushReference wd_1121 wd_1122 wd_1123 rfl rfl [.int o26.2] rfl rfl (Nat.le_of_ble_eq_true rfl) (show d - 1 + 1 ≤ d by omega) h (fun o28 e29 => tX1_pushReference (d := d - 1) (by omega) e29) (fun o28 e29 h => ?_)
      refine zv_goto (tgt := 132) dX4_leave_110 (by decide) ?_
      exact zv_fewer [1] rfl (kX4_leave_132 hd _ _ h)
  · refine zv_aload_n (n := 0) dX4_leave_7 rfl rfl ?_
    refine zv_iconst (v := 0) dX4_leave_8 (by decide) ?_
    refine zr_p dX4_leave_9 fl_373 (fun q => nomatch q) rfl rfl h (fun x31 e32 h => ?_)
    refine zv_iload_n (n := 1) dX4_leave_12 rfl rfl ?_
    refine zv_sipush (v := 176) dX4_leave_13 (by decide) ?_
    refine zr_icmp_ne (tgt := 42) dX4_leave_16 (by decide) h (fun c45 h => ?_) (fun c45 h => ?_)
    · refine zv_iload_n (n := 1) dX4_leave_42 rfl rfl ?_
      refine zv_sipush (v := 177) dX4_leave_43 (by decide) ?_
      refine zr_icmp_eq (tgt := 61) dX4_leave_46 (by decide) h (fun c39 h => ?_) (fun c39 h => ?_)
      · exact zv_fewer [] rfl (kX4_leave_61 hd _ h)
      · refine zv_aload_n (n := 0) dX4_leave_49 rfl rfl ?_
        refine zv_aload_n (n := 0) dX4_leave_50 rfl rfl ?_
        refine zr_gR dX4_leave_51 fg_371 h (fun v33 e34 h => ?_)
        refine zv_iconst (v := 0) dX4_leave_54 (by decide) ?_
        refine zr_cVl (ci := 1) (st := [.ref l0]) dX4_leave_55 mw_X1_number wd_1155 wd_1156 wd_1157 rfl rfl [.int (0 : Int32)] rfl rfl (Nat.le_of_ble_eq_true rfl) (show d - 1 + 1 ≤ d by omega) h (fun o35 e36 => tX1_number (d := d - 1) (by omega) e36) (fun o35 e36 h => ?_)
        refine zr_p dX4_leave_58 fl_374 (fun q => nomatch q) rfl rfl h (fun x37 e38 h => ?_)
        exact zv_fewer [] rfl (kX4_leave_61 hd _ h)
    · refine zv_aload_n (n := 0) dX4_leave_19 rfl rfl ?_
      refine zv_aload_n (n := 0) dX4_leave_20 rfl rfl ?_
      refine zr_gR dX4_leave_21 fg_371 h (fun v40 e41 h => ?_)
      refine zv_iconst (v := 0) dX4_leave_24 (by decide) ?_
      refine zr_cVi (ci := 1) (st := [.ref l0]) dX4_leave_25 mw_X1_reference wd_1151 wd_1152 wd_1153 rfl rfl [.int (0 : Int32)] rfl rfl (Nat.le_of_ble_eq_true rfl) (show d - 1 + 1 ≤ d by omega) h (fun o42 e43 => tX1_reference (d := d - 1) (by omega) e43) (fun o42 e43 h => ?_)
      refine zr_if_ne (tgt := 35) dX4_leave_28 (by decide) h (fun c44 h => ?_) (fun c44 h => ?_)
      · refine zv_lconst (v := 1) dX4_leave_35 (by decide) ?_
        exact zv_fewer [] rfl (kX4_leave_36 hd _ _ _ h)
      · refine zv_lconst (v := 0) dX4_leave_31 (by decide) ?_
        refine zv_goto (tgt := 36) dX4_leave_32 (by decide) ?_
        exact zv_fewer [] rfl (kX4_leave_36 hd _ _ _ h)
def mX4_leave (N : Nat) (a0 : Nat) (a1 : Int32) (x : zv_X) : Option (zv_X × Int32) := mX4_leave_0 N a0 a1 x
theorem tX4_leave {d : Nat} (hd : 2 ≤ d) {N : Nat} {x : zv_X} {a0 : Nat} {a1 : Int32} {o : (zv_X × Int32)} (h : mX4_leave N a0 a1 x = some o) : zv_T d yX4_leave cX4_leave 3 ((some .int)) [.ref a0, .int a1] x o.1 (some (.int o.2)) := by
  unfold mX4_leave at h
  exact zv_enter (by decide) (Nat.le_of_ble_eq_true rfl) (kX4_leave_0 hd _ _ _ h)
