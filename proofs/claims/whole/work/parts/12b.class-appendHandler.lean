abbrev fJxa1e45_init_da8c8 (d : Nat) (x0 : zv_X) (o : zv_X) : zv_G := (d, RJxa1e45, cJxa1e45_init_da8c8, 1, none, ("<init>", []), x0, o, zv_fin x0 o none)
def mJxa1e45_init_da8c8_0 (N : Nat) (l0 : Nat) (x : zv_X) : Option zv_X := some x
theorem kJxa1e45_init_da8c8_0 {d : Nat} {x0 : zv_X} {o : zv_X} (hd : 1 ≤ d) {N : Nat} (l0 : Nat) (x : zv_X) (h : mJxa1e45_init_da8c8_0 N l0 x = some o) : zv_V (fJxa1e45_init_da8c8 d x0 o) 0 [(0, .ref l0)] [] x := by
  unfold mJxa1e45_init_da8c8_0 at h
  refine zv_aload_n (n := 0) dJxa1e45_init_da8c8_0 rfl rfl ?_
  refine zv_obj dJxa1e45_init_da8c8_1 wd_190 wd_130 wd_131 (show 1 ≤ d by omega) (Nat.le_of_ble_eq_true rfl) ?_
  cases h
  exact zv_vret dJxa1e45_init_da8c8_4 rfl
def mJxa1e45_init_da8c8 (N : Nat) (a0 : Nat) (x : zv_X) : Option zv_X := mJxa1e45_init_da8c8_0 N a0 x
theorem tJxa1e45_init_da8c8 {d : Nat} (hd : 1 ≤ d) {N : Nat} {x : zv_X} {a0 : Nat} {o : zv_X} (h : mJxa1e45_init_da8c8 N a0 x = some o) : zv_T d yJxa1e45_init_da8c8 cJxa1e45_init_da8c8 1 (none) [.ref a0] x o none := by
  unfold mJxa1e45_init_da8c8 at h
  exact zv_enter (by decide) (Nat.le_of_ble_eq_true rfl) (kJxa1e45_init_da8c8_0 hd _ _ h)

abbrev fJxc12de_init_da8c8 (d : Nat) (x0 : zv_X) (o : zv_X) : zv_G := (d, RJxc12de, cJxc12de_init_da8c8, 1, none, ("<init>", []), x0, o, zv_fin x0 o none)
def mJxc12de_init_da8c8_0 (N : Nat) (l0 : Nat) (x : zv_X) : Option zv_X := (mJxa1e45_init_da8c8 N l0 x).bind fun o1 => (zm_p o1 l0 5 0 (.int (0 : Int32))).bind fun x3 => some x3
theorem kJxc12de_init_da8c8_0 {d : Nat} {x0 : zv_X} {o : zv_X} (hd : 2 ≤ d) {N : Nat} (l0 : Nat) (x : zv_X) (h : mJxc12de_init_da8c8_0 N l0 x = some o) : zv_V (fJxc12de_init_da8c8 d x0 o) 0 [(0, .ref l0)] [] x := by
  unfold mJxc12de_init_da8c8_0 at h
  refine zv_aload_n (n := 0) dJxc12de_init_da8c8_0 rfl rfl ?_
  refine zr_cI (st := []) dJxc12de_init_da8c8_1 mw_Jxa1e45_init_da8c8 wd_187 wd_188 rfl [] rfl rfl (Nat.le_of_ble_eq_true rfl) (show d - 1 + 1 ≤ d by omega) h (fun o1 e2 => tJxa1e45_init_da8c8 (d := d - 1) (by omega) e2) (fun o1 e2 h => ?_)
  refine zv_aload_n (n := 0) dJxc12de_init_da8c8_4 rfl rfl ?_
  refine zv_iconst (v := 0) dJxc12de_init_da8c8_5 (by decide) ?_
  refine zr_p dJxc12de_init_da8c8_6 fl_195 (fun q => nomatch q) rfl rfl h (fun x3 e4 h => ?_)
  cases h
  exact zv_vret dJxc12de_init_da8c8_9 rfl
def mJxc12de_init_da8c8 (N : Nat) (a0 : Nat) (x : zv_X) : Option zv_X := mJxc12de_init_da8c8_0 N a0 x
theorem tJxc12de_init_da8c8 {d : Nat} (hd : 2 ≤ d) {N : Nat} {x : zv_X} {a0 : Nat} {o : zv_X} (h : mJxc12de_init_da8c8 N a0 x = some o) : zv_T d yJxc12de_init_da8c8 cJxc12de_init_da8c8 1 (none) [.ref a0] x o none := by
  unfold mJxc12de_init_da8c8 at h
  exact zv_enter (by decide) (Nat.le_of_ble_eq_true rfl) (kJxc12de_init_da8c8_0 hd _ _ h)

abbrev fJx4a65c_init_da8c8 (d : Nat) (x0 : zv_X) (o : zv_X) : zv_G := (d, RJx4a65c, cJx4a65c_init_da8c8, 1, none, ("<init>", []), x0, o, zv_fin x0 o none)
def mJx4a65c_init_da8c8_0 (N : Nat) (l0 : Nat) (x : zv_X) : Option zv_X := (mJxc12de_init_da8c8 N l0 x).bind fun o1 => (zm_p o1 l0 5 1 (.ref o1.2.2.2.1)).bind fun x3 => some x3
theorem kJx4a65c_init_da8c8_0 {d : Nat} {x0 : zv_X} {o : zv_X} (hd : 3 ≤ d) {N : Nat} (l0 : Nat) (x : zv_X) (h : mJx4a65c_init_da8c8_0 N l0 x = some o) : zv_V (fJx4a65c_init_da8c8 d x0 o) 0 [(0, .ref l0)] [] x := by
  unfold mJx4a65c_init_da8c8_0 at h
  refine zv_aload_n (n := 0) dJx4a65c_init_da8c8_0 rfl rfl ?_
  refine zr_cI (st := []) dJx4a65c_init_da8c8_1 mw_Jxc12de_init_da8c8 wd_184 wd_185 rfl [] rfl rfl (Nat.le_of_ble_eq_true rfl) (show d - 1 + 1 ≤ d by omega) h (fun o1 e2 => tJxc12de_init_da8c8 (d := d - 1) (by omega) e2) (fun o1 e2 h => ?_)
  refine zv_aload_n (n := 0) dJx4a65c_init_da8c8_4 rfl rfl ?_
  refine zv_gets dJx4a65c_init_da8c8_5 wd_191 ?_
  refine zr_p dJx4a65c_init_da8c8_8 fl_193 (fun q => nomatch q) rfl rfl h (fun x3 e4 h => ?_)
  cases h
  exact zv_vret dJx4a65c_init_da8c8_11 rfl
def mJx4a65c_init_da8c8 (N : Nat) (a0 : Nat) (x : zv_X) : Option zv_X := mJx4a65c_init_da8c8_0 N a0 x
theorem tJx4a65c_init_da8c8 {d : Nat} (hd : 3 ≤ d) {N : Nat} {x : zv_X} {a0 : Nat} {o : zv_X} (h : mJx4a65c_init_da8c8 N a0 x = some o) : zv_T d yJx4a65c_init_da8c8 cJx4a65c_init_da8c8 1 (none) [.ref a0] x o none := by
  unfold mJx4a65c_init_da8c8 at h
  exact zv_enter (by decide) (Nat.le_of_ble_eq_true rfl) (kJx4a65c_init_da8c8_0 hd _ _ h)

abbrev fX0_init (d : Nat) (x0 : zv_X) (o : zv_X) : zv_G := (d, RX0, cX0_init, 1, none, ("<init>", []), x0, o, zv_fin x0 o none)
def mX0_init_0 (N : Nat) (l0 : Nat) (x : zv_X) : Option zv_X := (zm_na 2 x (200 : Int32)).bind fun x1 => (zm_p x1 l0 0 0 (.ref x.2.1)).bind fun x3 => (zm_na 0 x3 (32 : Int32)).bind fun x5 => (zm_p x5 l0 0 1 (.ref x3.2.1)).bind fun x7 => some x7
theorem kX0_init_0 {d : Nat} {x0 : zv_X} {o : zv_X} (hd : 1 ≤ d) {N : Nat} (l0 : Nat) (x : zv_X) (h : mX0_init_0 N l0 x = some o) : zv_V (fX0_init d x0 o) 0 [(0, .ref l0)] [] x := by
  unfold mX0_init_0 at h
  refine zv_aload_n (n := 0) dX0_init_0 rfl rfl ?_
  refine zv_obj dX0_init_1 wd_162 wd_130 wd_131 (show 1 ≤ d by omega) (Nat.le_of_ble_eq_true rfl) ?_
  refine zv_aload_n (n := 0) dX0_init_4 rfl rfl ?_
  refine zv_sipush (v := 200) dX0_init_5 (by decide) ?_
  refine zr_nB dX0_init_8 wd_178 h (fun x1 e2 h => ?_)
  refine zr_p dX0_init_10 fl_163 (fun _ => rfl) rfl rfl h (fun x3 e4 h => ?_)
  refine zv_aload_n (n := 0) dX0_init_13 rfl rfl ?_
  refine zv_bipush (v := 32) dX0_init_14 (by decide) ?_
  refine zr_nI dX0_init_16 wd_156 h (fun x5 e6 h => ?_)
  refine zr_p dX0_init_18 fl_164 (fun _ => rfl) rfl rfl h (fun x7 e8 h => ?_)
  cases h
  exact zv_vret dX0_init_21 rfl
def mX0_init (N : Nat) (a0 : Nat) (x : zv_X) : Option zv_X := mX0_init_0 N a0 x
theorem tX0_init {d : Nat} (hd : 1 ≤ d) {N : Nat} {x : zv_X} {a0 : Nat} {o : zv_X} (h : mX0_init N a0 x = some o) : zv_T d yX0_init cX0_init 1 (none) [.ref a0] x o none := by
  unfold mX0_init at h
  exact zv_enter (by decide) (Nat.le_of_ble_eq_true rfl) (kX0_init_0 hd _ _ h)

abbrev fX3_init (d : Nat) (x0 : zv_X) (o : zv_X) : zv_G := (d, RX3, cX3_init, 3, none, ("<init>", []), x0, o, zv_fin x0 o none)
def mX3_init_0 (N : Nat) (l0 : Nat) (l1 : Nat) (l2 : Nat) (x : zv_X) : Option zv_X := (zm_na 3 x (200 : Int32)).bind fun x1 => (zm_p x1 l0 3 2 (.ref x.2.1)).bind fun x3 => (zm_na 3 x3 (200 : Int32)).bind fun x5 => (zm_p x5 l0 3 3 (.ref x3.2.1)).bind fun x7 => (zm_na 0 x7 (200 : Int32)).bind fun x9 => (zm_p x9 l0 3 4 (.ref x7.2.1)).bind fun x11 => (zm_na 0 x11 (200 : Int32)).bind fun x13 => (zm_p x13 l0 3 5 (.ref x11.2.1)).bind fun x15 => (zm_na 0 x15 (200 : Int32)).bind fun x17 => (zm_p x17 l0 3 6 (.ref x15.2.1)).bind fun x19 => (zm_p x19 l0 3 0 (.ref l1)).bind fun x21 => (zm_p x21 l0 3 1 (.ref l2)).bind fun x23 => some x23
theorem kX3_init_0 {d : Nat} {x0 : zv_X} {o : zv_X} (hd : 1 ≤ d) {N : Nat} (l0 : Nat) (l1 : Nat) (l2 : Nat) (x : zv_X) (h : mX3_init_0 N l0 l1 l2 x = some o) : zv_V (fX3_init d x0 o) 0 [(0, .ref l0), (1, .ref l1), (2, .ref l2)] [] x := by
  unfold mX3_init_0 at h
  refine zv_aload_n (n := 0) dX3_init_0 rfl rfl ?_
  refine zv_obj dX3_init_1 wd_210 wd_130 wd_131 (show 1 ≤ d by omega) (Nat.le_of_ble_eq_true rfl) ?_
  refine zv_aload_n (n := 0) dX3_init_4 rfl rfl ?_
  refine zv_sipush (v := 200) dX3_init_5 (by decide) ?_
  refine zr_nZ dX3_init_8 wd_248 h (fun x1 e2 h => ?_)
  refine zr_p dX3_init_10 fl_213 (fun _ => rfl) rfl rfl h (fun x3 e4 h => ?_)
  refine zv_aload_n (n := 0) dX3_init_13 rfl rfl ?_
  refine zv_sipush (v := 200) dX3_init_14 (by decide) ?_
  refine zr_nZ dX3_init_17 wd_248 h (fun x5 e6 h => ?_)
  refine zr_p dX3_init_19 fl_214 (fun _ => rfl) rfl rfl h (fun x7 e8 h => ?_)
  refine zv_aload_n (n := 0) dX3_init_22 rfl rfl ?_
  refine zv_sipush (v := 200) dX3_init_23 (by decide) ?_
  refine zr_nI dX3_init_26 wd_156 h (fun x9 e10 h => ?_)
  refine zr_p dX3_init_28 fl_215 (fun _ => rfl) rfl rfl h (fun x11 e12 h => ?_)
  refine zv_aload_n (n := 0) dX3_init_31 rfl rfl ?_
  refine zv_sipush (v := 200) dX3_init_32 (by decide) ?_
  refine zr_nI dX3_init_35 wd_156 h (fun x13 e14 h => ?_)
  refine zr_p dX3_init_37 fl_216 (fun _ => rfl) rfl rfl h (fun x15 e16 h => ?_)
  refine zv_aload_n (n := 0) dX3_init_40 rfl rfl ?_
  refine zv_sipush (v := 200) dX3_init_41 (by decide) ?_
  refine zr_nI dX3_init_44 wd_156 h (fun x17 e18 h => ?_)
  refine zr_p dX3_init_46 fl_217 (fun _ => rfl) rfl rfl h (fun x19 e20 h => ?_)
  refine zv_aload_n (n := 0) dX3_init_49 rfl rfl ?_
  refine zv_aload_n (n := 1) dX3_init_50 rfl rfl ?_
  refine zr_p dX3_init_51 fl_211 (fun _ => rfl) rfl rfl h (fun x21 e22 h => ?_)
  refine zv_aload_n (n := 0) dX3_init_54 rfl rfl ?_
  refine zv_aload_n (n := 2) dX3_init_55 rfl rfl ?_
  refine zr_p dX3_init_56 fl_212 (fun _ => rfl) rfl rfl h (fun x23 e24 h => ?_)
  cases h
  exact zv_vret dX3_init_59 rfl
def mX3_init (N : Nat) (a0 : Nat) (a1 : Nat) (a2 : Nat) (x : zv_X) : Option zv_X := mX3_init_0 N a0 a1 a2 x
theorem tX3_init {d : Nat} (hd : 1 ≤ d) {N : Nat} {x : zv_X} {a0 : Nat} {a1 : Nat} {a2 : Nat} {o : zv_X} (h : mX3_init N a0 a1 a2 x = some o) : zv_T d yX3_init cX3_init 3 (none) [.ref a0, .ref a1, .ref a2] x o none := by
  unfold mX3_init at h
  exact zv_enter (by decide) (Nat.le_of_ble_eq_true rfl) (kX3_init_0 hd _ _ _ _ h)

abbrev fX1_init (d : Nat) (x0 : zv_X) (o : zv_X) : zv_G := (d, RX1, cX1_init, 2, none, ("<init>", []), x0, o, zv_fin x0 o none)
def mX1_init_0 (N : Nat) (l0 : Nat) (l1 : Nat) (x : zv_X) : Option zv_X := (zm_nL x (28 : Int32)).bind fun x1 => (zm_p x1 l0 1 0 (.ref x.2.1)).bind fun x3 => (zm_na 0 x3 (28 : Int32)).bind fun x5 => (zm_p x5 l0 1 1 (.ref x3.2.1)).bind fun x7 => (zm_p x7 l0 1 2 (.int (16 : Int32))).bind fun x9 => (zm_p x9 l0 1 3 (.ref l1)).bind fun x11 => some x11
theorem kX1_init_0 {d : Nat} {x0 : zv_X} {o : zv_X} (hd : 1 ≤ d) {N : Nat} (l0 : Nat) (l1 : Nat) (x : zv_X) (h : mX1_init_0 N l0 l1 x = some o) : zv_V (fX1_init d x0 o) 0 [(0, .ref l0), (1, .ref l1)] [] x := by
  unfold mX1_init_0 at h
  refine zv_aload_n (n := 0) dX1_init_0 rfl rfl ?_
  refine zv_obj dX1_init_1 wd_347 wd_130 wd_131 (show 1 ≤ d by omega) (Nat.le_of_ble_eq_true rfl) ?_
  refine zv_aload_n (n := 0) dX1_init_4 rfl rfl ?_
  refine zv_bipush (v := 28) dX1_init_5 (by decide) ?_
  refine zr_nL dX1_init_7 wd_365 h (fun x1 e2 h => ?_)
  refine zr_p dX1_init_9 fl_348 (fun _ => rfl) rfl rfl h (fun x3 e4 h => ?_)
  refine zv_aload_n (n := 0) dX1_init_12 rfl rfl ?_
  refine zv_bipush (v := 28) dX1_init_13 (by decide) ?_
  refine zr_nI dX1_init_15 wd_156 h (fun x5 e6 h => ?_)
  refine zr_p dX1_init_17 fl_349 (fun _ => rfl) rfl rfl h (fun x7 e8 h => ?_)
  refine zv_aload_n (n := 0) dX1_init_20 rfl rfl ?_
  refine zv_bipush (v := 16) dX1_init_21 (by decide) ?_
  refine zr_p dX1_init_23 fl_350 (fun q => nomatch q) rfl rfl h (fun x9 e10 h => ?_)
  refine zv_aload_n (n := 0) dX1_init_26 rfl rfl ?_
  refine zv_aload_n (n := 1) dX1_init_27 rfl rfl ?_
  refine zr_p dX1_init_28 fl_351 (fun q => nomatch q) rfl rfl h (fun x11 e12 h => ?_)
  cases h
  exact zv_vret dX1_init_31 rfl
def mX1_init (N : Nat) (a0 : Nat) (a1 : Nat) (x : zv_X) : Option zv_X := mX1_init_0 N a0 a1 x
theorem tX1_init {d : Nat} (hd : 1 ≤ d) {N : Nat} {x : zv_X} {a0 : Nat} {a1 : Nat} {o : zv_X} (h : mX1_init N a0 a1 x = some o) : zv_T d yX1_init cX1_init 2 (none) [.ref a0, .ref a1] x o none := by
  unfold mX1_init at h
  exact zv_enter (by decide) (Nat.le_of_ble_eq_true rfl) (kX1_init_0 hd _ _ _ h)

abbrev fX2_init (d : Nat) (x0 : zv_X) (o : zv_X) : zv_G := (d, RX2, cX2_init, 5, none, ("<init>", []), x0, o, zv_fin x0 o none)
def mX2_init_64 (N : Nat) : Nat → Nat → Int32 → Int32 → zv_X → Option zv_X
  | 0, _, _, _, _ => none
  | n + 1, l0, l3, l4, x => if l3 ≤ l4 then (some x) else ((zm_R x l0 2 5).bind fun v1 => (zm_sI x v1 l4 (l4 + (1 : Int32))).bind fun x3 => mX2_init_64 N n l0 l3 (l4 + (1)) x3)
theorem kX2_init_64 {d : Nat} {x0 : zv_X} {o : zv_X} (hd : 1 ≤ d) {N : Nat} : ∀ (n : Nat) (l0 : Nat) (l3 : Int32) (l4 : Int32) (x : zv_X), mX2_init_64 N n l0 l3 l4 x = some o → zv_V (fX2_init d x0 o) 64 [(0, .ref l0), (3, .int l3), (4, .int l4)] [] x := by
  intro n
  induction n with
  | zero => intro l0 l3 l4 x h; cases h
  | succ n ih =>
    intro l0 l3 l4 x h
    unfold mX2_init_64 at h
    refine zv_iload (n := 2) dX2_init_64 rfl ?_
    refine zv_iload_n (n := 1) dX2_init_66 rfl rfl ?_
    refine zr_icmp_ge (tgt := 87) dX2_init_67 (by decide) h (fun c5 h => ?_) (fun c5 h => ?_)
    · cases h
      exact zv_vret dX2_init_87 rfl
    · refine zv_aload_n (n := 0) dX2_init_70 rfl rfl ?_
      refine zr_gR dX2_init_71 fg_272 h (fun v1 e2 h => ?_)
      refine zv_iload (n := 2) dX2_init_74 rfl ?_
      refine zv_iload (n := 2) dX2_init_76 rfl ?_
      refine zv_iconst (v := 1) dX2_init_78 (by decide) ?_
      refine zv_iadd dX2_init_79 ?_
      refine zr_sI dX2_init_80 h (fun x3 e4 h => ?_)
      refine zv_iinc (n := 2) (v := l4 + (1)) (L' := [(4, .int (l4 + (1))), (0, .ref l0), (3, .int l3)]) dX2_init_81 rfl rfl (Nat.le_of_ble_eq_true rfl) rfl ?_
      refine zv_goto (tgt := 64) dX2_init_84 (by decide) ?_
      exact zv_fewer [1, 2, 0] rfl (ih _ _ _ _ h)
def mX2_init_0 (N : Nat) (l0 : Nat) (l1 : Nat) (l2 : Int32) (x : zv_X) : Option zv_X := (zm_p x l0 2 0 (.ref l1)).bind fun x1 => (zm_na 0 x1 l2).bind fun x3 => (zm_p x3 l0 2 1 (.ref x1.2.1)).bind fun x5 => (zm_na 0 x5 ((l2 / (2 : Int32)) + (1 : Int32))).bind fun x7 => (zm_p x7 l0 2 2 (.ref x5.2.1)).bind fun x9 => (zm_na 0 x9 ((l2 / (2 : Int32)) + (1 : Int32))).bind fun x11 => (zm_p x11 l0 2 3 (.ref x9.2.1)).bind fun x13 => (zm_na 0 x13 ((l2 / (2 : Int32)) + (1 : Int32))).bind fun x15 => (zm_p x15 l0 2 4 (.ref x13.2.1)).bind fun x17 => (zm_na 0 x17 (l2 / (2 : Int32))).bind fun x19 => (zm_p x19 l0 2 5 (.ref x17.2.1)).bind fun x21 => (zm_na 0 x21 (l2 / (2 : Int32))).bind fun x23 => (zm_p x23 l0 2 6 (.ref x21.2.1)).bind fun x25 => mX2_init_64 N N l0 (l2 / (2 : Int32)) (0 : Int32) x25
theorem kX2_init_0 {d : Nat} {x0 : zv_X} {o : zv_X} (hd : 1 ≤ d) {N : Nat} (l0 : Nat) (l1 : Nat) (l2 : Int32) (x : zv_X) (h : mX2_init_0 N l0 l1 l2 x = some o) : zv_V (fX2_init d x0 o) 0 [(0, .ref l0), (1, .ref l1), (2, .int l2)] [] x := by
  unfold mX2_init_0 at h
  refine zv_aload_n (n := 0) dX2_init_0 rfl rfl ?_
  refine zv_obj dX2_init_1 wd_266 wd_130 wd_131 (show 1 ≤ d by omega) (Nat.le_of_ble_eq_true rfl) ?_
  refine zv_aload_n (n := 0) dX2_init_4 rfl rfl ?_
  refine zv_aload_n (n := 1) dX2_init_5 rfl rfl ?_
  refine zr_p dX2_init_6 fl_267 (fun _ => rfl) rfl rfl h (fun x1 e2 h => ?_)
  refine zv_iload_n (n := 2) dX2_init_9 rfl rfl ?_
  refine zv_iconst (v := 2) dX2_init_10 (by decide) ?_
  refine zv_idiv dX2_init_11 (by decide) ?_
  refine zv_istore_n (L' := [(3, .int (l2 / (2 : Int32))), (0, .ref l0), (1, .ref l1), (2, .int l2)]) dX2_init_12 rfl (Nat.le_of_ble_eq_true rfl) rfl ?_
  refine zv_aload_n (n := 1) dX2_init_13 rfl rfl ?_
  refine zv_iload_n (n := 3) dX2_init_14 rfl rfl ?_
  refine zr_nI dX2_init_15 wd_156 h (fun x3 e4 h => ?_)
  refine zr_p dX2_init_17 fl_268 (fun _ => rfl) rfl rfl h (fun x5 e6 h => ?_)
  refine zv_aload_n (n := 1) dX2_init_20 rfl rfl ?_
  refine zv_iload_n (n := 0) dX2_init_21 rfl rfl ?_
  refine zv_iconst (v := 1) dX2_init_22 (by decide) ?_
  refine zv_iadd dX2_init_23 ?_
  refine zr_nI dX2_init_24 wd_156 h (fun x7 e8 h => ?_)
  refine zr_p dX2_init_26 fl_269 (fun _ => rfl) rfl rfl h (fun x9 e10 h => ?_)
  refine zv_aload_n (n := 1) dX2_init_29 rfl rfl ?_
  refine zv_iload_n (n := 0) dX2_init_30 rfl rfl ?_
  refine zv_iconst (v := 1) dX2_init_31 (by decide) ?_
  refine zv_iadd dX2_init_32 ?_
  refine zr_nI dX2_init_33 wd_156 h (fun x11 e12 h => ?_)
  refine zr_p dX2_init_35 fl_270 (fun _ => rfl) rfl rfl h (fun x13 e14 h => ?_)
  refine zv_aload_n (n := 1) dX2_init_38 rfl rfl ?_
  refine zv_iload_n (n := 0) dX2_init_39 rfl rfl ?_
  refine zv_iconst (v := 1) dX2_init_40 (by decide) ?_
  refine zv_iadd dX2_init_41 ?_
  refine zr_nI dX2_init_42 wd_156 h (fun x15 e16 h => ?_)
  refine zr_p dX2_init_44 fl_271 (fun _ => rfl) rfl rfl h (fun x17 e18 h => ?_)
  refine zv_aload_n (n := 1) dX2_init_47 rfl rfl ?_
  refine zv_iload_n (n := 0) dX2_init_48 rfl rfl ?_
  refine zr_nI dX2_init_49 wd_156 h (fun x19 e20 h => ?_)
  refine zr_p dX2_init_51 fl_272 (fun _ => rfl) rfl rfl h (fun x21 e22 h => ?_)
  refine zv_aload_n (n := 1) dX2_init_54 rfl rfl ?_
  refine zv_iload_n (n := 0) dX2_init_55 rfl rfl ?_
  refine zr_nI dX2_init_56 wd_156 h (fun x23 e24 h => ?_)
  refine zr_p dX2_init_58 fl_273 (fun _ => rfl) rfl rfl h (fun x25 e26 h => ?_)
  refine zv_iconst (v := 0) dX2_init_61 (by decide) ?_
  refine zv_istore (L' := [(4, .int (0 : Int32)), (3, .int (l2 / (2 : Int32))), (0, .ref l0), (1, .ref l1), (2, .int l2)]) dX2_init_62 (Nat.le_of_ble_eq_true rfl) rfl ?_
  exact zv_fewer [2, 1, 0] rfl (kX2_init_64 hd N _ _ _ _ h)
def mX2_init (N : Nat) (a0 : Nat) (a1 : Nat) (a2 : Int32) (x : zv_X) : Option zv_X := mX2_init_0 N a0 a1 a2 x
theorem tX2_init {d : Nat} (hd : 1 ≤ d) {N : Nat} {x : zv_X} {a0 : Nat} {a1 : Nat} {a2 : Int32} {o : zv_X} (h : mX2_init N a0 a1 a2 x = some o) : zv_T d yX2_init cX2_init 5 (none) [.ref a0, .ref a1, .int a2] x o none := by
  unfold mX2_init at h
  exact zv_enter (by decide) (Nat.le_of_ble_eq_true rfl) (kX2_init_0 hd _ _ _ _ h)

abbrev fX8_argumentsIn (d : Nat) (x0 : zv_X) (o : (zv_X × Int32)) : zv_G := (d, RX8, cX8_argumentsIn, 2, (some .int), ("argumentsIn", []), x0, o.1, zv_fin x0 o.1 (some (.int o.2)))
def mX8_argumentsIn_23 (N : Nat) (l1 : Int32) (x : zv_X) : Option (zv_X × Int32) := some (x, l1)
theorem kX8_argumentsIn_23 {d : Nat} {x0 : zv_X} {o : (zv_X × Int32)} (hd : 0 ≤ d) {N : Nat} (l1 : Int32) (x : zv_X) (h : mX8_argumentsIn_23 N l1 x = some o) : zv_V (fX8_argumentsIn d x0 o) 23 [(1, .int l1)] [] x := by
  unfold mX8_argumentsIn_23 at h
  refine zv_iload_n (n := 0) dX8_argumentsIn_23 rfl rfl ?_
  cases h
  exact zv_iret dX8_argumentsIn_24 rfl
def mX8_argumentsIn_2 (N : Nat) : Nat → Int32 → Int32 → zv_X → Option (zv_X × Int32)
  | 0, _, _, _ => none
  | n + 1, l0, l1, x => if (4 : Int32) ≤ l1 then (mX8_argumentsIn_23 N l1 x) else (if ((l0 >>> (((2 : Int32) * l1) &&& 31)) &&& (3 : Int32)) = 0 then (mX8_argumentsIn_23 N l1 x) else (mX8_argumentsIn_2 N n l0 (l1 + (1)) x))
theorem kX8_argumentsIn_2 {d : Nat} {x0 : zv_X} {o : (zv_X × Int32)} (hd : 0 ≤ d) {N : Nat} : ∀ (n : Nat) (l0 : Int32) (l1 : Int32) (x : zv_X), mX8_argumentsIn_2 N n l0 l1 x = some o → zv_V (fX8_argumentsIn d x0 o) 2 [(0, .int l0), (1, .int l1)] [] x := by
  intro n
  induction n with
  | zero => intro l0 l1 x h; cases h
  | succ n ih =>
    intro l0 l1 x h
    unfold mX8_argumentsIn_2 at h
    refine zv_iload_n (n := 1) dX8_argumentsIn_2 rfl rfl ?_
    refine zv_iconst (v := 4) dX8_argumentsIn_3 (by decide) ?_
    refine zr_icmp_ge (tgt := 23) dX8_argumentsIn_4 (by decide) h (fun c2 h => ?_) (fun c2 h => ?_)
    · exact zv_fewer [1] rfl (kX8_argumentsIn_23 hd _ _ h)
    · refine zv_iload_n (n := 0) dX8_argumentsIn_7 rfl rfl ?_
      refine zv_iconst (v := 2) dX8_argumentsIn_8 (by decide) ?_
      refine zv_iload_n (n := 1) dX8_argumentsIn_9 rfl rfl ?_
      refine zv_imul dX8_argumentsIn_10 ?_
      refine zv_ishr dX8_argumentsIn_11 ?_
      refine zv_iconst (v := 3) dX8_argumentsIn_12 (by decide) ?_
      refine zv_iand dX8_argumentsIn_13 ?_
      refine zr_if_eq (tgt := 23) dX8_argumentsIn_14 (by decide) h (fun c1 h => ?_) (fun c1 h => ?_)
      · exact zv_fewer [1] rfl (kX8_argumentsIn_23 hd _ _ h)
      · refine zv_iinc (n := 1) (v := l1 + (1)) (L' := [(1, .int (l1 + (1))), (0, .int l0)]) dX8_argumentsIn_17 rfl rfl (Nat.le_of_ble_eq_true rfl) rfl ?_
        refine zv_goto (tgt := 2) dX8_argumentsIn_20 (by decide) ?_
        exact zv_fewer [1, 0] rfl (ih _ _ _ h)
def mX8_argumentsIn_0 (N : Nat) (l0 : Int32) (x : zv_X) : Option (zv_X × Int32) := mX8_argumentsIn_2 N N l0 (0 : Int32) x
theorem kX8_argumentsIn_0 {d : Nat} {x0 : zv_X} {o : (zv_X × Int32)} (hd : 0 ≤ d) {N : Nat} (l0 : Int32) (x : zv_X) (h : mX8_argumentsIn_0 N l0 x = some o) : zv_V (fX8_argumentsIn d x0 o) 0 [(0, .int l0)] [] x := by
  unfold mX8_argumentsIn_0 at h
  refine zv_iconst (v := 0) dX8_argumentsIn_0 (by decide) ?_
  refine zv_istore_n (L' := [(1, .int (0 : Int32)), (0, .int l0)]) dX8_argumentsIn_1 rfl (Nat.le_of_ble_eq_true rfl) rfl ?_
  exact zv_fewer [1, 0] rfl (kX8_argumentsIn_2 hd N _ _ _ h)
def mX8_argumentsIn (N : Nat) (a0 : Int32) (x : zv_X) : Option (zv_X × Int32) := mX8_argumentsIn_0 N a0 x
theorem tX8_argumentsIn {d : Nat} (hd : 0 ≤ d) {N : Nat} {x : zv_X} {a0 : Int32} {o : (zv_X × Int32)} (h : mX8_argumentsIn N a0 x = some o) : zv_T d yX8_argumentsIn cX8_argumentsIn 2 ((some .int)) [.int a0] x o.1 (some (.int o.2)) := by
  unfold mX8_argumentsIn at h
  exact zv_enter (by decide) (Nat.le_of_ble_eq_true rfl) (kX8_argumentsIn_0 hd _ _ h)

abbrev fX6_init (d : Nat) (x0 : zv_X) (o : zv_X) : zv_G := (d, RX6, cX6_init, 7, none, ("<init>", []), x0, o, zv_fin x0 o none)
def mX6_init_0 (N : Nat) (l0 : Nat) (l1 : Nat) (l2 : Nat) (l3 : Int32) (l4 : Int32) (l5 : Int32) (l6 : Int32) (x : zv_X) : Option zv_X := (zm_p x l0 6 0 (.ref l1)).bind fun x1 => (zm_p x1 l0 6 1 (.ref l2)).bind fun x3 => (mX8_argumentsIn N l3 x3).bind fun o5 => (zm_p o5.1 l0 6 2 (.int o5.2)).bind fun x7 => (zm_I x7 l0 6 2).bind fun v9 => (zm_p x7 l0 6 3 (.int (l3 &&& (((1 : Int32) <<< (((2 : Int32) * v9) &&& 31)) - (1 : Int32))))).bind fun x11 => (zm_p x11 l0 6 4 (.int l4)).bind fun x13 => (zm_p x13 l0 6 5 (.int l5)).bind fun x15 => (zm_p x15 l0 6 6 (.int l6)).bind fun x17 => some x17
theorem kX6_init_0 {d : Nat} {x0 : zv_X} {o : zv_X} (hd : 1 ≤ d) {N : Nat} (l0 : Nat) (l1 : Nat) (l2 : Nat) (l3 : Int32) (l4 : Int32) (l5 : Int32) (l6 : Int32) (x : zv_X) (h : mX6_init_0 N l0 l1 l2 l3 l4 l5 l6 x = some o) : zv_V (fX6_init d x0 o) 0 [(0, .ref l0), (1, .ref l1), (2, .ref l2), (3, .int l3), (4, .int l4), (5, .int l5), (6, .int l6)] [] x := by
  unfold mX6_init_0 at h
  refine zv_aload_n (n := 0) dX6_init_0 rfl rfl ?_
  refine zv_obj dX6_init_1 wd_308 wd_130 wd_131 (show 1 ≤ d by omega) (Nat.le_of_ble_eq_true rfl) ?_
  refine zv_aload_n (n := 0) dX6_init_4 rfl rfl ?_
  refine zv_aload_n (n := 1) dX6_init_5 rfl rfl ?_
  refine zr_p dX6_init_6 fl_312 (fun _ => rfl) rfl rfl h (fun x1 e2 h => ?_)
  refine zv_aload_n (n := 0) dX6_init_9 rfl rfl ?_
  refine zv_aload_n (n := 2) dX6_init_10 rfl rfl ?_
  refine zr_p dX6_init_11 fl_314 (fun _ => rfl) rfl rfl h (fun x3 e4 h => ?_)
  refine zv_aload_n (n := 0) dX6_init_14 rfl rfl ?_
  refine zv_iload_n (n := 3) dX6_init_15 rfl rfl ?_
  refine zr_cSNi (st := [.ref l0]) dX6_init_16 mw_X8_argumentsIn ⟨rfl, rfl, rfl⟩ wd_310 [.int l3] rfl rfl (Nat.le_of_ble_eq_true rfl) (show d - 1 + 1 ≤ d by omega) h (fun o5 e6 => tX8_argumentsIn (d := d - 1) (by omega) e6) (fun o5 e6 h => ?_)
  refine zr_p dX6_init_19 fl_316 (fun _ => rfl) rfl rfl h (fun x7 e8 h => ?_)
  refine zv_aload_n (n := 0) dX6_init_22 rfl rfl ?_
  refine zv_iload_n (n := 3) dX6_init_23 rfl rfl ?_
  refine zv_iconst (v := 1) dX6_init_24 (by decide) ?_
  refine zv_iconst (v := 2) dX6_init_25 (by decide) ?_
  refine zv_aload_n (n := 0) dX6_init_26 rfl rfl ?_
  refine zr_gI dX6_init_27 fg_316 h (fun v9 e10 h => ?_)
  refine zv_imul dX6_init_30 ?_
  refine zv_ishl dX6_init_31 ?_
  refine zv_iconst (v := 1) dX6_init_32 (by decide) ?_
  refine zv_isub dX6_init_33 ?_
  refine zv_iand dX6_init_34 ?_
  refine zr_p dX6_init_35 fl_320 (fun _ => rfl) rfl rfl h (fun x11 e12 h => ?_)
  refine zv_aload_n (n := 0) dX6_init_38 rfl rfl ?_
  refine zv_iload (n := 4) dX6_init_39 rfl ?_
  refine zr_p dX6_init_41 fl_322 (fun _ => rfl) rfl rfl h (fun x13 e14 h => ?_)
  refine zv_aload_n (n := 0) dX6_init_44 rfl rfl ?_
  refine zv_iload (n := 5) dX6_init_45 rfl ?_
  refine zr_p dX6_init_47 fl_324 (fun _ => rfl) rfl rfl h (fun x15 e16 h => ?_)
  refine zv_aload_n (n := 0) dX6_init_50 rfl rfl ?_
  refine zv_iload (n := 6) dX6_init_51 rfl ?_
  refine zr_p dX6_init_53 fl_326 (fun _ => rfl) rfl rfl h (fun x17 e18 h => ?_)
  cases h
  exact zv_vret dX6_init_56 rfl
def mX6_init (N : Nat) (a0 : Nat) (a1 : Nat) (a2 : Nat) (a3 : Int32) (a4 : Int32) (a5 : Int32) (a6 : Int32) (x : zv_X) : Option zv_X := mX6_init_0 N a0 a1 a2 a3 a4 a5 a6 x
theorem tX6_init {d : Nat} (hd : 1 ≤ d) {N : Nat} {x : zv_X} {a0 : Nat} {a1 : Nat} {a2 : Nat} {a3 : Int32} {a4 : Int32} {a5 : Int32} {a6 : Int32} {o : zv_X} (h : mX6_init N a0 a1 a2 a3 a4 a5 a6 x = some o) : zv_T d yX6_init cX6_init 7 (none) [.ref a0, .ref a1, .ref a2, .int a3, .int a4, .int a5, .int a6] x o none := by
  unfold mX6_init at h
  exact zv_enter (by decide) (Nat.le_of_ble_eq_true rfl) (kX6_init_0 hd _ _ _ _ _ _ _ _ h)

abbrev fX4_init (d : Nat) (x0 : zv_X) (o : zv_X) : zv_G := (d, RX4, cX4_init, 6, none, ("<init>", []), x0, o, zv_fin x0 o none)
def mX4_init_63 (N : Nat) : Nat → Nat → Nat → Int32 → zv_X → Option zv_X
  | 0, _, _, _, _ => none
  | n + 1, l0, l4, l5, x => if (16 : Int32) ≤ l5 then ((zm_R x l0 4 4).bind fun v1 => (zm_aR x v1 (0 : Int32)).bind fun v3 => (zm_p x l0 4 5 (.ref v3)).bind fun x5 => some x5) else ((zm_R x l0 4 4).bind fun v7 => (some (zv_nw x (.inr (1, zd_1)) 5)).bind fun x9 => (mX1_init N x.2.1 l4 x9).bind fun o11 => (zm_sR o11 v7 l5 x.2.1).bind fun x13 => mX4_init_63 N n l0 l4 (l5 + (1)) x13)
theorem kX4_init_63 {d : Nat} {x0 : zv_X} {o : zv_X} (hd : 2 ≤ d) {N : Nat} : ∀ (n : Nat) (l0 : Nat) (l4 : Nat) (l5 : Int32) (x : zv_X), mX4_init_63 N n l0 l4 l5 x = some o → zv_V (fX4_init d x0 o) 63 [(0, .ref l0), (4, .ref l4), (5, .int l5)] [] x := by
  intro n
  induction n with
  | zero => intro l0 l4 l5 x h; cases h
  | succ n ih =>
    intro l0 l4 l5 x h
    unfold mX4_init_63 at h
    refine zv_iload (n := 2) dX4_init_63 rfl ?_
    refine zv_bipush (v := 16) dX4_init_65 (by decide) ?_
    refine zr_icmp_ge (tgt := 92) dX4_init_67 (by decide) h (fun c15 h => ?_) (fun c15 h => ?_)
    · refine zv_aload_n (n := 0) dX4_init_92 rfl rfl ?_
      refine zv_aload_n (n := 0) dX4_init_93 rfl rfl ?_
      refine zr_gR dX4_init_94 fg_370 h (fun v1 e2 h => ?_)
      refine zv_iconst (v := 0) dX4_init_97 (by decide) ?_
      refine zr_aR dX4_init_98 h (fun v3 e4 h => ?_)
      refine zr_p dX4_init_99 fl_371 (fun q => nomatch q) rfl rfl h (fun x5 e6 h => ?_)
      cases h
      exact zv_vret dX4_init_102 rfl
    · refine zv_aload_n (n := 0) dX4_init_70 rfl rfl ?_
      refine zr_gR dX4_init_71 fg_370 h (fun v7 e8 h => ?_)
      refine zv_iload (n := 2) dX4_init_74 rfl ?_
      refine zr_new dX4_init_76 ck_1 wd_301 wd_343 wd_102 df_1 h (fun x9 e10 h => ?_)
      refine zv_dup dX4_init_79 rfl ?_
      refine zv_aload (n := 1) dX4_init_80 rfl ?_
      refine zr_cI (st := [.ref x.2.1, .int l5, .ref v7]) dX4_init_82 mw_X1_init wd_344 wd_345 rfl [.ref l4] rfl rfl (Nat.le_of_ble_eq_true rfl) (show d - 1 + 1 ≤ d by omega) h (fun o11 e12 => tX1_init (d := d - 1) (by omega) e12) (fun o11 e12 h => ?_)
      refine zr_sR dX4_init_85 h (fun x13 e14 h => ?_)
      refine zv_iinc (n := 2) (v := l5 + (1)) (L' := [(5, .int (l5 + (1))), (0, .ref l0), (4, .ref l4)]) dX4_init_86 rfl rfl (Nat.le_of_ble_eq_true rfl) rfl ?_
      refine zv_goto (tgt := 63) dX4_init_89 (by decide) ?_
      exact zv_fewer [1, 2, 0] rfl (ih _ _ _ _ h)
def mX4_init_0 (N : Nat) (l0 : Nat) (l1 : Nat) (l2 : Nat) (l3 : Int32) (x : zv_X) : Option zv_X := (zm_p x l0 4 0 (.ref l1)).bind fun x1 => (zm_p x1 l0 4 1 (.ref l2)).bind fun x3 => (zm_p x3 l0 4 3 (.int l3)).bind fun x5 => (some (zv_nw x5 (.inr (2, zd_2)) 11)).bind fun x7 => (mX2_init N x5.2.1 l1 l3 x7).bind fun o9 => (zm_p o9 l0 4 2 (.ref x5.2.1)).bind fun x11 => (zm_nR 5 x11 (16 : Int32)).bind fun x13 => (zm_p x13 l0 4 4 (.ref x11.2.1)).bind fun x15 => (some (zv_nw x15 (.inr (6, zd_6)) 7)).bind fun x17 => (zm_na 2 x17 (0 : Int32)).bind fun x19 => (zm_na 0 x19 (0 : Int32)).bind fun x21 => (mX6_init N x15.2.1 x17.2.1 x19.2.1 (0 : Int32) (0 : Int32) (0 : Int32) (0 : Int32) x21).bind fun o23 => mX4_init_63 N N l0 x15.2.1 (0 : Int32) o23
theorem kX4_init_0 {d : Nat} {x0 : zv_X} {o : zv_X} (hd : 2 ≤ d) {N : Nat} (l0 : Nat) (l1 : Nat) (l2 : Nat) (l3 : Int32) (x : zv_X) (h : mX4_init_0 N l0 l1 l2 l3 x = some o) : zv_V (fX4_init d x0 o) 0 [(0, .ref l0), (1, .ref l1), (2, .ref l2), (3, .int l3)] [] x := by
  unfold mX4_init_0 at h
  refine zv_aload_n (n := 0) dX4_init_0 rfl rfl ?_
  refine zv_obj dX4_init_1 wd_260 wd_130 wd_131 (show 1 ≤ d by omega) (Nat.le_of_ble_eq_true rfl) ?_
  refine zv_aload_n (n := 0) dX4_init_4 rfl rfl ?_
  refine zv_aload_n (n := 1) dX4_init_5 rfl rfl ?_
  refine zr_p dX4_init_6 fl_366 (fun _ => rfl) rfl rfl h (fun x1 e2 h => ?_)
  refine zv_aload_n (n := 0) dX4_init_9 rfl rfl ?_
  refine zv_aload_n (n := 2) dX4_init_10 rfl rfl ?_
  refine zr_p dX4_init_11 fl_367 (fun _ => rfl) rfl rfl h (fun x3 e4 h => ?_)
  refine zv_aload_n (n := 0) dX4_init_14 rfl rfl ?_
  refine zv_iload_n (n := 3) dX4_init_15 rfl rfl ?_
  refine zr_p dX4_init_16 fl_369 (fun _ => rfl) rfl rfl h (fun x5 e6 h => ?_)
  refine zv_aload_n (n := 0) dX4_init_19 rfl rfl ?_
  refine zr_new dX4_init_20 ck_2 wd_261 wd_262 wd_100 df_2 h (fun x7 e8 h => ?_)
  refine zv_dup dX4_init_23 rfl ?_
  refine zv_aload_n (n := 1) dX4_init_24 rfl rfl ?_
  refine zv_iload_n (n := 3) dX4_init_25 rfl rfl ?_
  refine zr_cI (st := [.ref x5.2.1, .ref l0]) dX4_init_26 mw_X2_init wd_263 wd_264 rfl [.ref l1, .int l3] rfl rfl (Nat.le_of_ble_eq_true rfl) (show d - 1 + 1 ≤ d by omega) h (fun o9 e10 => tX2_init (d := d - 1) (by omega) e10) (fun o9 e10 h => ?_)
  refine zr_p dX4_init_29 fl_368 (fun _ => rfl) rfl rfl h (fun x11 e12 h => ?_)
  refine zv_aload_n (n := 0) dX4_init_32 rfl rfl ?_
  refine zv_bipush (v := 16) dX4_init_33 (by decide) ?_
  refine zr_nR dX4_init_35 wd_301 (Or.inr ⟨rfl, rfl⟩) h (fun x13 e14 h => ?_)
  refine zr_p dX4_init_38 fl_370 (fun _ => rfl) rfl rfl h (fun x15 e16 h => ?_)
  refine zr_new dX4_init_41 ck_6 wd_303 wd_304 wd_101 df_6 h (fun x17 e18 h => ?_)
  refine zv_dup dX4_init_44 rfl ?_
  refine zv_iconst (v := 0) dX4_init_45 (by decide) ?_
  refine zr_nB dX4_init_46 wd_178 h (fun x19 e20 h => ?_)
  refine zv_iconst (v := 0) dX4_init_48 (by decide) ?_
  refine zr_nI dX4_init_49 wd_156 h (fun x21 e22 h => ?_)
  refine zv_iconst (v := 0) dX4_init_51 (by decide) ?_
  refine zv_iconst (v := 0) dX4_init_52 (by decide) ?_
  refine zv_iconst (v := 0) dX4_init_53 (by decide) ?_
  refine zv_iconst (v := 0) dX4_init_54 (by decide) ?_
  refine zr_cI (st := [.ref x15.2.1]) dX4_init_55 mw_X6_init wd_305 wd_306 rfl [.ref x17.2.1, .ref x19.2.1, .int (0 : Int32), .int (0 : Int32), .int (0 : Int32), .int (0 : Int32)] rfl rfl (Nat.le_of_ble_eq_true rfl) (show d - 1 + 1 ≤ d by omega) h (fun o23 e24 => tX6_init (d := d - 1) (by omega) e24) (fun o23 e24 h => ?_)
  refine zv_astore (L' := [(4, .ref x15.2.1), (0, .ref l0), (1, .ref l1), (2, .ref l2), (3, .int l3)]) dX4_init_58 (Nat.le_of_ble_eq_true rfl) rfl ?_
  refine zv_iconst (v := 0) dX4_init_60 (by decide) ?_
  refine zv_istore (L' := [(5, .int (0 : Int32)), (4, .ref x15.2.1), (0, .ref l0), (1, .ref l1), (2, .ref l2), (3, .int l3)]) dX4_init_61 (Nat.le_of_ble_eq_true rfl) rfl ?_
  exact zv_fewer [2, 1, 0] rfl (kX4_init_63 hd N _ _ _ _ h)
def mX4_init (N : Nat) (a0 : Nat) (a1 : Nat) (a2 : Nat) (a3 : Int32) (x : zv_X) : Option zv_X := mX4_init_0 N a0 a1 a2 a3 x
theorem tX4_init {d : Nat} (hd : 2 ≤ d) {N : Nat} {x : zv_X} {a0 : Nat} {a1 : Nat} {a2 : Nat} {a3 : Int32} {o : zv_X} (h : mX4_init N a0 a1 a2 a3 x = some o) : zv_T d yX4_init cX4_init 6 (none) [.ref a0, .ref a1, .ref a2, .int a3] x o none := by
  unfold mX4_init at h
  exact zv_enter (by decide) (Nat.le_of_ble_eq_true rfl) (kX4_init_0 hd _ _ _ _ _ h)

abbrev fX7_init (d : Nat) (x0 : zv_X) (o : zv_X) : zv_G := (d, RX7, cX7_init, 2, none, ("<init>", []), x0, o, zv_fin x0 o none)
def mX7_init_30 (N : Nat) : Nat → Nat → Int32 → zv_X → Option zv_X
  | 0, _, _, _ => none
  | n + 1, l0, l1, x => if (6 : Int32) < l1 then ((zm_p x l0 7 3 (.int (7 : Int32))).bind fun x1 => some x1) else ((zm_R x l0 7 0).bind fun v3 => (zm_sI x v3 l1 ((1 : Int32) ||| ((1 : Int32) <<< (l1 &&& 31)))).bind fun x5 => mX7_init_30 N n l0 (l1 + (1)) x5)
theorem kX7_init_30 {d : Nat} {x0 : zv_X} {o : zv_X} (hd : 1 ≤ d) {N : Nat} : ∀ (n : Nat) (l0 : Nat) (l1 : Int32) (x : zv_X), mX7_init_30 N n l0 l1 x = some o → zv_V (fX7_init d x0 o) 30 [(0, .ref l0), (1, .int l1)] [] x := by
  intro n
  induction n with
  | zero => intro l0 l1 x h; cases h
  | succ n ih =>
    intro l0 l1 x h
    unfold mX7_init_30 at h
    refine zv_iload_n (n := 1) dX7_init_30 rfl rfl ?_
    refine zv_bipush (v := 6) dX7_init_31 (by decide) ?_
    refine zr_icmp_gt (tgt := 53) dX7_init_33 (by decide) h (fun c7 h => ?_) (fun c7 h => ?_)
    · refine zv_aload_n (n := 0) dX7_init_53 rfl rfl ?_
      refine zv_bipush (v := 7) dX7_init_54 (by decide) ?_
      refine zr_p dX7_init_56 fl_145 (fun q => nomatch q) rfl rfl h (fun x1 e2 h => ?_)
      cases h
      exact zv_vret dX7_init_59 rfl
    · refine zv_aload_n (n := 0) dX7_init_36 rfl rfl ?_
      refine zr_gR dX7_init_37 fg_138 h (fun v3 e4 h => ?_)
      refine zv_iload_n (n := 1) dX7_init_40 rfl rfl ?_
      refine zv_iconst (v := 1) dX7_init_41 (by decide) ?_
      refine zv_iconst (v := 1) dX7_init_42 (by decide) ?_
      refine zv_iload_n (n := 1) dX7_init_43 rfl rfl ?_
      refine zv_ishl dX7_init_44 ?_
      refine zv_ior dX7_init_45 ?_
      refine zr_sI dX7_init_46 h (fun x5 e6 h => ?_)
      refine zv_iinc (n := 1) (v := l1 + (1)) (L' := [(1, .int (l1 + (1))), (0, .ref l0)]) dX7_init_47 rfl rfl (Nat.le_of_ble_eq_true rfl) rfl ?_
      refine zv_goto (tgt := 30) dX7_init_50 (by decide) ?_
      exact zv_fewer [1, 0] rfl (ih _ _ _ h)
def mX7_init_0 (N : Nat) (l0 : Nat) (x : zv_X) : Option zv_X := (zm_na 0 x (30 : Int32)).bind fun x1 => (zm_p x1 l0 7 0 (.ref x.2.1)).bind fun x3 => (zm_na 0 x3 (30 : Int32)).bind fun x5 => (zm_p x5 l0 7 1 (.ref x3.2.1)).bind fun x7 => (zm_na 0 x7 (30 : Int32)).bind fun x9 => (zm_p x9 l0 7 2 (.ref x7.2.1)).bind fun x11 => mX7_init_30 N N l0 (0 : Int32) x11
theorem kX7_init_0 {d : Nat} {x0 : zv_X} {o : zv_X} (hd : 1 ≤ d) {N : Nat} (l0 : Nat) (x : zv_X) (h : mX7_init_0 N l0 x = some o) : zv_V (fX7_init d x0 o) 0 [(0, .ref l0)] [] x := by
  unfold mX7_init_0 at h
  refine zv_aload_n (n := 0) dX7_init_0 rfl rfl ?_
  refine zv_obj dX7_init_1 wd_137 wd_130 wd_131 (show 1 ≤ d by omega) (Nat.le_of_ble_eq_true rfl) ?_
  refine zv_aload_n (n := 0) dX7_init_4 rfl rfl ?_
  refine zv_bipush (v := 30) dX7_init_5 (by decide) ?_
  refine zr_nI dX7_init_7 wd_156 h (fun x1 e2 h => ?_)
  refine zr_p dX7_init_9 fl_138 (fun _ => rfl) rfl rfl h (fun x3 e4 h => ?_)
  refine zv_aload_n (n := 0) dX7_init_12 rfl rfl ?_
  refine zv_bipush (v := 30) dX7_init_13 (by decide) ?_
  refine zr_nI dX7_init_15 wd_156 h (fun x5 e6 h => ?_)
  refine zr_p dX7_init_17 fl_140 (fun _ => rfl) rfl rfl h (fun x7 e8 h => ?_)
  refine zv_aload_n (n := 0) dX7_init_20 rfl rfl ?_
  refine zv_bipush (v := 30) dX7_init_21 (by decide) ?_
  refine zr_nI dX7_init_23 wd_156 h (fun x9 e10 h => ?_)
  refine zr_p dX7_init_25 fl_144 (fun _ => rfl) rfl rfl h (fun x11 e12 h => ?_)
  refine zv_iconst (v := 0) dX7_init_28 (by decide) ?_
  refine zv_istore_n (L' := [(1, .int (0 : Int32)), (0, .ref l0)]) dX7_init_29 rfl (Nat.le_of_ble_eq_true rfl) rfl ?_
  exact zv_fewer [1, 0] rfl (kX7_init_30 hd N _ _ _ h)
def mX7_init (N : Nat) (a0 : Nat) (x : zv_X) : Option zv_X := mX7_init_0 N a0 x
theorem tX7_init {d : Nat} (hd : 1 ≤ d) {N : Nat} {x : zv_X} {a0 : Nat} {o : zv_X} (h : mX7_init N a0 x = some o) : zv_T d yX7_init cX7_init 2 (none) [.ref a0] x o none := by
  unfold mX7_init at h
  exact zv_enter (by decide) (Nat.le_of_ble_eq_true rfl) (kX7_init_0 hd _ _ h)

abbrev fX8_init (d : Nat) (x0 : zv_X) (o : zv_X) : zv_G := (d, RX8, cX8_init, 2, none, ("<init>", []), x0, o, zv_fin x0 o none)
def mX8_init_0 (N : Nat) (l0 : Nat) (l1 : Int32) (x : zv_X) : Option zv_X := (some (zv_nw x (.inr (7, zd_7)) 4)).bind fun x1 => (mX7_init N x.2.1 x1).bind fun o3 => (zm_p o3 l0 8 0 (.ref x.2.1)).bind fun x5 => (some (zv_nw x5 (.inr (0, zd_0)) 4)).bind fun x7 => (mX0_init N x5.2.1 x7).bind fun o9 => (zm_p o9 l0 8 1 (.ref x5.2.1)).bind fun x11 => (some (zv_nw x11 (.inr (5, zd_5)) 3)).bind fun x13 => (mJx4a65c_init_da8c8 N x11.2.1 x13).bind fun o15 => (zm_p o15 l0 8 2 (.ref x11.2.1)).bind fun x17 => (some (zv_nw x17 (.inr (3, zd_3)) 12)).bind fun x19 => (zm_R x19 l0 8 0).bind fun v21 => (zm_R x19 l0 8 2).bind fun v23 => (mX3_init N x17.2.1 v21 v23 x19).bind fun o25 => (zm_p o25 l0 8 3 (.ref x17.2.1)).bind fun x27 => (some (zv_nw x27 (.inr (4, zd_4)) 12)).bind fun x29 => (zm_R x29 l0 8 0).bind fun v31 => (zm_R x29 l0 8 2).bind fun v33 => (mX4_init N x27.2.1 v31 v33 (zm_max (16 : Int32) (zm_min (400 : Int32) l1)) x29).bind fun o35 => (zm_p o35 l0 8 4 (.ref x27.2.1)).bind fun x37 => some x37
theorem kX8_init_0 {d : Nat} {x0 : zv_X} {o : zv_X} (hd : 4 ≤ d) {N : Nat} (l0 : Nat) (l1 : Int32) (x : zv_X) (h : mX8_init_0 N l0 l1 x = some o) : zv_V (fX8_init d x0 o) 0 [(0, .ref l0), (1, .int l1)] [] x := by
  unfold mX8_init_0 at h
  refine zv_aload_n (n := 0) dX8_init_0 rfl rfl ?_
  refine zv_obj dX8_init_1 wd_129 wd_130 wd_131 (show 1 ≤ d by omega) (Nat.le_of_ble_eq_true rfl) ?_
  refine zv_aload_n (n := 0) dX8_init_4 rfl rfl ?_
  refine zr_new dX8_init_5 ck_7 wd_132 wd_133 wd_92 df_7 h (fun x1 e2 h => ?_)
  refine zv_dup dX8_init_8 rfl ?_
  refine zr_cI (st := [.ref x.2.1, .ref l0]) dX8_init_9 mw_X7_init wd_134 wd_135 rfl [] rfl rfl (Nat.le_of_ble_eq_true rfl) (show d - 1 + 1 ≤ d by omega) h (fun o3 e4 => tX7_init (d := d - 1) (by omega) e4) (fun o3 e4 h => ?_)
  refine zr_p dX8_init_12 fl_407 (fun _ => rfl) rfl rfl h (fun x5 e6 h => ?_)
  refine zv_aload_n (n := 0) dX8_init_15 rfl rfl ?_
  refine zr_new dX8_init_16 ck_0 wd_157 wd_158 wd_93 df_0 h (fun x7 e8 h => ?_)
  refine zv_dup dX8_init_19 rfl ?_
  refine zr_cIN (st := [.ref x5.2.1, .ref l0]) dX8_init_20 mw_X0_init ⟨rfl, rfl, rfl⟩ wd_160 rfl [] rfl rfl (Nat.le_of_ble_eq_true rfl) (show d - 1 + 1 ≤ d by omega) h (fun o9 e10 => tX0_init (d := d - 1) (by omega) e10) (fun o9 e10 h => ?_)
  refine zr_p dX8_init_23 fl_408 (fun _ => rfl) rfl rfl h (fun x11 e12 h => ?_)
  refine zv_aload_n (n := 0) dX8_init_26 rfl rfl ?_
  refine zr_new dX8_init_27 ck_5 wd_179 wd_180 wd_96 df_5 h (fun x13 e14 h => ?_)
  refine zv_dup dX8_init_30 rfl ?_
  refine zr_cI (st := [.ref x11.2.1, .ref l0]) dX8_init_31 mw_Jx4a65c_init_da8c8 wd_181 wd_182 rfl [] rfl rfl (Nat.le_of_ble_eq_true rfl) (show d - 1 + 1 ≤ d by omega) h (fun o15 e16 => tJx4a65c_init_da8c8 (d := d - 1) (by omega) e16) (fun o15 e16 h => ?_)
  refine zr_p dX8_init_34 fl_409 (fun _ => rfl) rfl rfl h (fun x17 e18 h => ?_)
  refine zv_aload_n (n := 0) dX8_init_37 rfl rfl ?_
  refine zr_new dX8_init_38 ck_3 wd_205 wd_206 wd_97 df_3 h (fun x19 e20 h => ?_)
  refine zv_dup dX8_init_41 rfl ?_
  refine zv_aload_n (n := 0) dX8_init_42 rfl rfl ?_
  refine zr_gR dX8_init_43 fg_407 h (fun v21 e22 h => ?_)
  refine zv_aload_n (n := 0) dX8_init_46 rfl rfl ?_
  refine zr_gR dX8_init_47 fg_409 h (fun v23 e24 h => ?_)
  refine zr_cI (st := [.ref x17.2.1, .ref l0]) dX8_init_50 mw_X3_init wd_207 wd_208 rfl [.ref v21, .ref v23] rfl rfl (Nat.le_of_ble_eq_true rfl) (show d - 1 + 1 ≤ d by omega) h (fun o25 e26 => tX3_init (d := d - 1) (by omega) e26) (fun o25 e26 h => ?_)
  refine zr_p dX8_init_53 fl_410 (fun _ => rfl) rfl rfl h (fun x27 e28 h => ?_)
  refine zv_aload_n (n := 0) dX8_init_56 rfl rfl ?_
  refine zr_new dX8_init_57 ck_4 wd_249 wd_250 wd_98 df_4 h (fun x29 e30 h => ?_)
  refine zv_dup dX8_init_60 rfl ?_
  refine zv_aload_n (n := 0) dX8_init_61 rfl rfl ?_
  refine zr_gR dX8_init_62 fg_407 h (fun v31 e32 h => ?_)
  refine zv_aload_n (n := 0) dX8_init_65 rfl rfl ?_
  refine zr_gR dX8_init_66 fg_409 h (fun v33 e34 h => ?_)
  refine zv_bipush (v := 16) dX8_init_69 (by decide) ?_
  refine zv_sipush (v := 400) dX8_init_71 (by decide) ?_
  refine zv_iload_n (n := 1) dX8_init_74 rfl rfl ?_
  refine zv_min dX8_init_75 wd_251 wd_252 wd_99 wd_253 (show 1 ≤ d by omega) (Nat.le_of_ble_eq_true rfl) ?_
  refine zv_max dX8_init_78 wd_254 wd_255 wd_99 wd_256 (show 1 ≤ d by omega) (Nat.le_of_ble_eq_true rfl) ?_
  refine zr_cI (st := [.ref x27.2.1, .ref l0]) dX8_init_81 mw_X4_init wd_257 wd_258 rfl [.ref v31, .ref v33, .int (zm_max (16 : Int32) (zm_min (400 : Int32) l1))] rfl rfl (Nat.le_of_ble_eq_true rfl) (show d - 1 + 1 ≤ d by omega) h (fun o35 e36 => tX4_init (d := d - 1) (by omega) e36) (fun o35 e36 h => ?_)
  refine zr_p dX8_init_84 fl_411 (fun _ => rfl) rfl rfl h (fun x37 e38 h => ?_)
  cases h
  exact zv_vret dX8_init_87 rfl
def mX8_init (N : Nat) (a0 : Nat) (a1 : Int32) (x : zv_X) : Option zv_X := mX8_init_0 N a0 a1 x
theorem tX8_init {d : Nat} (hd : 4 ≤ d) {N : Nat} {x : zv_X} {a0 : Nat} {a1 : Int32} {o : zv_X} (h : mX8_init N a0 a1 x = some o) : zv_T d yX8_init cX8_init 2 (none) [.ref a0, .int a1] x o none := by
  unfold mX8_init at h
  exact zv_enter (by decide) (Nat.le_of_ble_eq_true rfl) (kX8_init_0 hd _ _ _ h)

abbrev fX0_append (d : Nat) (x0 : zv_X) (o : zv_X) : zv_G := (d, RX0, cX0_append, 5, none, ("append", []), x0, o, zv_fin x0 o none)
def mX0_append_9 (N : Nat) : Nat → Nat → Int32 → Int32 → Int32 → zv_X → Option zv_X
  | 0, _, _, _, _, _ => none
  | n + 1, l0, l1, l3, l4, x => if l3 ≤ l4 then (some x) else ((zm_R x l0 0 0).bind fun v1 => (zm_I x l0 0 2).bind fun v3 => (zm_sB x v1 v3 ((Int32.toInt8 (l1 >>> (((24 : Int32) - ((8 : Int32) * l4)) &&& 31))).toInt32)).bind fun x5 => (zm_I x5 l0 0 2).bind fun v7 => (zm_p x5 l0 0 2 (.int (v7 + (1 : Int32)))).bind fun x9 => mX0_append_9 N n l0 l1 l3 (l4 + (1)) x9)
theorem kX0_append_9 {d : Nat} {x0 : zv_X} {o : zv_X} (hd : 1 ≤ d) {N : Nat} : ∀ (n : Nat) (l0 : Nat) (l1 : Int32) (l3 : Int32) (l4 : Int32) (x : zv_X), mX0_append_9 N n l0 l1 l3 l4 x = some o → zv_V (fX0_append d x0 o) 9 [(0, .ref l0), (1, .int l1), (3, .int l3), (4, .int l4)] [] x := by
  intro n
  induction n with
  | zero => intro l0 l1 l3 l4 x h; cases h
  | succ n ih =>
    intro l0 l1 l3 l4 x h
    unfold mX0_append_9 at h
    refine zv_iload (n := 3) dX0_append_9 rfl ?_
    refine zv_iload_n (n := 2) dX0_append_11 rfl rfl ?_
    refine zr_icmp_ge (tgt := 51) dX0_append_12 (by decide) h (fun c11 h => ?_) (fun c11 h => ?_)
    · cases h
      exact zv_vret dX0_append_51 rfl
    · refine zv_aload_n (n := 0) dX0_append_15 rfl rfl ?_
      refine zr_gR dX0_append_16 fg_163 h (fun v1 e2 h => ?_)
      refine zv_aload_n (n := 0) dX0_append_19 rfl rfl ?_
      refine zr_gI dX0_append_20 fg_165 h (fun v3 e4 h => ?_)
      refine zv_iload_n (n := 1) dX0_append_23 rfl rfl ?_
      refine zv_bipush (v := 24) dX0_append_24 (by decide) ?_
      refine zv_bipush (v := 8) dX0_append_26 (by decide) ?_
      refine zv_iload (n := 3) dX0_append_28 rfl ?_
      refine zv_imul dX0_append_30 ?_
      refine zv_isub dX0_append_31 ?_
      refine zv_ishr dX0_append_32 ?_
      refine zv_i2b dX0_append_33 ?_
      refine zr_sB dX0_append_34 h (fun x5 e6 h => ?_)
      refine zv_aload_n (n := 0) dX0_append_35 rfl rfl ?_
      refine zv_dup dX0_append_36 rfl ?_
      refine zr_gI dX0_append_37 fg_165 h (fun v7 e8 h => ?_)
      refine zv_iconst (v := 1) dX0_append_40 (by decide) ?_
      refine zv_iadd dX0_append_41 ?_
      refine zr_p dX0_append_42 fl_165 (fun q => nomatch q) rfl rfl h (fun x9 e10 h => ?_)
      refine zv_iinc (n := 3) (v := l4 + (1)) (L' := [(4, .int (l4 + (1))), (0, .ref l0), (1, .int l1), (3, .int l3)]) dX0_append_45 rfl rfl (Nat.le_of_ble_eq_true rfl) rfl ?_
      refine zv_goto (tgt := 9) dX0_append_48 (by decide) ?_
      exact zv_fewer [1, 2, 3, 0] rfl (ih _ _ _ _ _ h)
def mX0_append_0 (N : Nat) (l0 : Nat) (l1 : Int32) (l2 : Int32) (x : zv_X) : Option zv_X := mX0_append_9 N N l0 l1 (zm_min (4 : Int32) l2) (0 : Int32) x
theorem kX0_append_0 {d : Nat} {x0 : zv_X} {o : zv_X} (hd : 1 ≤ d) {N : Nat} (l0 : Nat) (l1 : Int32) (l2 : Int32) (x : zv_X) (h : mX0_append_0 N l0 l1 l2 x = some o) : zv_V (fX0_append d x0 o) 0 [(0, .ref l0), (1, .int l1), (2, .int l2)] [] x := by
  unfold mX0_append_0 at h
  refine zv_iconst (v := 4) dX0_append_0 (by decide) ?_
  refine zv_iload_n (n := 2) dX0_append_1 rfl rfl ?_
  refine zv_min dX0_append_2 wd_531 wd_252 wd_99 wd_253 (show 1 ≤ d by omega) (Nat.le_of_ble_eq_true rfl) ?_
  refine zv_istore_n (L' := [(3, .int (zm_min (4 : Int32) l2)), (0, .ref l0), (1, .int l1), (2, .int l2)]) dX0_append_5 rfl (Nat.le_of_ble_eq_true rfl) rfl ?_
  refine zv_iconst (v := 0) dX0_append_6 (by decide) ?_
  refine zv_istore (L' := [(4, .int (0 : Int32)), (3, .int (zm_min (4 : Int32) l2)), (0, .ref l0), (1, .int l1), (2, .int l2)]) dX0_append_7 (Nat.le_of_ble_eq_true rfl) rfl ?_
  exact zv_fewer [2, 3, 1, 0] rfl (kX0_append_9 hd N _ _ _ _ _ h)
def mX0_append (N : Nat) (a0 : Nat) (a1 : Int32) (a2 : Int32) (x : zv_X) : Option zv_X := mX0_append_0 N a0 a1 a2 x
theorem tX0_append {d : Nat} (hd : 1 ≤ d) {N : Nat} {x : zv_X} {a0 : Nat} {a1 : Int32} {a2 : Int32} {o : zv_X} (h : mX0_append N a0 a1 a2 x = some o) : zv_T d yX0_append cX0_append 5 (none) [.ref a0, .int a1, .int a2] x o none := by
  unfold mX0_append at h
  exact zv_enter (by decide) (Nat.le_of_ble_eq_true rfl) (kX0_append_0 hd _ _ _ _ h)

abbrev fX8_feed (d : Nat) (x0 : zv_X) (o : (zv_X × (Int32 ⊕ String))) : zv_G := (d, RX8, cX8_feed, 7, (some .int), ("feed", []), x0, o.1, zv_finX x0 o)
def mX8_feed_13 (N : Nat)  (x : zv_X) : Option (zv_X × (Int32 ⊕ String)) := some (zv_pad x, .inr "java/lang/IllegalArgumentException")
theorem kX8_feed_13 {d : Nat} {x0 : zv_X} {o : (zv_X × (Int32 ⊕ String))} (hd : 6 ≤ d) {N : Nat}  (x : zv_X) (h : mX8_feed_13 N  x = some o) : zv_V (fX8_feed d x0 o) 13 [] [] x := by
  unfold mX8_feed_13 at h
  cases h
  exact zx_throw (text := "n is not 1 .. 20") tw_57 (by decide) dX8_feed_13 dX8_feed_16 dX8_feed_17 dX8_feed_19 dX8_feed_22 (show 6 ≤ d by omega) (Nat.le_of_ble_eq_true rfl)
def mX8_feed_0 (N : Nat) (l0 : Nat) (l1 : Int32) (l2 : Int32) (l3 : Int32) (l4 : Int32) (l5 : Int32) (l6 : Int32) (x : zv_X) : Option (zv_X × (Int32 ⊕ String)) := if l6 < (1 : Int32) then (mX8_feed_13 N x) else (if l6 ≤ (20 : Int32) then ((zm_R x l0 8 1).bind fun v1 => (zm_I x v1 0 2).bind fun v3 => if (v3 + l6) ≤ (200 : Int32) then ((zm_R x l0 8 1).bind fun v5 => if zm_k x v5 0 = true then ((mX0_append N v5 l1 l6 x).bind fun o7 => (zm_R o7 l0 8 1).bind fun v9 => if zm_k o7 v9 0 = true then ((mX0_append N v9 l2 (l6 - (4 : Int32)) o7).bind fun o11 => (zm_R o11 l0 8 1).bind fun v13 => if zm_k o11 v13 0 = true then ((mX0_append N v13 l3 (l6 - (8 : Int32)) o11).bind fun o15 => (zm_R o15 l0 8 1).bind fun v17 => if zm_k o15 v17 0 = true then ((mX0_append N v17 l4 (l6 - (12 : Int32)) o15).bind fun o19 => (zm_R o19 l0 8 1).bind fun v21 => if zm_k o19 v21 0 = true then ((mX0_append N v21 l5 (l6 - (16 : Int32)) o19).bind fun o23 => (zm_R o23 l0 8 1).bind fun v25 => (zm_I o23 v25 0 2).bind fun v27 => some (o23, .inl v27)) else none) else none) else none) else none) else none) else (some (zv_pad x, .inr "java/lang/UnsupportedOperationException"))) else (mX8_feed_13 N x))
theorem kX8_feed_0 {d : Nat} {x0 : zv_X} {o : (zv_X × (Int32 ⊕ String))} (hd : 6 ≤ d) {N : Nat} (l0 : Nat) (l1 : Int32) (l2 : Int32) (l3 : Int32) (l4 : Int32) (l5 : Int32) (l6 : Int32) (x : zv_X) (h : mX8_feed_0 N l0 l1 l2 l3 l4 l5 l6 x = some o) : zv_V (fX8_feed d x0 o) 0 [(0, .ref l0), (1, .int l1), (2, .int l2), (3, .int l3), (4, .int l4), (5, .int l5), (6, .int l6)] [] x := by
  unfold mX8_feed_0 at h
  refine zv_iload (n := 6) dX8_feed_0 rfl ?_
  refine zv_iconst (v := 1) dX8_feed_2 (by decide) ?_
  refine zr_icmp_lt (tgt := 13) dX8_feed_3 (by decide) h (fun c31 h => ?_) (fun c31 h => ?_)
  · exact zv_fewer [] rfl (kX8_feed_13 hd _ h)
  · refine zv_iload (n := 6) dX8_feed_6 rfl ?_
    refine zv_bipush (v := 20) dX8_feed_8 (by decide) ?_
    refine zr_icmp_le (tgt := 23) dX8_feed_10 (by decide) h (fun c30 h => ?_) (fun c30 h => ?_)
    · refine zv_aload_n (n := 0) dX8_feed_23 rfl rfl ?_
      refine zr_gR dX8_feed_24 fg_408 h (fun v1 e2 h => ?_)
      refine zr_gI dX8_feed_27 fg_166 h (fun v3 e4 h => ?_)
      refine zv_iload (n := 6) dX8_feed_30 rfl ?_
      refine zv_iadd dX8_feed_32 ?_
      refine zv_sipush (v := 200) dX8_feed_33 (by decide) ?_
      refine zr_icmp_le (tgt := 49) dX8_feed_36 (by decide) h (fun c29 h => ?_) (fun c29 h => ?_)
      · refine zv_aload_n (n := 0) dX8_feed_49 rfl rfl ?_
        refine zr_gR dX8_feed_50 fg_408 h (fun v5 e6 h => ?_)
        refine zv_iload_n (n := 1) dX8_feed_53 rfl rfl ?_
        refine zv_iload (n := 6) dX8_feed_54 rfl ?_
        refine zr_cVv (ci := 0) (st := []) dX8_feed_56 mw_X0_append wd_527 wd_528 wd_529 rfl rfl [.int l1, .int l6] rfl rfl (Nat.le_of_ble_eq_true rfl) (show d - 1 + 1 ≤ d by omega) h (fun o7 e8 => tX0_append (d := d - 1) (by omega) e8) (fun o7 e8 h => ?_)
        refine zv_aload_n (n := 0) dX8_feed_59 rfl rfl ?_
        refine zr_gR dX8_feed_60 fg_408 h (fun v9 e10 h => ?_)
        refine zv_iload_n (n := 2) dX8_feed_63 rfl rfl ?_
        refine zv_iload (n := 6) dX8_feed_64 rfl ?_
        refine zv_iconst (v := 4) dX8_feed_66 (by decide) ?_
        refine zv_isub dX8_feed_67 ?_
        refine zr_cVv (ci := 0) (st := []) dX8_feed_68 mw_X0_append wd_527 wd_528 wd_529 rfl rfl [.int l2, .int (l6 - (4 : Int32))] rfl rfl (Nat.le_of_ble_eq_true rfl) (show d - 1 + 1 ≤ d by omega) h (fun o11 e12 => tX0_append (d := d - 1) (by omega) e12) (fun o11 e12 h => ?_)
        refine zv_aload_n (n := 0) dX8_feed_71 rfl rfl ?_
        refine zr_gR dX8_feed_72 fg_408 h (fun v13 e14 h => ?_)
        refine zv_iload_n (n := 3) dX8_feed_75 rfl rfl ?_
        refine zv_iload (n := 6) dX8_feed_76 rfl ?_
        refine zv_bipush (v := 8) dX8_feed_78 (by decide) ?_
        refine zv_isub dX8_feed_80 ?_
        refine zr_cVv (ci := 0) (st := []) dX8_feed_81 mw_X0_append wd_527 wd_528 wd_529 rfl rfl [.int l3, .int (l6 - (8 : Int32))] rfl rfl (Nat.le_of_ble_eq_true rfl) (show d - 1 + 1 ≤ d by omega) h (fun o15 e16 => tX0_append (d := d - 1) (by omega) e16) (fun o15 e16 h => ?_)
        refine zv_aload_n (n := 0) dX8_feed_84 rfl rfl ?_
        refine zr_gR dX8_feed_85 fg_408 h (fun v17 e18 h => ?_)
        refine zv_iload (n := 4) dX8_feed_88 rfl ?_
        refine zv_iload (n := 6) dX8_feed_90 rfl ?_
        refine zv_bipush (v := 12) dX8_feed_92 (by decide) ?_
        refine zv_isub dX8_feed_94 ?_
        refine zr_cVv (ci := 0) (st := []) dX8_feed_95 mw_X0_append wd_527 wd_528 wd_529 rfl rfl [.int l4, .int (l6 - (12 : Int32))] rfl rfl (Nat.le_of_ble_eq_true rfl) (show d - 1 + 1 ≤ d by omega) h (fun o19 e20 => tX0_append (d := d - 1) (by omega) e20) (fun o19 e20 h => ?_)
        refine zv_aload_n (n := 0) dX8_feed_98 rfl rfl ?_
        refine zr_gR dX8_feed_99 fg_408 h (fun v21 e22 h => ?_)
        refine zv_iload (n := 5) dX8_feed_102 rfl ?_
        refine zv_iload (n := 6) dX8_feed_104 rfl ?_
        refine zv_bipush (v := 16) dX8_feed_106 (by decide) ?_
        refine zv_isub dX8_feed_108 ?_
        refine zr_cVv (ci := 0) (st := []) dX8_feed_109 mw_X0_append wd_527 wd_528 wd_529 rfl rfl [.int l5, .int (l6 - (16 : Int32))] rfl rfl (Nat.le_of_ble_eq_true rfl) (show d - 1 + 1 ≤ d by omega) h (fun o23 e24 => tX0_append (d := d - 1) (by omega) e24) (fun o23 e24 h => ?_)
        refine zv_aload_n (n := 0) dX8_feed_112 rfl rfl ?_
        refine zr_gR dX8_feed_113 fg_408 h (fun v25 e26 h => ?_)
        refine zr_gI dX8_feed_116 fg_166 h (fun v27 e28 h => ?_)
        cases h
        exact zx_iret dX8_feed_119 rfl
      · cases h
        exact zx_throw (text := "the tape is full") tw_68 (by decide) dX8_feed_39 dX8_feed_42 dX8_feed_43 dX8_feed_45 dX8_feed_48 (show 6 ≤ d by omega) (Nat.le_of_ble_eq_true rfl)
    · exact zv_fewer [] rfl (kX8_feed_13 hd _ h)
def mX8_feed (N : Nat) (a0 : Nat) (a1 : Int32) (a2 : Int32) (a3 : Int32) (a4 : Int32) (a5 : Int32) (a6 : Int32) (x : zv_X) : Option (zv_X × (Int32 ⊕ String)) := mX8_feed_0 N a0 a1 a2 a3 a4 a5 a6 x
theorem tX8_feed {d : Nat} (hd : 6 ≤ d) {N : Nat} {x : zv_X} {a0 : Nat} {a1 : Int32} {a2 : Int32} {a3 : Int32} {a4 : Int32} {a5 : Int32} {a6 : Int32} {o : (zv_X × (Int32 ⊕ String))} (h : mX8_feed N a0 a1 a2 a3 a4 a5 a6 x = some o) : zv_TX d yX8_feed cX8_feed 7 ((some .int)) [.ref a0, .int a1, .int a2, .int a3, .int a4, .int a5, .int a6] x o := by
  unfold mX8_feed at h
  exact zx_enter (by decide) (Nat.le_of_ble_eq_true rfl) (kX8_feed_0 hd _ _ _ _ _ _ _ _ h)

abbrev fX7_add (d : Nat) (x0 : zv_X) (o : (zv_X × Int32)) : zv_G := (d, RX7, cX7_add, 6, (some .int), ("add", []), x0, o.1, zv_fin x0 o.1 (some (.int o.2)))
def mX7_add_0 (N : Nat) (l0 : Nat) (l1 : Int32) (l2 : Int32) (l3 : Int32) (x : zv_X) : Option (zv_X × Int32) := (zm_I x l0 7 3).bind fun v1 => (zm_R x l0 7 1).bind fun v3 => (zm_aI x v3 l1).bind fun v5 => (zm_R x l0 7 0).bind fun v7 => (zm_R x l0 7 0).bind fun v9 => (zm_aI x v9 l1).bind fun v11 => (zm_sI x v7 v1 (v11 ||| ((1 : Int32) <<< (v1 &&& 31)))).bind fun x13 => (zm_R x13 l0 7 1).bind fun v15 => (zm_sI x13 v15 v1 (v5 + l2)).bind fun x17 => (zm_R x17 l0 7 2).bind fun v19 => (zm_R x17 l0 7 2).bind fun v21 => (zm_aI x17 v21 l1).bind fun v23 => (zm_sI x17 v19 v1 (v23 ||| ((l3 &&& (((1 : Int32) <<< (l2 &&& 31)) - (1 : Int32))) <<< (v5 &&& 31)))).bind fun x25 => (zm_I x25 l0 7 3).bind fun v27 => (zm_p x25 l0 7 3 (.int (v27 + (1 : Int32)))).bind fun x29 => some (x29, v1)
theorem kX7_add_0 {d : Nat} {x0 : zv_X} {o : (zv_X × Int32)} (hd : 0 ≤ d) {N : Nat} (l0 : Nat) (l1 : Int32) (l2 : Int32) (l3 : Int32) (x : zv_X) (h : mX7_add_0 N l0 l1 l2 l3 x = some o) : zv_V (fX7_add d x0 o) 0 [(0, .ref l0), (1, .int l1), (2, .int l2), (3, .int l3)] [] x := by
  unfold mX7_add_0 at h
  refine zv_aload_n (n := 0) dX7_add_0 rfl rfl ?_
  refine zr_gI dX7_add_1 fg_145 h (fun v1 e2 h => ?_)
  refine zv_istore (L' := [(4, .int v1), (0, .ref l0), (1, .int l1), (2, .int l2), (3, .int l3)]) dX7_add_4 (Nat.le_of_ble_eq_true rfl) rfl ?_
  refine zv_aload_n (n := 1) dX7_add_6 rfl rfl ?_
  refine zr_gR dX7_add_7 fg_140 h (fun v3 e4 h => ?_)
  refine zv_iload_n (n := 2) dX7_add_10 rfl rfl ?_
  refine zr_aI dX7_add_11 h (fun v5 e6 h => ?_)
  refine zv_istore (L' := [(5, .int v5), (4, .int v1), (0, .ref l0), (1, .int l1), (2, .int l2), (3, .int l3)]) dX7_add_12 (Nat.le_of_ble_eq_true rfl) rfl ?_
  refine zv_aload_n (n := 2) dX7_add_14 rfl rfl ?_
  refine zr_gR dX7_add_15 fg_138 h (fun v7 e8 h => ?_)
  refine zv_iload (n := 1) dX7_add_18 rfl ?_
  refine zv_aload_n (n := 2) dX7_add_20 rfl rfl ?_
  refine zr_gR dX7_add_21 fg_138 h (fun v9 e10 h => ?_)
  refine zv_iload_n (n := 3) dX7_add_24 rfl rfl ?_
  refine zr_aI dX7_add_25 h (fun v11 e12 h => ?_)
  refine zv_iconst (v := 1) dX7_add_26 (by decide) ?_
  refine zv_iload (n := 1) dX7_add_27 rfl ?_
  refine zv_ishl dX7_add_29 ?_
  refine zv_ior dX7_add_30 ?_
  refine zr_sI dX7_add_31 h (fun x13 e14 h => ?_)
  refine zv_aload_n (n := 2) dX7_add_32 rfl rfl ?_
  refine zr_gR dX7_add_33 fg_140 h (fun v15 e16 h => ?_)
  refine zv_iload (n := 1) dX7_add_36 rfl ?_
  refine zv_iload (n := 0) dX7_add_38 rfl ?_
  refine zv_iload_n (n := 4) dX7_add_40 rfl rfl ?_
  refine zv_iadd dX7_add_41 ?_
  refine zr_sI dX7_add_42 h (fun x17 e18 h => ?_)
  refine zv_aload_n (n := 2) dX7_add_43 rfl rfl ?_
  refine zr_gR dX7_add_44 fg_144 h (fun v19 e20 h => ?_)
  refine zv_iload (n := 1) dX7_add_47 rfl ?_
  refine zv_aload_n (n := 2) dX7_add_49 rfl rfl ?_
  refine zr_gR dX7_add_50 fg_144 h (fun v21 e22 h => ?_)
  refine zv_iload_n (n := 3) dX7_add_53 rfl rfl ?_
  refine zr_aI dX7_add_54 h (fun v23 e24 h => ?_)
  refine zv_iload_n (n := 5) dX7_add_55 rfl rfl ?_
  refine zv_iconst (v := 1) dX7_add_56 (by decide) ?_
  refine zv_iload_n (n := 4) dX7_add_57 rfl rfl ?_
  refine zv_ishl dX7_add_58 ?_
  refine zv_iconst (v := 1) dX7_add_59 (by decide) ?_
  refine zv_isub dX7_add_60 ?_
  refine zv_iand dX7_add_61 ?_
  refine zv_iload (n := 0) dX7_add_62 rfl ?_
  refine zv_ishl dX7_add_64 ?_
  refine zv_ior dX7_add_65 ?_
  refine zr_sI dX7_add_66 h (fun x25 e26 h => ?_)
  refine zv_aload_n (n := 2) dX7_add_67 rfl rfl ?_
  refine zv_dup dX7_add_68 rfl ?_
  refine zr_gI dX7_add_69 fg_145 h (fun v27 e28 h => ?_)
  refine zv_iconst (v := 1) dX7_add_72 (by decide) ?_
  refine zv_iadd dX7_add_73 ?_
  refine zr_p dX7_add_74 fl_145 (fun q => nomatch q) rfl rfl h (fun x29 e30 h => ?_)
  refine zv_iload (n := 1) dX7_add_77 rfl ?_
  cases h
  exact zv_iret dX7_add_79 rfl
def mX7_add (N : Nat) (a0 : Nat) (a1 : Int32) (a2 : Int32) (a3 : Int32) (x : zv_X) : Option (zv_X × Int32) := mX7_add_0 N a0 a1 a2 a3 x
theorem tX7_add {d : Nat} (hd : 0 ≤ d) {N : Nat} {x : zv_X} {a0 : Nat} {a1 : Int32} {a2 : Int32} {a3 : Int32} {o : (zv_X × Int32)} (h : mX7_add N a0 a1 a2 a3 x = some o) : zv_T d yX7_add cX7_add 6 ((some .int)) [.ref a0, .int a1, .int a2, .int a3] x o.1 (some (.int o.2)) := by
  unfold mX7_add at h
  exact zv_enter (by decide) (Nat.le_of_ble_eq_true rfl) (kX7_add_0 hd _ _ _ _ _ h)

abbrev fX7_has (d : Nat) (x0 : zv_X) (o : (zv_X × Int32)) : zv_G := (d, RX7, cX7_has, 2, (some .boolean), ("has", []), x0, o.1, zv_fin x0 o.1 (some (.int o.2)))
def mX7_has_17 (N : Nat) (s0 : Int32) (x : zv_X) : Option (zv_X × Int32) := if s0 = 0 ∨ s0 = 1 then some (x, s0) else none
theorem kX7_has_17 {d : Nat} {x0 : zv_X} {o : (zv_X × Int32)} (hd : 0 ≤ d) {N : Nat} (s0 : Int32) (x : zv_X) (h : mX7_has_17 N s0 x = some o) : zv_V (fX7_has d x0 o) 17 [] [.int s0] x := by
  unfold mX7_has_17 at h
  obtain ⟨hv, h⟩ := zg h
  cases h
  exact zv_zret dX7_has_17 rfl hv
def mX7_has_16 (N : Nat)  (x : zv_X) : Option (zv_X × Int32) := mX7_has_17 N (0 : Int32) x
theorem kX7_has_16 {d : Nat} {x0 : zv_X} {o : (zv_X × Int32)} (hd : 0 ≤ d) {N : Nat}  (x : zv_X) (h : mX7_has_16 N  x = some o) : zv_V (fX7_has d x0 o) 16 [] [] x := by
  unfold mX7_has_16 at h
  refine zv_iconst (v := 0) dX7_has_16 (by decide) ?_
  exact kX7_has_17 hd _ _ h
def mX7_has_0 (N : Nat) (l0 : Nat) (l1 : Int32) (x : zv_X) : Option (zv_X × Int32) := if l1 < 0 then (mX7_has_16 N x) else ((zm_I x l0 7 3).bind fun v1 => if v1 ≤ l1 then (mX7_has_16 N x) else (mX7_has_17 N (1 : Int32) x))
theorem kX7_has_0 {d : Nat} {x0 : zv_X} {o : (zv_X × Int32)} (hd : 0 ≤ d) {N : Nat} (l0 : Nat) (l1 : Int32) (x : zv_X) (h : mX7_has_0 N l0 l1 x = some o) : zv_V (fX7_has d x0 o) 0 [(0, .ref l0), (1, .int l1)] [] x := by
  unfold mX7_has_0 at h
  refine zv_iload_n (n := 1) dX7_has_0 rfl rfl ?_
  refine zr_if_lt (tgt := 16) dX7_has_1 (by decide) h (fun c4 h => ?_) (fun c4 h => ?_)
  · exact zv_fewer [] rfl (kX7_has_16 hd _ h)
  · refine zv_iload_n (n := 1) dX7_has_4 rfl rfl ?_
    refine zv_aload_n (n := 0) dX7_has_5 rfl rfl ?_
    refine zr_gI dX7_has_6 fg_145 h (fun v1 e2 h => ?_)
    refine zr_icmp_ge (tgt := 16) dX7_has_9 (by decide) h (fun c3 h => ?_) (fun c3 h => ?_)
    · exact zv_fewer [] rfl (kX7_has_16 hd _ h)
    · refine zv_iconst (v := 1) dX7_has_12 (by decide) ?_
      refine zv_goto (tgt := 17) dX7_has_13 (by decide) ?_
      exact zv_fewer [] rfl (kX7_has_17 hd _ _ h)
def mX7_has (N : Nat) (a0 : Nat) (a1 : Int32) (x : zv_X) : Option (zv_X × Int32) := mX7_has_0 N a0 a1 x
theorem tX7_has {d : Nat} (hd : 0 ≤ d) {N : Nat} {x : zv_X} {a0 : Nat} {a1 : Int32} {o : (zv_X × Int32)} (h : mX7_has N a0 a1 x = some o) : zv_T d yX7_has cX7_has 2 ((some .boolean)) [.ref a0, .int a1] x o.1 (some (.int o.2)) := by
  unfold mX7_has at h
  exact zv_enter (by decide) (Nat.le_of_ble_eq_true rfl) (kX7_has_0 hd _ _ _ h)

abbrev fX8_type (d : Nat) (x0 : zv_X) (o : (zv_X × (Int32 ⊕ String))) : zv_G := (d, RX8, cX8_type, 4, (some .int), ("type", []), x0, o.1, zv_finX x0 o)
def mX8_type_41 (N : Nat)  (x : zv_X) : Option (zv_X × (Int32 ⊕ String)) := some (zv_pad x, .inr "java/lang/IllegalArgumentException")
theorem kX8_type_41 {d : Nat} {x0 : zv_X} {o : (zv_X × (Int32 ⊕ String))} (hd : 6 ≤ d) {N : Nat}  (x : zv_X) (h : mX8_type_41 N  x = some o) : zv_V (fX8_type d x0 o) 41 [] [] x := by
  unfold mX8_type_41 at h
  cases h
  exact zx_throw (text := "fields are not such as a class may have") tw_57 (by decide) dX8_type_41 dX8_type_44 dX8_type_45 dX8_type_47 dX8_type_50 (show 6 ≤ d by omega) (Nat.le_of_ble_eq_true rfl)
def mX8_type_0 (N : Nat) (l0 : Nat) (l1 : Int32) (l2 : Int32) (l3 : Int32) (x : zv_X) : Option (zv_X × (Int32 ⊕ String)) := (zm_R x l0 8 0).bind fun v1 => if zm_k x v1 7 = true then ((mX7_has N v1 l1 x).bind fun o3 => if o3.2 = 0 then (some (zv_pad o3.1, .inr "java/lang/IndexOutOfBoundsException")) else (if l2 < 0 then (mX8_type_41 N o3.1) else ((zm_R o3.1 l0 8 0).bind fun v5 => (zm_R o3.1 v5 7 1).bind fun v7 => (zm_aI o3.1 v7 l1).bind fun v9 => if l2 ≤ ((8 : Int32) - v9) then ((zm_R o3.1 l0 8 0).bind fun v11 => (zm_I o3.1 v11 7 3).bind fun v13 => if v13 = (30 : Int32) then (some (zv_pad o3.1, .inr "java/lang/UnsupportedOperationException")) else ((zm_R o3.1 l0 8 0).bind fun v15 => if zm_k o3.1 v15 7 = true then ((mX7_add N v15 l1 l2 l3 o3.1).bind fun o17 => some (o17.1, .inl o17.2)) else none)) else (mX8_type_41 N o3.1)))) else none
theorem kX8_type_0 {d : Nat} {x0 : zv_X} {o : (zv_X × (Int32 ⊕ String))} (hd : 6 ≤ d) {N : Nat} (l0 : Nat) (l1 : Int32) (l2 : Int32) (l3 : Int32) (x : zv_X) (h : mX8_type_0 N l0 l1 l2 l3 x = some o) : zv_V (fX8_type d x0 o) 0 [(0, .ref l0), (1, .int l1), (2, .int l2), (3, .int l3)] [] x := by
  unfold mX8_type_0 at h
  refine zv_aload_n (n := 0) dX8_type_0 rfl rfl ?_
  refine zr_gR dX8_type_1 fg_407 h (fun v1 e2 h => ?_)
  refine zv_iload_n (n := 1) dX8_type_4 rfl rfl ?_
  refine zr_cVi (ci := 7) (st := []) dX8_type_5 mw_X7_has wd_540 wd_541 wd_542 rfl rfl [.int l1] rfl rfl (Nat.le_of_ble_eq_true rfl) (show d - 1 + 1 ≤ d by omega) h (fun o3 e4 => tX7_has (d := d - 1) (by omega) e4) (fun o3 e4 h => ?_)
  refine zr_if_ne (tgt := 21) dX8_type_8 (by decide) h (fun c22 h => ?_) (fun c22 h => ?_)
  · refine zv_iload_n (n := 2) dX8_type_21 rfl rfl ?_
    refine zr_if_lt (tgt := 41) dX8_type_22 (by decide) h (fun c21 h => ?_) (fun c21 h => ?_)
    · exact zv_fewer [] rfl (kX8_type_41 hd _ h)
    · refine zv_iload_n (n := 2) dX8_type_25 rfl rfl ?_
      refine zv_bipush (v := 8) dX8_type_26 (by decide) ?_
      refine zv_aload_n (n := 0) dX8_type_28 rfl rfl ?_
      refine zr_gR dX8_type_29 fg_407 h (fun v5 e6 h => ?_)
      refine zr_gR dX8_type_32 fg_142 h (fun v7 e8 h => ?_)
      refine zv_iload_n (n := 1) dX8_type_35 rfl rfl ?_
      refine zr_aI dX8_type_36 h (fun v9 e10 h => ?_)
      refine zv_isub dX8_type_37 ?_
      refine zr_icmp_le (tgt := 51) dX8_type_38 (by decide) h (fun c20 h => ?_) (fun c20 h => ?_)
      · refine zv_aload_n (n := 0) dX8_type_51 rfl rfl ?_
        refine zr_gR dX8_type_52 fg_407 h (fun v11 e12 h => ?_)
        refine zr_gI dX8_type_55 fg_146 h (fun v13 e14 h => ?_)
        refine zv_bipush (v := 30) dX8_type_58 (by decide) ?_
        refine zr_icmp_ne (tgt := 73) dX8_type_60 (by decide) h (fun c19 h => ?_) (fun c19 h => ?_)
        · refine zv_aload_n (n := 0) dX8_type_73 rfl rfl ?_
          refine zr_gR dX8_type_74 fg_407 h (fun v15 e16 h => ?_)
          refine zv_iload_n (n := 1) dX8_type_77 rfl rfl ?_
          refine zv_iload_n (n := 2) dX8_type_78 rfl rfl ?_
          refine zv_iload_n (n := 3) dX8_type_79 rfl rfl ?_
          refine zr_cVi (ci := 7) (st := []) dX8_type_80 mw_X7_add wd_562 wd_563 wd_564 rfl rfl [.int l1, .int l2, .int l3] rfl rfl (Nat.le_of_ble_eq_true rfl) (show d - 1 + 1 ≤ d by omega) h (fun o17 e18 => tX7_add (d := d - 1) (by omega) e18) (fun o17 e18 h => ?_)
          cases h
          exact zx_iret dX8_type_83 rfl
        · cases h
          exact zx_throw (text := "there are 30 classes") tw_68 (by decide) dX8_type_63 dX8_type_66 dX8_type_67 dX8_type_69 dX8_type_72 (show 6 ≤ d by omega) (Nat.le_of_ble_eq_true rfl)
      · exact zv_fewer [] rfl (kX8_type_41 hd _ h)
  · cases h
    exact zx_throw (text := "no such parent") tw_81 (by decide) dX8_type_11 dX8_type_14 dX8_type_15 dX8_type_17 dX8_type_20 (show 6 ≤ d by omega) (Nat.le_of_ble_eq_true rfl)
def mX8_type (N : Nat) (a0 : Nat) (a1 : Int32) (a2 : Int32) (a3 : Int32) (x : zv_X) : Option (zv_X × (Int32 ⊕ String)) := mX8_type_0 N a0 a1 a2 a3 x
theorem tX8_type {d : Nat} (hd : 6 ≤ d) {N : Nat} {x : zv_X} {a0 : Nat} {a1 : Int32} {a2 : Int32} {a3 : Int32} {o : (zv_X × (Int32 ⊕ String))} (h : mX8_type N a0 a1 a2 a3 x = some o) : zv_TX d yX8_type cX8_type 4 ((some .int)) [.ref a0, .int a1, .int a2, .int a3] x o := by
  unfold mX8_type at h
  exact zx_enter (by decide) (Nat.le_of_ble_eq_true rfl) (kX8_type_0 hd _ _ _ _ _ h)

abbrev fX0_appendHandler (d : Nat) (x0 : zv_X) (o : zv_X) : zv_G := (d, RX0, cX0_appendHandler, 6, none, ("appendHandler", []), x0, o, zv_fin x0 o none)
def mX0_appendHandler_0 (N : Nat) (l0 : Nat) (l1 : Int32) (l2 : Int32) (l3 : Int32) (l4 : Int32) (x : zv_X) : Option zv_X := (zm_I x l0 0 3).bind fun v1 => (zm_R x l0 0 1).bind fun v3 => (zm_sI x v3 (v1 * (4 : Int32)) l1).bind fun x5 => (zm_R x5 l0 0 1).bind fun v7 => (zm_sI x5 v7 ((v1 * (4 : Int32)) + (1 : Int32)) l2).bind fun x9 => (zm_R x9 l0 0 1).bind fun v11 => (zm_sI x9 v11 ((v1 * (4 : Int32)) + (2 : Int32)) l3).bind fun x13 => (zm_R x13 l0 0 1).bind fun v15 => (zm_sI x13 v15 ((v1 * (4 : Int32)) + (3 : Int32)) l4).bind fun x17 => (zm_I x17 l0 0 3).bind fun v19 => (zm_p x17 l0 0 3 (.int (v19 + (1 : Int32)))).bind fun x21 => some x21
theorem kX0_appendHandler_0 {d : Nat} {x0 : zv_X} {o : zv_X} (hd : 0 ≤ d) {N : Nat} (l0 : Nat) (l1 : Int32) (l2 : Int32) (l3 : Int32) (l4 : Int32) (x : zv_X) (h : mX0_appendHandler_0 N l0 l1 l2 l3 l4 x = some o) : zv_V (fX0_appendHandler d x0 o) 0 [(0, .ref l0), (1, .int l1), (2, .int l2), (3, .int l3), (4, .int l4)] [] x := by
  unfold mX0_appendHandler_0 at h
  refine zv_aload_n (n := 0) dX0_appendHandler_0 rfl rfl ?_
  refine zr_gI dX0_appendHandler_1 fg_167 h (fun v1 e2 h => ?_)
  refine zv_iconst (v := 4) dX0_appendHandler_4 (by decide) ?_
  refine zv_imul dX0_appendHandler_5 ?_
  refine zv_istore (L' := [(5, .int (v1 * (4 : Int32))), (0, .ref l0), (1, .int l1), (2, .int l2), (3, .int l3), (4, .int l4)]) dX0_appendHandler_6 (Nat.le_of_ble_eq_true rfl) rfl ?_
  refine zv_aload_n (n := 1) dX0_appendHandler_8 rfl rfl ?_
  refine zr_gR dX0_appendHandler_9 fg_164 h (fun v3 e4 h => ?_)
  refine zv_iload (n := 0) dX0_appendHandler_12 rfl ?_
  refine zv_iload_n (n := 2) dX0_appendHandler_14 rfl rfl ?_
  refine zr_sI dX0_appendHandler_15 h (fun x5 e6 h => ?_)
  refine zv_aload_n (n := 1) dX0_appendHandler_16 rfl rfl ?_
  refine zr_gR dX0_appendHandler_17 fg_164 h (fun v7 e8 h => ?_)
  refine zv_iload (n := 0) dX0_appendHandler_20 rfl ?_
  refine zv_iconst (v := 1) dX0_appendHandler_22 (by decide) ?_
  refine zv_iadd dX0_appendHandler_23 ?_
  refine zv_iload_n (n := 3) dX0_appendHandler_24 rfl rfl ?_
  refine zr_sI dX0_appendHandler_25 h (fun x9 e10 h => ?_)
  refine zv_aload_n (n := 1) dX0_appendHandler_26 rfl rfl ?_
  refine zr_gR dX0_appendHandler_27 fg_164 h (fun v11 e12 h => ?_)
  refine zv_iload (n := 0) dX0_appendHandler_30 rfl ?_
  refine zv_iconst (v := 2) dX0_appendHandler_32 (by decide) ?_
  refine zv_iadd dX0_appendHandler_33 ?_
  refine zv_iload_n (n := 4) dX0_appendHandler_34 rfl rfl ?_
  refine zr_sI dX0_appendHandler_35 h (fun x13 e14 h => ?_)
  refine zv_aload_n (n := 1) dX0_appendHandler_36 rfl rfl ?_
  refine zr_gR dX0_appendHandler_37 fg_164 h (fun v15 e16 h => ?_)
  refine zv_iload (n := 0) dX0_appendHandler_40 rfl ?_
  refine zv_iconst (v := 3) dX0_appendHandler_42 (by decide) ?_
  refine zv_iadd dX0_appendHandler_43 ?_
  refine zv_iload (n := 5) dX0_appendHandler_44 rfl ?_
  refine zr_sI dX0_appendHandler_46 h (fun x17 e18 h => ?_)
  refine zv_aload_n (n := 1) dX0_appendHandler_47 rfl rfl ?_
  refine zv_dup dX0_appendHandler_48 rfl ?_
  refine zr_gI dX0_appendHandler_49 fg_167 h (fun v19 e20 h => ?_)
  refine zv_iconst (v := 1) dX0_appendHandler_52 (by decide) ?_
  refine zv_iadd dX0_appendHandler_53 ?_
  refine zr_p dX0_appendHandler_54 fl_167 (fun q => nomatch q) rfl rfl h (fun x21 e22 h => ?_)
  cases h
  exact zv_vret dX0_appendHandler_57 rfl
def mX0_appendHandler (N : Nat) (a0 : Nat) (a1 : Int32) (a2 : Int32) (a3 : Int32) (a4 : Int32) (x : zv_X) : Option zv_X := mX0_appendHandler_0 N a0 a1 a2 a3 a4 x
theorem tX0_appendHandler {d : Nat} (hd : 0 ≤ d) {N : Nat} {x : zv_X} {a0 : Nat} {a1 : Int32} {a2 : Int32} {a3 : Int32} {a4 : Int32} {o : zv_X} (h : mX0_appendHandler N a0 a1 a2 a3 a4 x = some o) : zv_T d yX0_appendHandler cX0_appendHandler 6 (none) [.ref a0, .int a1, .int a2, .int a3, .int a4] x o none := by
  unfold mX0_appendHandler at h
  exact zv_enter (by decide) (Nat.le_of_ble_eq_true rfl) (kX0_appendHandler_0 hd _ _ _ _ _ _ h)
