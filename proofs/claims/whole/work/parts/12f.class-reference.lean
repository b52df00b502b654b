abbrev fX2_wordsOfObject (d : Nat) (x0 : zv_X) (o : (zv_X × Int32)) : zv_G := (d, RX2, cX2_wordsOfObject, 2, (some .int), ("wordsOfObject", []), x0, o.1, zv_fin x0 o.1 (some (.int o.2)))
def mX2_wordsOfObject_0 (N : Nat) (l0 : Nat) (l1 : Int32) (x : zv_X) : Option (zv_X × Int32) := (zm_R x l0 2 0).bind fun v1 => (zm_R x v1 7 1).bind fun v3 => (zm_aI x v3 l1).bind fun v5 => some (x, (2 : Int32) + v5)
theorem kX2_wordsOfObject_0 {d : Nat} {x0 : zv_X} {o : (zv_X × Int32)} (hd : 0 ≤ d) {N : Nat} (l0 : Nat) (l1 : Int32) (x : zv_X) (h : mX2_wordsOfObject_0 N l0 l1 x = some o) : zv_V (fX2_wordsOfObject d x0 o) 0 [(0, .ref l0), (1, .int l1)] [] x := by
  unfold mX2_wordsOfObject_0 at h
  refine zv_iconst (v := 2) dX2_wordsOfObject_0 (by decide) ?_
  refine zv_aload_n (n := 0) dX2_wordsOfObject_1 rfl rfl ?_
  refine zr_gR dX2_wordsOfObject_2 fg_267 h (fun v1 e2 h => ?_)
  refine zr_gR dX2_wordsOfObject_5 fg_141 h (fun v3 e4 h => ?_)
  refine zv_iload_n (n := 1) dX2_wordsOfObject_8 rfl rfl ?_
  refine zr_aI dX2_wordsOfObject_9 h (fun v5 e6 h => ?_)
  refine zv_iadd dX2_wordsOfObject_10 ?_
  cases h
  exact zv_iret dX2_wordsOfObject_11 rfl
def mX2_wordsOfObject (N : Nat) (a0 : Nat) (a1 : Int32) (x : zv_X) : Option (zv_X × Int32) := mX2_wordsOfObject_0 N a0 a1 x
theorem tX2_wordsOfObject {d : Nat} (hd : 0 ≤ d) {N : Nat} {x : zv_X} {a0 : Nat} {a1 : Int32} {o : (zv_X × Int32)} (h : mX2_wordsOfObject N a0 a1 x = some o) : zv_T d yX2_wordsOfObject cX2_wordsOfObject 2 ((some .int)) [.ref a0, .int a1] x o.1 (some (.int o.2)) := by
  unfold mX2_wordsOfObject at h
  exact zv_enter (by decide) (Nat.le_of_ble_eq_true rfl) (kX2_wordsOfObject_0 hd _ _ _ h)

abbrev fX2_reach (d : Nat) (x0 : zv_X) (o : zv_X) : zv_G := (d, RX2, cX2_reach, 2, none, ("reach", []), x0, o, zv_fin x0 o none)
def mX2_reach_17 (N : Nat)  (x : zv_X) : Option zv_X := some x
theorem kX2_reach_17 {d : Nat} {x0 : zv_X} {o : zv_X} (hd : 0 ≤ d) {N : Nat}  (x : zv_X) (h : mX2_reach_17 N  x = some o) : zv_V (fX2_reach d x0 o) 17 [] [] x := by
  unfold mX2_reach_17 at h
  cases h
  exact zv_vret dX2_reach_17 rfl
def mX2_reach_0 (N : Nat) (l0 : Nat) (l1 : Int32) (x : zv_X) : Option zv_X := if l1 = 0 then (mX2_reach_17 N x) else ((zm_R x l0 2 4).bind fun v1 => (zm_aI x v1 l1).bind fun v3 => (zm_I x l0 2 9).bind fun v5 => if v3 = v5 then (mX2_reach_17 N x) else ((zm_R x l0 2 4).bind fun v7 => (zm_I x l0 2 9).bind fun v9 => (zm_sI x v7 l1 v9).bind fun x11 => (zm_R x11 l0 2 6).bind fun v13 => (zm_I x11 l0 2 10).bind fun v15 => (zm_sI x11 v13 v15 l1).bind fun x17 => (zm_I x17 l0 2 10).bind fun v19 => (zm_p x17 l0 2 10 (.int (v19 + (1 : Int32)))).bind fun x21 => some x21))
theorem kX2_reach_0 {d : Nat} {x0 : zv_X} {o : zv_X} (hd : 0 ≤ d) {N : Nat} (l0 : Nat) (l1 : Int32) (x : zv_X) (h : mX2_reach_0 N l0 l1 x = some o) : zv_V (fX2_reach d x0 o) 0 [(0, .ref l0), (1, .int l1)] [] x := by
  unfold mX2_reach_0 at h
  refine zv_iload_n (n := 1) dX2_reach_0 rfl rfl ?_
  refine zr_if_eq (tgt := 17) dX2_reach_1 (by decide) h (fun c24 h => ?_) (fun c24 h => ?_)
  · exact zv_fewer [] rfl (kX2_reach_17 hd _ h)
  · refine zv_aload_n (n := 0) dX2_reach_4 rfl rfl ?_
    refine zr_gR dX2_reach_5 fg_271 h (fun v1 e2 h => ?_)
    refine zv_iload_n (n := 1) dX2_reach_8 rfl rfl ?_
    refine zr_aI dX2_reach_9 h (fun v3 e4 h => ?_)
    refine zv_aload_n (n := 0) dX2_reach_10 rfl rfl ?_
    refine zr_gI dX2_reach_11 fg_276 h (fun v5 e6 h => ?_)
    refine zr_icmp_ne (tgt := 18) dX2_reach_14 (by decide) h (fun c23 h => ?_) (fun c23 h => ?_)
    · refine zv_aload_n (n := 0) dX2_reach_18 rfl rfl ?_
      refine zr_gR dX2_reach_19 fg_271 h (fun v7 e8 h => ?_)
      refine zv_iload_n (n := 1) dX2_reach_22 rfl rfl ?_
      refine zv_aload_n (n := 0) dX2_reach_23 rfl rfl ?_
      refine zr_gI dX2_reach_24 fg_276 h (fun v9 e10 h => ?_)
      refine zr_sI dX2_reach_27 h (fun x11 e12 h => ?_)
      refine zv_aload_n (n := 0) dX2_reach_28 rfl rfl ?_
      refine zr_gR dX2_reach_29 fg_273 h (fun v13 e14 h => ?_)
      refine zv_aload_n (n := 0) dX2_reach_32 rfl rfl ?_
      refine zr_gI dX2_reach_33 fg_277 h (fun v15 e16 h => ?_)
      refine zv_iload_n (n := 1) dX2_reach_36 rfl rfl ?_
      refine zr_sI dX2_reach_37 h (fun x17 e18 h => ?_)
      refine zv_aload_n (n := 0) dX2_reach_38 rfl rfl ?_
      refine zv_dup dX2_reach_39 rfl ?_
      refine zr_gI dX2_reach_40 fg_277 h (fun v19 e20 h => ?_)
      refine zv_iconst (v := 1) dX2_reach_43 (by decide) ?_
      refine zv_iadd dX2_reach_44 ?_
      refine zr_p dX2_reach_45 fl_277 (fun q => nomatch q) rfl rfl h (fun x21 e22 h => ?_)
      cases h
      exact zv_vret dX2_reach_48 rfl
    · exact zv_fewer [] rfl (kX2_reach_17 hd _ h)
def mX2_reach (N : Nat) (a0 : Nat) (a1 : Int32) (x : zv_X) : Option zv_X := mX2_reach_0 N a0 a1 x
theorem tX2_reach {d : Nat} (hd : 0 ≤ d) {N : Nat} {x : zv_X} {a0 : Nat} {a1 : Int32} {o : zv_X} (h : mX2_reach N a0 a1 x = some o) : zv_T d yX2_reach cX2_reach 2 (none) [.ref a0, .int a1] x o none := by
  unfold mX2_reach at h
  exact zv_enter (by decide) (Nat.le_of_ble_eq_true rfl) (kX2_reach_0 hd _ _ _ h)

abbrev fX1_showReferences (d : Nat) (x0 : zv_X) (o : zv_X) : zv_G := (d, RX1, cX1_showReferences, 3, none, ("showReferences", []), x0, o, zv_fin x0 o none)
def mX1_showReferences_2 (N : Nat) : Nat → Nat → Nat → Int32 → zv_X → Option zv_X
  | 0, _, _, _, _ => none
  | n + 1, l0, l1, l2, x => (zm_I x l0 1 2).bind fun v1 => if v1 ≤ l2 then (some x) else ((zm_R x l0 1 1).bind fun v3 => (zm_aI x v3 l2).bind fun v5 => if zm_k x l1 2 = true then ((mX2_reach N l1 v5 x).bind fun o7 => mX1_showReferences_2 N n l0 l1 (l2 + (1)) o7) else none)
theorem kX1_showReferences_2 {d : Nat} {x0 : zv_X} {o : zv_X} (hd : 1 ≤ d) {N : Nat} : ∀ (n : Nat) (l0 : Nat) (l1 : Nat) (l2 : Int32) (x : zv_X), mX1_showReferences_2 N n l0 l1 l2 x = some o → zv_V (fX1_showReferences d x0 o) 2 [(0, .ref l0), (1, .ref l1), (2, .int l2)] [] x := by
  intro n
  induction n with
  | zero => intro l0 l1 l2 x h; cases h
  | succ n ih =>
    intro l0 l1 l2 x h
    unfold mX1_showReferences_2 at h
    refine zv_iload_n (n := 2) dX1_showReferences_2 rfl rfl ?_
    refine zv_aload_n (n := 0) dX1_showReferences_3 rfl rfl ?_
    refine zr_gI dX1_showReferences_4 fg_350 h (fun v1 e2 h => ?_)
    refine zr_icmp_ge (tgt := 26) dX1_showReferences_7 (by decide) h (fun c9 h => ?_) (fun c9 h => ?_)
    · cases h
      exact zv_vret dX1_showReferences_26 rfl
    · refine zv_aload_n (n := 1) dX1_showReferences_10 rfl rfl ?_
      refine zv_aload_n (n := 0) dX1_showReferences_11 rfl rfl ?_
      refine zr_gR dX1_showReferences_12 fg_349 h (fun v3 e4 h => ?_)
      refine zv_iload_n (n := 2) dX1_showReferences_15 rfl rfl ?_
      refine zr_aI dX1_showReferences_16 h (fun v5 e6 h => ?_)
      refine zr_cVv (ci := 2) (st := []) dX1_showReferences_17 mw_X2_reach wd_1312 wd_1313 wd_1314 rfl rfl [.int v5] rfl rfl (Nat.le_of_ble_eq_true rfl) (show d - 1 + 1 ≤ d by omega) h (fun o7 e8 => tX2_reach (d := d - 1) (by omega) e8) (fun o7 e8 h => ?_)
      refine zv_iinc (n := 2) (v := l2 + (1)) (L' := [(2, .int (l2 + (1))), (0, .ref l0), (1, .ref l1)]) dX1_showReferences_20 rfl rfl (Nat.le_of_ble_eq_true rfl) rfl ?_
      refine zv_goto (tgt := 2) dX1_showReferences_23 (by decide) ?_
      exact zv_fewer [1, 2, 0] rfl (ih _ _ _ _ h)
def mX1_showReferences_0 (N : Nat) (l0 : Nat) (l1 : Nat) (x : zv_X) : Option zv_X := mX1_showReferences_2 N N l0 l1 (0 : Int32) x
theorem kX1_showReferences_0 {d : Nat} {x0 : zv_X} {o : zv_X} (hd : 1 ≤ d) {N : Nat} (l0 : Nat) (l1 : Nat) (x : zv_X) (h : mX1_showReferences_0 N l0 l1 x = some o) : zv_V (fX1_showReferences d x0 o) 0 [(0, .ref l0), (1, .ref l1)] [] x := by
  unfold mX1_showReferences_0 at h
  refine zv_iconst (v := 0) dX1_showReferences_0 (by decide) ?_
  refine zv_istore_n (L' := [(2, .int (0 : Int32)), (0, .ref l0), (1, .ref l1)]) dX1_showReferences_1 rfl (Nat.le_of_ble_eq_true rfl) rfl ?_
  exact zv_fewer [1, 2, 0] rfl (kX1_showReferences_2 hd N _ _ _ _ h)
def mX1_showReferences (N : Nat) (a0 : Nat) (a1 : Nat) (x : zv_X) : Option zv_X := mX1_showReferences_0 N a0 a1 x
theorem tX1_showReferences {d : Nat} (hd : 1 ≤ d) {N : Nat} {x : zv_X} {a0 : Nat} {a1 : Nat} {o : zv_X} (h : mX1_showReferences N a0 a1 x = some o) : zv_T d yX1_showReferences cX1_showReferences 3 (none) [.ref a0, .ref a1] x o none := by
  unfold mX1_showReferences at h
  exact zv_enter (by decide) (Nat.le_of_ble_eq_true rfl) (kX1_showReferences_0 hd _ _ _ h)

abbrev fX2_sweep (d : Nat) (x0 : zv_X) (o : zv_X) : zv_G := (d, RX2, cX2_sweep, 5, none, ("sweep", []), x0, o, zv_fin x0 o none)
def mX2_sweep_106 (K6 : Nat → Int32 → Int32 → Int32 → zv_X → Option zv_X) (N : Nat) (l0 : Nat) (l1 : Int32) (l2 : Int32) (l3 : Int32) (x : zv_X) : Option zv_X := K6 l0 l1 l2 (l3 + (1)) x
theorem kX2_sweep_106 {d : Nat} {x0 : zv_X} {o : zv_X} (hd : 1 ≤ d) {K6 : Nat → Int32 → Int32 → Int32 → zv_X → Option zv_X} (hK6 : ∀ (l0 : Nat) (l1 : Int32) (l2 : Int32) (l3 : Int32) (x : zv_X), K6 l0 l1 l2 l3 x = some o → zv_V (fX2_sweep d x0 o) 6 [(0, .ref l0), (1, .int l1), (2, .int l2), (3, .int l3)] [] x) {N : Nat} (l0 : Nat) (l1 : Int32) (l2 : Int32) (l3 : Int32) (x : zv_X) (h : mX2_sweep_106 K6 N l0 l1 l2 l3 x = some o) : zv_V (fX2_sweep d x0 o) 106 [(0, .ref l0), (1, .int l1), (2, .int l2), (3, .int l3)] [] x := by
  unfold mX2_sweep_106 at h
  refine zv_iinc (n := 3) (v := l3 + (1)) (L' := [(3, .int (l3 + (1))), (0, .ref l0), (1, .int l1), (2, .int l2)]) dX2_sweep_106 rfl rfl (Nat.le_of_ble_eq_true rfl) rfl ?_
  refine zv_goto (tgt := 6) dX2_sweep_109 (by decide) ?_
  exact zv_fewer [1, 2, 3, 0] rfl (hK6 _ _ _ _ _ h)
def mX2_sweep_6 (N : Nat) : Nat → Nat → Int32 → Int32 → Int32 → zv_X → Option zv_X
  | 0, _, _, _, _, _ => none
  | n + 1, l0, l1, l2, l3, x => (zm_I x l0 2 7).bind fun v1 => if v1 ≤ l3 then ((zm_p x l0 2 7 (.int l1)).bind fun x3 => (zm_p x3 l0 2 8 (.int l2)).bind fun x5 => some x5) else ((zm_R x l0 2 5).bind fun v7 => (zm_aI x v7 l3).bind fun v9 => (zm_R x l0 2 4).bind fun v11 => (zm_aI x v11 v9).bind fun v13 => (zm_I x l0 2 9).bind fun v15 => if v13 = v15 then ((zm_R x l0 2 1).bind fun v17 => (zm_R x l0 2 2).bind fun v19 => (zm_aI x v19 v9).bind fun v21 => (zm_R x l0 2 1).bind fun v23 => (zm_R x l0 2 3).bind fun v25 => (zm_aI x v25 v9).bind fun v27 => (zm_cp x v17 v21 v23 l2 v27).bind fun x29 => (zm_R x29 l0 2 2).bind fun v31 => (zm_sI x29 v31 v9 l2).bind fun x33 => (zm_R x33 l0 2 3).bind fun v35 => (zm_aI x33 v35 v9).bind fun v37 => (zm_R x33 l0 2 5).bind fun v39 => (zm_R x33 l0 2 5).bind fun v41 => (zm_aI x33 v41 l1).bind fun v43 => (zm_sI x33 v39 l3 v43).bind fun x45 => (zm_R x45 l0 2 5).bind fun v47 => (zm_sI x45 v47 l1 v9).bind fun x49 => mX2_sweep_106 (mX2_sweep_6 N n) N l0 (l1 + (1)) (l2 + v37) l3 x49) else (mX2_sweep_106 (mX2_sweep_6 N n) N l0 l1 l2 l3 x))
theorem kX2_sweep_6 {d : Nat} {x0 : zv_X} {o : zv_X} (hd : 1 ≤ d) {N : Nat} : ∀ (n : Nat) (l0 : Nat) (l1 : Int32) (l2 : Int32) (l3 : Int32) (x : zv_X), mX2_sweep_6 N n l0 l1 l2 l3 x = some o → zv_V (fX2_sweep d x0 o) 6 [(0, .ref l0), (1, .int l1), (2, .int l2), (3, .int l3)] [] x := by
  intro n
  induction n with
  | zero => intro l0 l1 l2 l3 x h; cases h
  | succ n ih =>
    intro l0 l1 l2 l3 x h
    unfold mX2_sweep_6 at h
    refine zv_iload_n (n := 3) dX2_sweep_6 rfl rfl ?_
    refine zv_aload_n (n := 0) dX2_sweep_7 rfl rfl ?_
    refine zr_gI dX2_sweep_8 fg_274 h (fun v1 e2 h => ?_)
    refine zr_icmp_ge (tgt := 112) dX2_sweep_11 (by decide) h (fun c52 h => ?_) (fun c52 h => ?_)
    · refine zv_aload_n (n := 0) dX2_sweep_112 rfl rfl ?_
      refine zv_iload_n (n := 1) dX2_sweep_113 rfl rfl ?_
      refine zr_p dX2_sweep_114 fl_274 (fun q => nomatch q) rfl rfl h (fun x3 e4 h => ?_)
      refine zv_aload_n (n := 0) dX2_sweep_117 rfl rfl ?_
      refine zv_iload_n (n := 2) dX2_sweep_118 rfl rfl ?_
      refine zr_p dX2_sweep_119 fl_275 (fun q => nomatch q) rfl rfl h (fun x5 e6 h => ?_)
      cases h
      exact zv_vret dX2_sweep_122 rfl
    · refine zv_aload_n (n := 0) dX2_sweep_14 rfl rfl ?_
      refine zr_gR dX2_sweep_15 fg_272 h (fun v7 e8 h => ?_)
      refine zv_iload_n (n := 3) dX2_sweep_18 rfl rfl ?_
      refine zr_aI dX2_sweep_19 h (fun v9 e10 h => ?_)
      refine zv_istore (L' := [(4, .int v9), (0, .ref l0), (1, .int l1), (2, .int l2), (3, .int l3)]) dX2_sweep_20 (Nat.le_of_ble_eq_true rfl) rfl ?_
      refine zv_aload_n (n := 1) dX2_sweep_22 rfl rfl ?_
      refine zr_gR dX2_sweep_23 fg_271 h (fun v11 e12 h => ?_)
      refine zv_iload (n := 0) dX2_sweep_26 rfl ?_
      refine zr_aI dX2_sweep_28 h (fun v13 e14 h => ?_)
      refine zv_aload_n (n := 1) dX2_sweep_29 rfl rfl ?_
      refine zr_gI dX2_sweep_30 fg_276 h (fun v15 e16 h => ?_)
      refine zr_icmp_eq (tgt := 39) dX2_sweep_33 (by decide) h (fun c51 h => ?_) (fun c51 h => ?_)
      · refine zv_aload_n (n := 1) dX2_sweep_39 rfl rfl ?_
        refine zr_gR dX2_sweep_40 fg_268 h (fun v17 e18 h => ?_)
        refine zv_aload_n (n := 1) dX2_sweep_43 rfl rfl ?_
        refine zr_gR dX2_sweep_44 fg_269 h (fun v19 e20 h => ?_)
        refine zv_iload (n := 0) dX2_sweep_47 rfl ?_
        refine zr_aI dX2_sweep_49 h (fun v21 e22 h => ?_)
        refine zv_aload_n (n := 1) dX2_sweep_50 rfl rfl ?_
        refine zr_gR dX2_sweep_51 fg_268 h (fun v23 e24 h => ?_)
        refine zv_iload_n (n := 3) dX2_sweep_54 rfl rfl ?_
        refine zv_aload_n (n := 1) dX2_sweep_55 rfl rfl ?_
        refine zr_gR dX2_sweep_56 fg_270 h (fun v25 e26 h => ?_)
        refine zv_iload (n := 0) dX2_sweep_59 rfl ?_
        refine zr_aI dX2_sweep_61 h (fun v27 e28 h => ?_)
        refine zr_cp dX2_sweep_62 wd_1335 wd_616 wd_615 wd_111 (show 1 ≤ d by omega) (Nat.le_of_ble_eq_true rfl) h (fun x29 e30 h => ?_)
        refine zv_aload_n (n := 1) dX2_sweep_65 rfl rfl ?_
        refine zr_gR dX2_sweep_66 fg_269 h (fun v31 e32 h => ?_)
        refine zv_iload (n := 0) dX2_sweep_69 rfl ?_
        refine zv_iload_n (n := 3) dX2_sweep_71 rfl rfl ?_
        refine zr_sI dX2_sweep_72 h (fun x33 e34 h => ?_)
        refine zv_iload_n (n := 3) dX2_sweep_73 rfl rfl ?_
        refine zv_aload_n (n := 1) dX2_sweep_74 rfl rfl ?_
        refine zr_gR dX2_sweep_75 fg_270 h (fun v35 e36 h => ?_)
        refine zv_iload (n := 0) dX2_sweep_78 rfl ?_
        refine zr_aI dX2_sweep_80 h (fun v37 e38 h => ?_)
        refine zv_iadd dX2_sweep_81 ?_
        refine zv_istore_n (L' := [(2, .int (l2 + v37)), (4, .int v9), (0, .ref l0), (1, .int l1), (3, .int l3)]) dX2_sweep_82 rfl (Nat.le_of_ble_eq_true rfl) rfl ?_
        refine zv_aload_n (n := 2) dX2_sweep_83 rfl rfl ?_
        refine zr_gR dX2_sweep_84 fg_272 h (fun v39 e40 h => ?_)
        refine zv_iload_n (n := 4) dX2_sweep_87 rfl rfl ?_
        refine zv_aload_n (n := 2) dX2_sweep_88 rfl rfl ?_
        refine zr_gR dX2_sweep_89 fg_272 h (fun v41 e42 h => ?_)
        refine zv_iload_n (n := 3) dX2_sweep_92 rfl rfl ?_
        refine zr_aI dX2_sweep_93 h (fun v43 e44 h => ?_)
        refine zr_sI dX2_sweep_94 h (fun x45 e46 h => ?_)
        refine zv_aload_n (n := 2) dX2_sweep_95 rfl rfl ?_
        refine zr_gR dX2_sweep_96 fg_272 h (fun v47 e48 h => ?_)
        refine zv_iload_n (n := 3) dX2_sweep_99 rfl rfl ?_
        refine zv_iload (n := 1) dX2_sweep_100 rfl ?_
        refine zr_sI dX2_sweep_102 h (fun x49 e50 h => ?_)
        refine zv_iinc (n := 3) (v := l1 + (1)) (L' := [(1, .int (l1 + (1))), (2, .int (l2 + v37)), (4, .int v9), (0, .ref l0), (3, .int l3)]) dX2_sweep_103 rfl rfl (Nat.le_of_ble_eq_true rfl) rfl ?_
        exact zv_fewer [3, 0, 1, 4] rfl (kX2_sweep_106 hd ih _ _ _ _ _ h)
      · refine zv_goto (tgt := 106) dX2_sweep_36 (by decide) ?_
        exact zv_fewer [1, 2, 3, 4] rfl (kX2_sweep_106 hd ih _ _ _ _ _ h)
def mX2_sweep_0 (N : Nat) (l0 : Nat) (x : zv_X) : Option zv_X := mX2_sweep_6 N N l0 (0 : Int32) (0 : Int32) (0 : Int32) x
theorem kX2_sweep_0 {d : Nat} {x0 : zv_X} {o : zv_X} (hd : 1 ≤ d) {N : Nat} (l0 : Nat) (x : zv_X) (h : mX2_sweep_0 N l0 x = some o) : zv_V (fX2_sweep d x0 o) 0 [(0, .ref l0)] [] x := by
  unfold mX2_sweep_0 at h
  refine zv_iconst (v := 0) dX2_sweep_0 (by decide) ?_
  refine zv_istore_n (L' := [(1, .int (0 : Int32)), (0, .ref l0)]) dX2_sweep_1 rfl (Nat.le_of_ble_eq_true rfl) rfl ?_
  refine zv_iconst (v := 0) dX2_sweep_2 (by decide) ?_
  refine zv_istore_n (L' := [(2, .int (0 : Int32)), (1, .int (0 : Int32)), (0, .ref l0)]) dX2_sweep_3 rfl (Nat.le_of_ble_eq_true rfl) rfl ?_
  refine zv_iconst (v := 0) dX2_sweep_4 (by decide) ?_
  refine zv_istore_n (L' := [(3, .int (0 : Int32)), (2, .int (0 : Int32)), (1, .int (0 : Int32)), (0, .ref l0)]) dX2_sweep_5 rfl (Nat.le_of_ble_eq_true rfl) rfl ?_
  exact zv_fewer [3, 2, 1, 0] rfl (kX2_sweep_6 hd N _ _ _ _ _ h)
def mX2_sweep (N : Nat) (a0 : Nat) (x : zv_X) : Option zv_X := mX2_sweep_0 N a0 x
theorem tX2_sweep {d : Nat} (hd : 1 ≤ d) {N : Nat} {x : zv_X} {a0 : Nat} {o : zv_X} (h : mX2_sweep N a0 x = some o) : zv_T d yX2_sweep cX2_sweep 5 (none) [.ref a0] x o none := by
  unfold mX2_sweep at h
  exact zv_enter (by decide) (Nat.le_of_ble_eq_true rfl) (kX2_sweep_0 hd _ _ h)

abbrev fX2_add (d : Nat) (x0 : zv_X) (o : (zv_X × Int32)) : zv_G := (d, RX2, cX2_add, 5, (some .int), ("add", []), x0, o.1, zv_fin x0 o.1 (some (.int o.2)))
def mX2_add_30 (N : Nat) (l0 : Nat) (l1 : Int32) (l2 : Int32) (l3 : Int32) (x : zv_X) : Option (zv_X × Int32) := (zm_R x l0 2 5).bind fun v1 => (zm_I x l0 2 7).bind fun v3 => (zm_aI x v1 v3).bind fun v5 => (zm_I x l0 2 7).bind fun v7 => (zm_p x l0 2 7 (.int (v7 + (1 : Int32)))).bind fun x9 => (zm_R x9 l0 2 2).bind fun v11 => (zm_I x9 l0 2 8).bind fun v13 => (zm_sI x9 v11 v5 v13).bind fun x15 => (zm_R x15 l0 2 3).bind fun v17 => (zm_sI x15 v17 v5 l3).bind fun x19 => (zm_R x19 l0 2 1).bind fun v21 => (zm_I x19 l0 2 8).bind fun v23 => (zm_I x19 l0 2 8).bind fun v25 => (mJ7_fill_fda19 N v21 v23 (v25 + l3) (0 : Int32) x19).bind fun o27 => (zm_R o27 l0 2 1).bind fun v29 => (zm_I o27 l0 2 8).bind fun v31 => (zm_sI o27 v29 v31 l1).bind fun x33 => (zm_R x33 l0 2 1).bind fun v35 => (zm_I x33 l0 2 8).bind fun v37 => (zm_sI x33 v35 (v37 + (1 : Int32)) l2).bind fun x39 => (zm_I x39 l0 2 8).bind fun v41 => (zm_p x39 l0 2 8 (.int (v41 + l3))).bind fun x43 => some (x43, v5)
theorem kX2_add_30 {d : Nat} {x0 : zv_X} {o : (zv_X × Int32)} (hd : 2 ≤ d) {N : Nat} (l0 : Nat) (l1 : Int32) (l2 : Int32) (l3 : Int32) (x : zv_X) (h : mX2_add_30 N l0 l1 l2 l3 x = some o) : zv_V (fX2_add d x0 o) 30 [(0, .ref l0), (1, .int l1), (2, .int l2), (3, .int l3)] [] x := by
  unfold mX2_add_30 at h
  refine zv_aload_n (n := 0) dX2_add_30 rfl rfl ?_
  refine zr_gR dX2_add_31 fg_272 h (fun v1 e2 h => ?_)
  refine zv_aload_n (n := 0) dX2_add_34 rfl rfl ?_
  refine zr_gI dX2_add_35 fg_274 h (fun v3 e4 h => ?_)
  refine zr_aI dX2_add_38 h (fun v5 e6 h => ?_)
  refine zv_istore (L' := [(4, .int v5), (0, .ref l0), (1, .int l1), (2, .int l2), (3, .int l3)]) dX2_add_39 (Nat.le_of_ble_eq_true rfl) rfl ?_
  refine zv_aload_n (n := 1) dX2_add_41 rfl rfl ?_
  refine zv_dup dX2_add_42 rfl ?_
  refine zr_gI dX2_add_43 fg_274 h (fun v7 e8 h => ?_)
  refine zv_iconst (v := 1) dX2_add_46 (by decide) ?_
  refine zv_iadd dX2_add_47 ?_
  refine zr_p dX2_add_48 fl_274 (fun q => nomatch q) rfl rfl h (fun x9 e10 h => ?_)
  refine zv_aload_n (n := 1) dX2_add_51 rfl rfl ?_
  refine zr_gR dX2_add_52 fg_269 h (fun v11 e12 h => ?_)
  refine zv_iload (n := 0) dX2_add_55 rfl ?_
  refine zv_aload_n (n := 1) dX2_add_57 rfl rfl ?_
  refine zr_gI dX2_add_58 fg_275 h (fun v13 e14 h => ?_)
  refine zr_sI dX2_add_61 h (fun x15 e16 h => ?_)
  refine zv_aload_n (n := 1) dX2_add_62 rfl rfl ?_
  refine zr_gR dX2_add_63 fg_270 h (fun v17 e18 h => ?_)
  refine zv_iload (n := 0) dX2_add_66 rfl ?_
  refine zv_iload_n (n := 4) dX2_add_68 rfl rfl ?_
  refine zr_sI dX2_add_69 h (fun x19 e20 h => ?_)
  refine zv_aload_n (n := 1) dX2_add_70 rfl rfl ?_
  refine zr_gR dX2_add_71 fg_268 h (fun v21 e22 h => ?_)
  refine zv_aload_n (n := 1) dX2_add_74 rfl rfl ?_
  refine zr_gI dX2_add_75 fg_275 h (fun v23 e24 h => ?_)
  refine zv_aload_n (n := 1) dX2_add_78 rfl rfl ?_
  refine zr_gI dX2_add_79 fg_275 h (fun v25 e26 h => ?_)
  refine zv_iload_n (n := 4) dX2_add_82 rfl rfl ?_
  refine zv_iadd dX2_add_83 ?_
  refine zv_iconst (v := 0) dX2_add_84 (by decide) ?_
  refine zr_cSv (st := []) dX2_add_85 mw_J7_fill_fda19 wd_1336 wd_857 [.ref v21, .int v23, .int (v25 + l3), .int (0 : Int32)] rfl rfl (Nat.le_of_ble_eq_true rfl) (show d - 1 + 1 ≤ d by omega) h (fun o27 e28 => tJ7_fill_fda19 (d := d - 1) (by omega) e28) (fun o27 e28 h => ?_)
  refine zv_aload_n (n := 1) dX2_add_88 rfl rfl ?_
  refine zr_gR dX2_add_89 fg_268 h (fun v29 e30 h => ?_)
  refine zv_aload_n (n := 1) dX2_add_92 rfl rfl ?_
  refine zr_gI dX2_add_93 fg_275 h (fun v31 e32 h => ?_)
  refine zv_iload_n (n := 2) dX2_add_96 rfl rfl ?_
  refine zr_sI dX2_add_97 h (fun x33 e34 h => ?_)
  refine zv_aload_n (n := 1) dX2_add_98 rfl rfl ?_
  refine zr_gR dX2_add_99 fg_268 h (fun v35 e36 h => ?_)
  refine zv_aload_n (n := 1) dX2_add_102 rfl rfl ?_
  refine zr_gI dX2_add_103 fg_275 h (fun v37 e38 h => ?_)
  refine zv_iconst (v := 1) dX2_add_106 (by decide) ?_
  refine zv_iadd dX2_add_107 ?_
  refine zv_iload_n (n := 3) dX2_add_108 rfl rfl ?_
  refine zr_sI dX2_add_109 h (fun x39 e40 h => ?_)
  refine zv_aload_n (n := 1) dX2_add_110 rfl rfl ?_
  refine zv_dup dX2_add_111 rfl ?_
  refine zr_gI dX2_add_112 fg_275 h (fun v41 e42 h => ?_)
  refine zv_iload_n (n := 4) dX2_add_115 rfl rfl ?_
  refine zv_iadd dX2_add_116 ?_
  refine zr_p dX2_add_117 fl_275 (fun q => nomatch q) rfl rfl h (fun x43 e44 h => ?_)
  refine zv_iload (n := 0) dX2_add_120 rfl ?_
  cases h
  exact zv_iret dX2_add_122 rfl
def mX2_add_26 (N : Nat) (l0 : Nat) (l1 : Int32) (l2 : Int32) (l3 : Int32) (x : zv_X) : Option (zv_X × Int32) := if zm_k x l0 2 = true then ((mX2_sweep N l0 x).bind fun o1 => mX2_add_30 N l0 l1 l2 l3 o1) else none
theorem kX2_add_26 {d : Nat} {x0 : zv_X} {o : (zv_X × Int32)} (hd : 2 ≤ d) {N : Nat} (l0 : Nat) (l1 : Int32) (l2 : Int32) (l3 : Int32) (x : zv_X) (h : mX2_add_26 N l0 l1 l2 l3 x = some o) : zv_V (fX2_add d x0 o) 26 [(0, .ref l0), (1, .int l1), (2, .int l2), (3, .int l3)] [] x := by
  unfold mX2_add_26 at h
  refine zv_aload_n (n := 0) dX2_add_26 rfl rfl ?_
  refine zr_cVv (ci := 2) (st := []) dX2_add_27 mw_X2_sweep wd_1331 wd_1333 wd_42 rfl rfl [] rfl rfl (Nat.le_of_ble_eq_true rfl) (show d - 1 + 1 ≤ d by omega) h (fun o1 e2 => tX2_sweep (d := d - 1) (by omega) e2) (fun o1 e2 h => ?_)
  exact kX2_add_30 hd _ _ _ _ _ h
def mX2_add_0 (N : Nat) (l0 : Nat) (l1 : Int32) (l2 : Int32) (l3 : Int32) (x : zv_X) : Option (zv_X × Int32) := (zm_I x l0 2 8).bind fun v1 => (zm_R x l0 2 1).bind fun v3 => (zm_n x v3).bind fun v5 => if v5 < (v1 + l3) then (mX2_add_26 N l0 l1 l2 l3 x) else ((zm_I x l0 2 7).bind fun v7 => (zm_R x l0 2 5).bind fun v9 => (zm_n x v9).bind fun v11 => if v7 = v11 then (mX2_add_26 N l0 l1 l2 l3 x) else (mX2_add_30 N l0 l1 l2 l3 x))
theorem kX2_add_0 {d : Nat} {x0 : zv_X} {o : (zv_X × Int32)} (hd : 2 ≤ d) {N : Nat} (l0 : Nat) (l1 : Int32) (l2 : Int32) (l3 : Int32) (x : zv_X) (h : mX2_add_0 N l0 l1 l2 l3 x = some o) : zv_V (fX2_add d x0 o) 0 [(0, .ref l0), (1, .int l1), (2, .int l2), (3, .int l3)] [] x := by
  unfold mX2_add_0 at h
  refine zv_aload_n (n := 0) dX2_add_0 rfl rfl ?_
  refine zr_gI dX2_add_1 fg_275 h (fun v1 e2 h => ?_)
  refine zv_iload_n (n := 3) dX2_add_4 rfl rfl ?_
  refine zv_iadd dX2_add_5 ?_
  refine zv_aload_n (n := 0) dX2_add_6 rfl rfl ?_
  refine zr_gR dX2_add_7 fg_268 h (fun v3 e4 h => ?_)
  refine zr_n dX2_add_10 h (fun v5 e6 h => ?_)
  refine zr_icmp_gt (tgt := 26) dX2_add_11 (by decide) h (fun c14 h => ?_) (fun c14 h => ?_)
  · exact kX2_add_26 hd _ _ _ _ _ h
  · refine zv_aload_n (n := 0) dX2_add_14 rfl rfl ?_
    refine zr_gI dX2_add_15 fg_274 h (fun v7 e8 h => ?_)
    refine zv_aload_n (n := 0) dX2_add_18 rfl rfl ?_
    refine zr_gR dX2_add_19 fg_272 h (fun v9 e10 h => ?_)
    refine zr_n dX2_add_22 h (fun v11 e12 h => ?_)
    refine zr_icmp_ne (tgt := 30) dX2_add_23 (by decide) h (fun c13 h => ?_) (fun c13 h => ?_)
    · exact kX2_add_30 hd _ _ _ _ _ h
    · exact kX2_add_26 hd _ _ _ _ _ h
def mX2_add (N : Nat) (a0 : Nat) (a1 : Int32) (a2 : Int32) (a3 : Int32) (x : zv_X) : Option (zv_X × Int32) := mX2_add_0 N a0 a1 a2 a3 x
theorem tX2_add {d : Nat} (hd : 2 ≤ d) {N : Nat} {x : zv_X} {a0 : Nat} {a1 : Int32} {a2 : Int32} {a3 : Int32} {o : (zv_X × Int32)} (h : mX2_add N a0 a1 a2 a3 x = some o) : zv_T d yX2_add cX2_add 5 ((some .int)) [.ref a0, .int a1, .int a2, .int a3] x o.1 (some (.int o.2)) := by
  unfold mX2_add at h
  exact zv_enter (by decide) (Nat.le_of_ble_eq_true rfl) (kX2_add_0 hd _ _ _ _ _ h)

abbrev fX2_beginSearch (d : Nat) (x0 : zv_X) (o : zv_X) : zv_G := (d, RX2, cX2_beginSearch, 1, none, ("beginSearch", []), x0, o, zv_fin x0 o none)
def mX2_beginSearch_0 (N : Nat) (l0 : Nat) (x : zv_X) : Option zv_X := (zm_I x l0 2 9).bind fun v1 => (zm_p x l0 2 9 (.int (v1 + (1 : Int32)))).bind fun x3 => (zm_p x3 l0 2 10 (.int (0 : Int32))).bind fun x5 => some x5
theorem kX2_beginSearch_0 {d : Nat} {x0 : zv_X} {o : zv_X} (hd : 0 ≤ d) {N : Nat} (l0 : Nat) (x : zv_X) (h : mX2_beginSearch_0 N l0 x = some o) : zv_V (fX2_beginSearch d x0 o) 0 [(0, .ref l0)] [] x := by
  unfold mX2_beginSearch_0 at h
  refine zv_aload_n (n := 0) dX2_beginSearch_0 rfl rfl ?_
  refine zv_dup dX2_beginSearch_1 rfl ?_
  refine zr_gI dX2_beginSearch_2 fg_276 h (fun v1 e2 h => ?_)
  refine zv_iconst (v := 1) dX2_beginSearch_5 (by decide) ?_
  refine zv_iadd dX2_beginSearch_6 ?_
  refine zr_p dX2_beginSearch_7 fl_276 (fun q => nomatch q) rfl rfl h (fun x3 e4 h => ?_)
  refine zv_aload_n (n := 0) dX2_beginSearch_10 rfl rfl ?_
  refine zv_iconst (v := 0) dX2_beginSearch_11 (by decide) ?_
  refine zr_p dX2_beginSearch_12 fl_277 (fun q => nomatch q) rfl rfl h (fun x5 e6 h => ?_)
  cases h
  exact zv_vret dX2_beginSearch_15 rfl
def mX2_beginSearch (N : Nat) (a0 : Nat) (x : zv_X) : Option zv_X := mX2_beginSearch_0 N a0 x
theorem tX2_beginSearch {d : Nat} (hd : 0 ≤ d) {N : Nat} {x : zv_X} {a0 : Nat} {o : zv_X} (h : mX2_beginSearch N a0 x = some o) : zv_T d yX2_beginSearch cX2_beginSearch 1 (none) [.ref a0] x o none := by
  unfold mX2_beginSearch at h
  exact zv_enter (by decide) (Nat.le_of_ble_eq_true rfl) (kX2_beginSearch_0 hd _ _ h)

abbrev fX2_tag (d : Nat) (x0 : zv_X) (o : (zv_X × Int32)) : zv_G := (d, RX2, cX2_tag, 2, (some .int), ("tag", []), x0, o.1, zv_fin x0 o.1 (some (.int o.2)))
def mX2_tag_0 (N : Nat) (l0 : Nat) (l1 : Int32) (x : zv_X) : Option (zv_X × Int32) := (zm_R x l0 2 1).bind fun v1 => (zm_R x l0 2 2).bind fun v3 => (zm_aI x v3 l1).bind fun v5 => (zm_aI x v1 v5).bind fun v7 => some (x, v7)
theorem kX2_tag_0 {d : Nat} {x0 : zv_X} {o : (zv_X × Int32)} (hd : 0 ≤ d) {N : Nat} (l0 : Nat) (l1 : Int32) (x : zv_X) (h : mX2_tag_0 N l0 l1 x = some o) : zv_V (fX2_tag d x0 o) 0 [(0, .ref l0), (1, .int l1)] [] x := by
  unfold mX2_tag_0 at h
  refine zv_aload_n (n := 0) dX2_tag_0 rfl rfl ?_
  refine zr_gR dX2_tag_1 fg_268 h (fun v1 e2 h => ?_)
  refine zv_aload_n (n := 0) dX2_tag_4 rfl rfl ?_
  refine zr_gR dX2_tag_5 fg_269 h (fun v3 e4 h => ?_)
  refine zv_iload_n (n := 1) dX2_tag_8 rfl rfl ?_
  refine zr_aI dX2_tag_9 h (fun v5 e6 h => ?_)
  refine zr_aI dX2_tag_10 h (fun v7 e8 h => ?_)
  cases h
  exact zv_iret dX2_tag_11 rfl
def mX2_tag (N : Nat) (a0 : Nat) (a1 : Int32) (x : zv_X) : Option (zv_X × Int32) := mX2_tag_0 N a0 a1 x
theorem tX2_tag {d : Nat} (hd : 0 ≤ d) {N : Nat} {x : zv_X} {a0 : Nat} {a1 : Int32} {o : (zv_X × Int32)} (h : mX2_tag N a0 a1 x = some o) : zv_T d yX2_tag cX2_tag 2 ((some .int)) [.ref a0, .int a1] x o.1 (some (.int o.2)) := by
  unfold mX2_tag at h
  exact zv_enter (by decide) (Nat.le_of_ble_eq_true rfl) (kX2_tag_0 hd _ _ _ h)

abbrev fX2_reachWhatHas (d : Nat) (x0 : zv_X) (o : zv_X) : zv_G := (d, RX2, cX2_reachWhatHas, 6, none, ("reachWhatHas", []), x0, o, zv_fin x0 o none)
def mX2_reachWhatHas_80 (K41 : Nat → Int32 → Int32 → Int32 → Int32 → zv_X → Option zv_X) (N : Nat) (l0 : Nat) (l2 : Int32) (l3 : Int32) (l4 : Int32) (l5 : Int32) (x : zv_X) : Option zv_X := K41 l0 l2 l3 l4 (l5 + (1)) x
theorem kX2_reachWhatHas_80 {d : Nat} {x0 : zv_X} {o : zv_X} (hd : 1 ≤ d) {K41 : Nat → Int32 → Int32 → Int32 → Int32 → zv_X → Option zv_X} (hK41 : ∀ (l0 : Nat) (l2 : Int32) (l3 : Int32) (l4 : Int32) (l5 : Int32) (x : zv_X), K41 l0 l2 l3 l4 l5 x = some o → zv_V (fX2_reachWhatHas d x0 o) 41 [(0, .ref l0), (2, .int l2), (3, .int l3), (4, .int l4), (5, .int l5)] [] x) {N : Nat} (l0 : Nat) (l2 : Int32) (l3 : Int32) (l4 : Int32) (l5 : Int32) (x : zv_X) (h : mX2_reachWhatHas_80 K41 N l0 l2 l3 l4 l5 x = some o) : zv_V (fX2_reachWhatHas d x0 o) 80 [(0, .ref l0), (2, .int l2), (3, .int l3), (4, .int l4), (5, .int l5)] [] x := by
  unfold mX2_reachWhatHas_80 at h
  refine zv_iinc (n := 4) (v := l5 + (1)) (L' := [(5, .int (l5 + (1))), (0, .ref l0), (2, .int l2), (3, .int l3), (4, .int l4)]) dX2_reachWhatHas_80 rfl rfl (Nat.le_of_ble_eq_true rfl) rfl ?_
  refine zv_goto (tgt := 41) dX2_reachWhatHas_83 (by decide) ?_
  exact zv_fewer [1, 2, 3, 4, 0] rfl (hK41 _ _ _ _ _ _ h)
def mX2_reachWhatHas_67 (K41 : Nat → Int32 → Int32 → Int32 → Int32 → zv_X → Option zv_X) (N : Nat) (l0 : Nat) (l2 : Int32) (l3 : Int32) (l4 : Int32) (l5 : Int32) (x : zv_X) : Option zv_X := (zm_R x l0 2 1).bind fun v1 => (zm_aI x v1 (l2 + l5)).bind fun v3 => if zm_k x l0 2 = true then ((mX2_reach N l0 v3 x).bind fun o5 => mX2_reachWhatHas_80 K41 N l0 l2 l3 l4 l5 o5) else none
theorem kX2_reachWhatHas_67 {d : Nat} {x0 : zv_X} {o : zv_X} (hd : 1 ≤ d) {K41 : Nat → Int32 → Int32 → Int32 → Int32 → zv_X → Option zv_X} (hK41 : ∀ (l0 : Nat) (l2 : Int32) (l3 : Int32) (l4 : Int32) (l5 : Int32) (x : zv_X), K41 l0 l2 l3 l4 l5 x = some o → zv_V (fX2_reachWhatHas d x0 o) 41 [(0, .ref l0), (2, .int l2), (3, .int l3), (4, .int l4), (5, .int l5)] [] x) {N : Nat} (l0 : Nat) (l2 : Int32) (l3 : Int32) (l4 : Int32) (l5 : Int32) (x : zv_X) (h : mX2_reachWhatHas_67 K41 N l0 l2 l3 l4 l5 x = some o) : zv_V (fX2_reachWhatHas d x0 o) 67 [(0, .ref l0), (2, .int l2), (3, .int l3), (4, .int l4), (5, .int l5)] [] x := by
  unfold mX2_reachWhatHas_67 at h
  refine zv_aload_n (n := 0) dX2_reachWhatHas_67 rfl rfl ?_
  refine zv_aload_n (n := 0) dX2_reachWhatHas_68 rfl rfl ?_
  refine zr_gR dX2_reachWhatHas_69 fg_268 h (fun v1 e2 h => ?_)
  refine zv_iload_n (n := 1) dX2_reachWhatHas_72 rfl rfl ?_
  refine zv_iload (n := 4) dX2_reachWhatHas_73 rfl ?_
  refine zv_iadd dX2_reachWhatHas_75 ?_
  refine zr_aI dX2_reachWhatHas_76 h (fun v3 e4 h => ?_)
  refine zr_cVv (ci := 2) (st := []) dX2_reachWhatHas_77 mw_X2_reach wd_1325 wd_1313 wd_1314 rfl rfl [.int v3] rfl rfl (Nat.le_of_ble_eq_true rfl) (show d - 1 + 1 ≤ d by omega) h (fun o5 e6 => tX2_reach (d := d - 1) (by omega) e6) (fun o5 e6 h => ?_)
  exact kX2_reachWhatHas_80 hd hK41 _ _ _ _ _ _ h
def mX2_reachWhatHas_41 (N : Nat) : Nat → Nat → Int32 → Int32 → Int32 → Int32 → zv_X → Option zv_X
  | 0, _, _, _, _, _, _ => none
  | n + 1, l0, l2, l3, l4, l5, x => if l3 ≤ l5 then (some x) else (if l4 < 0 then (mX2_reachWhatHas_67 (mX2_reachWhatHas_41 N n) N l0 l2 l3 l4 l5 x) else ((zm_R x l0 2 0).bind fun v1 => if zm_k x v1 7 = true then ((mX7_kindOfField N v1 l4 l5 x).bind fun o3 => if o3.2 = (3 : Int32) then (mX2_reachWhatHas_67 (mX2_reachWhatHas_41 N n) N l0 l2 l3 l4 l5 o3.1) else (mX2_reachWhatHas_80 (mX2_reachWhatHas_41 N n) N l0 l2 l3 l4 l5 o3.1)) else none))
theorem kX2_reachWhatHas_41 {d : Nat} {x0 : zv_X} {o : zv_X} (hd : 1 ≤ d) {N : Nat} : ∀ (n : Nat) (l0 : Nat) (l2 : Int32) (l3 : Int32) (l4 : Int32) (l5 : Int32) (x : zv_X), mX2_reachWhatHas_41 N n l0 l2 l3 l4 l5 x = some o → zv_V (fX2_reachWhatHas d x0 o) 41 [(0, .ref l0), (2, .int l2), (3, .int l3), (4, .int l4), (5, .int l5)] [] x := by
  intro n
  induction n with
  | zero => intro l0 l2 l3 l4 l5 x h; cases h
  | succ n ih =>
    intro l0 l2 l3 l4 l5 x h
    unfold mX2_reachWhatHas_41 at h
    refine zv_iload (n := 4) dX2_reachWhatHas_41 rfl ?_
    refine zv_iload_n (n := 2) dX2_reachWhatHas_43 rfl rfl ?_
    refine zr_icmp_ge (tgt := 86) dX2_reachWhatHas_44 (by decide) h (fun c7 h => ?_) (fun c7 h => ?_)
    · cases h
      exact zv_vret dX2_reachWhatHas_86 rfl
    · refine zv_iload (n := 3) dX2_reachWhatHas_47 rfl ?_
      refine zr_if_lt (tgt := 67) dX2_reachWhatHas_49 (by decide) h (fun c6 h => ?_) (fun c6 h => ?_)
      · exact kX2_reachWhatHas_67 hd ih _ _ _ _ _ _ h
      · refine zv_aload_n (n := 0) dX2_reachWhatHas_52 rfl rfl ?_
        refine zr_gR dX2_reachWhatHas_53 fg_267 h (fun v1 e2 h => ?_)
        refine zv_iload (n := 3) dX2_reachWhatHas_56 rfl ?_
        refine zv_iload (n := 4) dX2_reachWhatHas_58 rfl ?_
        refine zr_cVi (ci := 7) (st := []) dX2_reachWhatHas_60 mw_X7_kindOfField wd_1324 wd_735 wd_736 rfl rfl [.int l4, .int l5] rfl rfl (Nat.le_of_ble_eq_true rfl) (show d - 1 + 1 ≤ d by omega) h (fun o3 e4 => tX7_kindOfField (d := d - 1) (by omega) e4) (fun o3 e4 h => ?_)
        refine zv_iconst (v := 3) dX2_reachWhatHas_63 (by decide) ?_
        refine zr_icmp_ne (tgt := 80) dX2_reachWhatHas_64 (by decide) h (fun c5 h => ?_) (fun c5 h => ?_)
        · exact kX2_reachWhatHas_80 hd ih _ _ _ _ _ _ h
        · exact kX2_reachWhatHas_67 hd ih _ _ _ _ _ _ h
def mX2_reachWhatHas_38 (N : Nat) (l0 : Nat) (l2 : Int32) (l3 : Int32) (l4 : Int32) (x : zv_X) : Option zv_X := mX2_reachWhatHas_41 N N l0 l2 l3 l4 (0 : Int32) x
theorem kX2_reachWhatHas_38 {d : Nat} {x0 : zv_X} {o : zv_X} (hd : 1 ≤ d) {N : Nat} (l0 : Nat) (l2 : Int32) (l3 : Int32) (l4 : Int32) (x : zv_X) (h : mX2_reachWhatHas_38 N l0 l2 l3 l4 x = some o) : zv_V (fX2_reachWhatHas d x0 o) 38 [(0, .ref l0), (2, .int l2), (3, .int l3), (4, .int l4)] [] x := by
  unfold mX2_reachWhatHas_38 at h
  refine zv_iconst (v := 0) dX2_reachWhatHas_38 (by decide) ?_
  refine zv_istore (L' := [(5, .int (0 : Int32)), (0, .ref l0), (2, .int l2), (3, .int l3), (4, .int l4)]) dX2_reachWhatHas_39 (Nat.le_of_ble_eq_true rfl) rfl ?_
  exact zv_fewer [1, 2, 3, 4, 0] rfl (kX2_reachWhatHas_41 hd N _ _ _ _ _ _ h)
def mX2_reachWhatHas_0 (N : Nat) (l0 : Nat) (l1 : Int32) (x : zv_X) : Option zv_X := (zm_R x l0 2 2).bind fun v1 => (zm_aI x v1 l1).bind fun v3 => (zm_R x l0 2 3).bind fun v5 => (zm_aI x v5 l1).bind fun v7 => if zm_k x l0 2 = true then ((mX2_tag N l0 l1 x).bind fun o9 => if 0 ≤ o9.2 then (mX2_reachWhatHas_38 N l0 (v3 + (2 : Int32)) (v7 - (2 : Int32)) o9.2 o9.1) else (if o9.2 = (-12 : Int32) then (mX2_reachWhatHas_38 N l0 (v3 + (2 : Int32)) (v7 - (2 : Int32)) o9.2 o9.1) else (some o9.1))) else none
theorem kX2_reachWhatHas_0 {d : Nat} {x0 : zv_X} {o : zv_X} (hd : 1 ≤ d) {N : Nat} (l0 : Nat) (l1 : Int32) (x : zv_X) (h : mX2_reachWhatHas_0 N l0 l1 x = some o) : zv_V (fX2_reachWhatHas d x0 o) 0 [(0, .ref l0), (1, .int l1)] [] x := by
  unfold mX2_reachWhatHas_0 at h
  refine zv_aload_n (n := 0) dX2_reachWhatHas_0 rfl rfl ?_
  refine zr_gR dX2_reachWhatHas_1 fg_269 h (fun v1 e2 h => ?_)
  refine zv_iload_n (n := 1) dX2_reachWhatHas_4 rfl rfl ?_
  refine zr_aI dX2_reachWhatHas_5 h (fun v3 e4 h => ?_)
  refine zv_iconst (v := 2) dX2_reachWhatHas_6 (by decide) ?_
  refine zv_iadd dX2_reachWhatHas_7 ?_
  refine zv_istore_n (L' := [(2, .int (v3 + (2 : Int32))), (0, .ref l0), (1, .int l1)]) dX2_reachWhatHas_8 rfl (Nat.le_of_ble_eq_true rfl) rfl ?_
  refine zv_aload_n (n := 1) dX2_reachWhatHas_9 rfl rfl ?_
  refine zr_gR dX2_reachWhatHas_10 fg_270 h (fun v5 e6 h => ?_)
  refine zv_iload_n (n := 2) dX2_reachWhatHas_13 rfl rfl ?_
  refine zr_aI dX2_reachWhatHas_14 h (fun v7 e8 h => ?_)
  refine zv_iconst (v := 2) dX2_reachWhatHas_15 (by decide) ?_
  refine zv_isub dX2_reachWhatHas_16 ?_
  refine zv_istore_n (L' := [(3, .int (v7 - (2 : Int32))), (2, .int (v3 + (2 : Int32))), (0, .ref l0), (1, .int l1)]) dX2_reachWhatHas_17 rfl (Nat.le_of_ble_eq_true rfl) rfl ?_
  refine zv_aload_n (n := 2) dX2_reachWhatHas_18 rfl rfl ?_
  refine zv_iload_n (n := 3) dX2_reachWhatHas_19 rfl rfl ?_
  refine zr_cVi (ci := 2) (st := []) dX2_reachWhatHas_20 mw_X2_tag wd_1178 wd_1164 wd_1165 rfl rfl [.int l1] rfl rfl (Nat.le_of_ble_eq_true rfl) (show d - 1 + 1 ≤ d by omega) h (fun o9 e10 => tX2_tag (d := d - 1) (by omega) e10) (fun o9 e10 h => ?_)
  refine zv_istore (L' := [(4, .int o9.2), (3, .int (v7 - (2 : Int32))), (2, .int (v3 + (2 : Int32))), (0, .ref l0), (1, .int l1)]) dX2_reachWhatHas_23 (Nat.le_of_ble_eq_true rfl) rfl ?_
  refine zv_iload (n := 0) dX2_reachWhatHas_25 rfl ?_
  refine zr_if_ge (tgt := 38) dX2_reachWhatHas_27 (by decide) h (fun c12 h => ?_) (fun c12 h => ?_)
  · exact zv_fewer [3, 2, 1, 0] rfl (kX2_reachWhatHas_38 hd _ _ _ _ _ h)
  · refine zv_iload (n := 0) dX2_reachWhatHas_30 rfl ?_
    refine zv_bipush (v := -12) dX2_reachWhatHas_32 (by decide) ?_
    refine zr_icmp_eq (tgt := 38) dX2_reachWhatHas_34 (by decide) h (fun c11 h => ?_) (fun c11 h => ?_)
    · exact zv_fewer [3, 2, 1, 0] rfl (kX2_reachWhatHas_38 hd _ _ _ _ _ h)
    · cases h
      exact zv_vret dX2_reachWhatHas_37 rfl
def mX2_reachWhatHas (N : Nat) (a0 : Nat) (a1 : Int32) (x : zv_X) : Option zv_X := mX2_reachWhatHas_0 N a0 a1 x
theorem tX2_reachWhatHas {d : Nat} (hd : 1 ≤ d) {N : Nat} {x : zv_X} {a0 : Nat} {a1 : Int32} {o : zv_X} (h : mX2_reachWhatHas N a0 a1 x = some o) : zv_T d yX2_reachWhatHas cX2_reachWhatHas 6 (none) [.ref a0, .int a1] x o none := by
  unfold mX2_reachWhatHas at h
  exact zv_enter (by decide) (Nat.le_of_ble_eq_true rfl) (kX2_reachWhatHas_0 hd _ _ _ h)

abbrev fX2_reachedWords (d : Nat) (x0 : zv_X) (o : (zv_X × Int32)) : zv_G := (d, RX2, cX2_reachedWords, 3, (some .int), ("reachedWords", []), x0, o.1, zv_fin x0 o.1 (some (.int o.2)))
def mX2_reachedWords_51 (N : Nat) (l1 : Int32) (x : zv_X) : Option (zv_X × Int32) := some (x, l1)
theorem kX2_reachedWords_51 {d : Nat} {x0 : zv_X} {o : (zv_X × Int32)} (hd : 2 ≤ d) {N : Nat} (l1 : Int32) (x : zv_X) (h : mX2_reachedWords_51 N l1 x = some o) : zv_V (fX2_reachedWords d x0 o) 51 [(1, .int l1)] [] x := by
  unfold mX2_reachedWords_51 at h
  refine zv_iload_n (n := 0) dX2_reachedWords_51 rfl rfl ?_
  cases h
  exact zv_iret dX2_reachedWords_52 rfl
def mX2_reachedWords_4 (N : Nat) : Nat → Nat → Int32 → Int32 → zv_X → Option (zv_X × Int32)
  | 0, _, _, _, _ => none
  | n + 1, l0, l1, l2, x => (zm_R x l0 2 6).bind fun v1 => (zm_n x v1).bind fun v3 => if v3 ≤ l2 then (mX2_reachedWords_51 N l1 x) else ((zm_I x l0 2 10).bind fun v5 => if v5 ≤ l2 then (mX2_reachedWords_51 N l1 x) else ((zm_R x l0 2 3).bind fun v7 => (zm_R x l0 2 6).bind fun v9 => (zm_aI x v9 l2).bind fun v11 => (zm_aI x v7 v11).bind fun v13 => (zm_R x l0 2 6).bind fun v15 => (zm_aI x v15 l2).bind fun v17 => if zm_k x l0 2 = true then ((mX2_reachWhatHas N l0 v17 x).bind fun o19 => mX2_reachedWords_4 N n l0 (l1 + v13) (l2 + (1)) o19) else none))
theorem kX2_reachedWords_4 {d : Nat} {x0 : zv_X} {o : (zv_X × Int32)} (hd : 2 ≤ d) {N : Nat} : ∀ (n : Nat) (l0 : Nat) (l1 : Int32) (l2 : Int32) (x : zv_X), mX2_reachedWords_4 N n l0 l1 l2 x = some o → zv_V (fX2_reachedWords d x0 o) 4 [(0, .ref l0), (1, .int l1), (2, .int l2)] [] x := by
  intro n
  induction n with
  | zero => intro l0 l1 l2 x h; cases h
  | succ n ih =>
    intro l0 l1 l2 x h
    unfold mX2_reachedWords_4 at h
    refine zv_iload_n (n := 2) dX2_reachedWords_4 rfl rfl ?_
    refine zv_aload_n (n := 0) dX2_reachedWords_5 rfl rfl ?_
    refine zr_gR dX2_reachedWords_6 fg_273 h (fun v1 e2 h => ?_)
    refine zr_n dX2_reachedWords_9 h (fun v3 e4 h => ?_)
    refine zr_icmp_ge (tgt := 51) dX2_reachedWords_10 (by decide) h (fun c22 h => ?_) (fun c22 h => ?_)
    · exact zv_fewer [1] rfl (kX2_reachedWords_51 hd _ _ h)
    · refine zv_iload_n (n := 2) dX2_reachedWords_13 rfl rfl ?_
      refine zv_aload_n (n := 0) dX2_reachedWords_14 rfl rfl ?_
      refine zr_gI dX2_reachedWords_15 fg_277 h (fun v5 e6 h => ?_)
      refine zr_icmp_ge (tgt := 51) dX2_reachedWords_18 (by decide) h (fun c21 h => ?_) (fun c21 h => ?_)
      · exact zv_fewer [1] rfl (kX2_reachedWords_51 hd _ _ h)
      · refine zv_iload_n (n := 1) dX2_reachedWords_21 rfl rfl ?_
        refine zv_aload_n (n := 0) dX2_reachedWords_22 rfl rfl ?_
        refine zr_gR dX2_reachedWords_23 fg_270 h (fun v7 e8 h => ?_)
        refine zv_aload_n (n := 0) dX2_reachedWords_26 rfl rfl ?_
        refine zr_gR dX2_reachedWords_27 fg_273 h (fun v9 e10 h => ?_)
        refine zv_iload_n (n := 2) dX2_reachedWords_30 rfl rfl ?_
        refine zr_aI dX2_reachedWords_31 h (fun v11 e12 h => ?_)
        refine zr_aI dX2_reachedWords_32 h (fun v13 e14 h => ?_)
        refine zv_iadd dX2_reachedWords_33 ?_
        refine zv_istore_n (L' := [(1, .int (l1 + v13)), (0, .ref l0), (2, .int l2)]) dX2_reachedWords_34 rfl (Nat.le_of_ble_eq_true rfl) rfl ?_
        refine zv_aload_n (n := 1) dX2_reachedWords_35 rfl rfl ?_
        refine zv_aload_n (n := 1) dX2_reachedWords_36 rfl rfl ?_
        refine zr_gR dX2_reachedWords_37 fg_273 h (fun v15 e16 h => ?_)
        refine zv_iload_n (n := 2) dX2_reachedWords_40 rfl rfl ?_
        refine zr_aI dX2_reachedWords_41 h (fun v17 e18 h => ?_)
        refine zr_cVv (ci := 2) (st := []) dX2_reachedWords_42 mw_X2_reachWhatHas wd_1320 wd_1322 wd_41 rfl rfl [.int v17] rfl rfl (Nat.le_of_ble_eq_true rfl) (show d - 1 + 1 ≤ d by omega) h (fun o19 e20 => tX2_reachWhatHas (d := d - 1) (by omega) e20) (fun o19 e20 h => ?_)
        refine zv_iinc (n := 2) (v := l2 + (1)) (L' := [(2, .int (l2 + (1))), (1, .int (l1 + v13)), (0, .ref l0)]) dX2_reachedWords_45 rfl rfl (Nat.le_of_ble_eq_true rfl) rfl ?_
        refine zv_goto (tgt := 4) dX2_reachedWords_48 (by decide) ?_
        exact zv_fewer [2, 1, 0] rfl (ih _ _ _ _ h)
def mX2_reachedWords_0 (N : Nat) (l0 : Nat) (x : zv_X) : Option (zv_X × Int32) := mX2_reachedWords_4 N N l0 (0 : Int32) (0 : Int32) x
theorem kX2_reachedWords_0 {d : Nat} {x0 : zv_X} {o : (zv_X × Int32)} (hd : 2 ≤ d) {N : Nat} (l0 : Nat) (x : zv_X) (h : mX2_reachedWords_0 N l0 x = some o) : zv_V (fX2_reachedWords d x0 o) 0 [(0, .ref l0)] [] x := by
  unfold mX2_reachedWords_0 at h
  refine zv_iconst (v := 0) dX2_reachedWords_0 (by decide) ?_
  refine zv_istore_n (L' := [(1, .int (0 : Int32)), (0, .ref l0)]) dX2_reachedWords_1 rfl (Nat.le_of_ble_eq_true rfl) rfl ?_
  refine zv_iconst (v := 0) dX2_reachedWords_2 (by decide) ?_
  refine zv_istore_n (L' := [(2, .int (0 : Int32)), (1, .int (0 : Int32)), (0, .ref l0)]) dX2_reachedWords_3 rfl (Nat.le_of_ble_eq_true rfl) rfl ?_
  exact zv_fewer [2, 1, 0] rfl (kX2_reachedWords_4 hd N _ _ _ _ h)
def mX2_reachedWords (N : Nat) (a0 : Nat) (x : zv_X) : Option (zv_X × Int32) := mX2_reachedWords_0 N a0 x
theorem tX2_reachedWords {d : Nat} (hd : 2 ≤ d) {N : Nat} {x : zv_X} {a0 : Nat} {o : (zv_X × Int32)} (h : mX2_reachedWords N a0 x = some o) : zv_T d yX2_reachedWords cX2_reachedWords 3 ((some .int)) [.ref a0] x o.1 (some (.int o.2)) := by
  unfold mX2_reachedWords at h
  exact zv_enter (by decide) (Nat.le_of_ble_eq_true rfl) (kX2_reachedWords_0 hd _ _ h)

abbrev fX4_make (d : Nat) (x0 : zv_X) (o : (zv_X × Int32)) : zv_G := (d, RX4, cX4_make, 7, (some .int), ("make", []), x0, o.1, zv_fin x0 o.1 (some (.int o.2)))
def mX4_make_10 (N : Nat) : Nat → Nat → Int32 → Int32 → Int64 → Int32 → zv_X → Option (zv_X × Int32)
  | 0, _, _, _, _, _, _ => none
  | n + 1, l0, l1, l2, l3, l5, x => (zm_I x l0 4 6).bind fun v1 => if v1 < l5 then ((zm_R x l0 4 2).bind fun v3 => if zm_k x v3 2 = true then ((mX2_reachedWords N v3 x).bind fun o5 => (zm_I o5.1 l0 4 3).bind fun v7 => if (lg_cmp ((Int32.toInt64 o5.2) + l3) (Int32.toInt64 v7)) ≤ 0 then ((zm_p o5.1 l0 4 10 (.int (Int64.toInt32 ((Int32.toInt64 o5.2) + l3)))).bind fun x9 => (zm_I x9 l0 4 11).bind fun v11 => (zm_I x9 l0 4 10).bind fun v13 => (zm_p x9 l0 4 11 (.int (zm_max v11 v13))).bind fun x15 => (zm_R x15 l0 4 2).bind fun v17 => if zm_k x15 v17 2 = true then ((mX2_add N v17 l1 l2 (Int64.toInt32 l3) x15).bind fun o19 => some (o19.1, o19.2)) else none) else ((zm_p o5.1 l0 4 7 (.int (3 : Int32))).bind fun x21 => some (x21, (0 : Int32)))) else none) else ((zm_R x l0 4 4).bind fun v24 => (zm_aR x v24 l5).bind fun v26 => (zm_R x l0 4 2).bind fun v28 => if zm_k x v26 1 = true then ((mX1_showReferences N v26 v28 x).bind fun o30 => mX4_make_10 N n l0 l1 l2 l3 (l5 + (1)) o30) else none)
theorem kX4_make_10 {d : Nat} {x0 : zv_X} {o : (zv_X × Int32)} (hd : 3 ≤ d) {N : Nat} : ∀ (n : Nat) (l0 : Nat) (l1 : Int32) (l2 : Int32) (l3 : Int64) (l5 : Int32) (x : zv_X), mX4_make_10 N n l0 l1 l2 l3 l5 x = some o → zv_V (fX4_make d x0 o) 10 [(0, .ref l0), (1, .int l1), (2, .int l2), (3, .long l3), (5, .int l5)] [] x := by
  intro n
  induction n with
  | zero => intro l0 l1 l2 l3 l5 x h; cases h
  | succ n ih =>
    intro l0 l1 l2 l3 l5 x h
    unfold mX4_make_10 at h
    refine zv_iload (n := 4) dX4_make_10 rfl ?_
    refine zv_aload_n (n := 0) dX4_make_12 rfl rfl ?_
    refine zr_gI dX4_make_13 fg_372 h (fun v1 e2 h => ?_)
    refine zr_icmp_gt (tgt := 39) dX4_make_16 (by decide) h (fun c32 h => ?_) (fun c32 h => ?_)
    · refine zv_aload_n (n := 0) dX4_make_39 rfl rfl ?_
      refine zr_gR dX4_make_40 fg_368 h (fun v3 e4 h => ?_)
      refine zr_cVi (ci := 2) (st := []) dX4_make_43 mw_X2_reachedWords wd_1316 wd_1317 wd_1318 rfl rfl [] rfl rfl (Nat.le_of_ble_eq_true rfl) (show d - 1 + 1 ≤ d by omega) h (fun o5 e6 => tX2_reachedWords (d := d - 1) (by omega) e6) (fun o5 e6 h => ?_)
      refine zv_i2l dX4_make_46 ?_
      refine zv_lload_n (n := 3) dX4_make_47 rfl rfl ?_
      refine zv_ladd dX4_make_48 ?_
      refine zv_lstore (L' := [(5, .long ((Int32.toInt64 o5.2) + l3)), (0, .ref l0), (1, .int l1), (2, .int l2), (3, .long l3)]) dX4_make_49 (Nat.le_of_ble_eq_true rfl) rfl ?_
      refine zv_lload (n := 0) dX4_make_51 rfl ?_
      refine zv_aload_n (n := 1) dX4_make_53 rfl rfl ?_
      refine zr_gI dX4_make_54 fg_369 h (fun v7 e8 h => ?_)
      refine zv_i2l dX4_make_57 ?_
      refine zv_lcmp dX4_make_58 ?_
      refine zr_if_le (tgt := 69) dX4_make_59 (by decide) h (fun c23 h => ?_) (fun c23 h => ?_)
      · refine zv_aload_n (n := 1) dX4_make_69 rfl rfl ?_
        refine zv_lload (n := 0) dX4_make_70 rfl ?_
        refine zv_l2i dX4_make_72 ?_
        refine zr_p dX4_make_73 fl_378 (fun q => nomatch q) rfl rfl h (fun x9 e10 h => ?_)
        refine zv_aload_n (n := 1) dX4_make_76 rfl rfl ?_
        refine zv_aload_n (n := 1) dX4_make_77 rfl rfl ?_
        refine zr_gI dX4_make_78 fg_380 h (fun v11 e12 h => ?_)
        refine zv_aload_n (n := 1) dX4_make_81 rfl rfl ?_
        refine zr_gI dX4_make_82 fg_378 h (fun v13 e14 h => ?_)
        refine zv_max dX4_make_85 wd_1326 wd_255 wd_99 wd_256 (show 1 ≤ d by omega) (Nat.le_of_ble_eq_true rfl) ?_
        refine zr_p dX4_make_88 fl_380 (fun q => nomatch q) rfl rfl h (fun x15 e16 h => ?_)
        refine zv_aload_n (n := 1) dX4_make_91 rfl rfl ?_
        refine zr_gR dX4_make_92 fg_368 h (fun v17 e18 h => ?_)
        refine zv_iload_n (n := 2) dX4_make_95 rfl rfl ?_
        refine zv_iload_n (n := 3) dX4_make_96 rfl rfl ?_
        refine zv_lload_n (n := 4) dX4_make_97 rfl rfl ?_
        refine zv_l2i dX4_make_98 ?_
        refine zr_cVi (ci := 2) (st := []) dX4_make_99 mw_X2_add wd_1327 wd_1328 wd_1329 rfl rfl [.int l1, .int l2, .int (Int64.toInt32 l3)] rfl rfl (Nat.le_of_ble_eq_true rfl) (show d - 1 + 1 ≤ d by omega) h (fun o19 e20 => tX2_add (d := d - 1) (by omega) e20) (fun o19 e20 h => ?_)
        cases h
        exact zv_iret dX4_make_102 rfl
      · refine zv_aload_n (n := 1) dX4_make_62 rfl rfl ?_
        refine zv_iconst (v := 3) dX4_make_63 (by decide) ?_
        refine zr_p dX4_make_64 fl_373 (fun q => nomatch q) rfl rfl h (fun x21 e22 h => ?_)
        refine zv_iconst (v := 0) dX4_make_67 (by decide) ?_
        cases h
        exact zv_iret dX4_make_68 rfl
    · refine zv_aload_n (n := 0) dX4_make_19 rfl rfl ?_
      refine zr_gR dX4_make_20 fg_370 h (fun v24 e25 h => ?_)
      refine zv_iload (n := 4) dX4_make_23 rfl ?_
      refine zr_aR dX4_make_25 h (fun v26 e27 h => ?_)
      refine zv_aload_n (n := 0) dX4_make_26 rfl rfl ?_
      refine zr_gR dX4_make_27 fg_368 h (fun v28 e29 h => ?_)
      refine zr_cVv (ci := 1) (st := []) dX4_make_30 mw_X1_showReferences wd_1308 wd_1309 wd_1310 rfl rfl [.ref v28] rfl rfl (Nat.le_of_ble_eq_true rfl) (show d - 1 + 1 ≤ d by omega) h (fun o30 e31 => tX1_showReferences (d := d - 1) (by omega) e31) (fun o30 e31 h => ?_)
      refine zv_iinc (n := 4) (v := l5 + (1)) (L' := [(5, .int (l5 + (1))), (0, .ref l0), (1, .int l1), (2, .int l2), (3, .long l3)]) dX4_make_33 rfl rfl (Nat.le_of_ble_eq_true rfl) rfl ?_
      refine zv_goto (tgt := 10) dX4_make_36 (by decide) ?_
      exact zv_fewer [1, 2, 3, 4, 0] rfl (ih _ _ _ _ _ _ h)
def mX4_make_0 (N : Nat) (l0 : Nat) (l1 : Int32) (l2 : Int32) (l3 : Int64) (x : zv_X) : Option (zv_X × Int32) := (zm_R x l0 4 2).bind fun v1 => if zm_k x v1 2 = true then ((mX2_beginSearch N v1 x).bind fun o3 => mX4_make_10 N N l0 l1 l2 l3 (0 : Int32) o3) else none
theorem kX4_make_0 {d : Nat} {x0 : zv_X} {o : (zv_X × Int32)} (hd : 3 ≤ d) {N : Nat} (l0 : Nat) (l1 : Int32) (l2 : Int32) (l3 : Int64) (x : zv_X) (h : mX4_make_0 N l0 l1 l2 l3 x = some o) : zv_V (fX4_make d x0 o) 0 [(0, .ref l0), (1, .int l1), (2, .int l2), (3, .long l3)] [] x := by
  unfold mX4_make_0 at h
  refine zv_aload_n (n := 0) dX4_make_0 rfl rfl ?_
  refine zr_gR dX4_make_1 fg_368 h (fun v1 e2 h => ?_)
  refine zr_cVv (ci := 2) (st := []) dX4_make_4 mw_X2_beginSearch wd_1304 wd_1305 wd_1306 rfl rfl [] rfl rfl (Nat.le_of_ble_eq_true rfl) (show d - 1 + 1 ≤ d by omega) h (fun o3 e4 => tX2_beginSearch (d := d - 1) (by omega) e4) (fun o3 e4 h => ?_)
  refine zv_iconst (v := 0) dX4_make_7 (by decide) ?_
  refine zv_istore (L' := [(5, .int (0 : Int32)), (0, .ref l0), (1, .int l1), (2, .int l2), (3, .long l3)]) dX4_make_8 (Nat.le_of_ble_eq_true rfl) rfl ?_
  exact zv_fewer [1, 2, 3, 4, 0] rfl (kX4_make_10 hd N _ _ _ _ _ _ h)
def mX4_make (N : Nat) (a0 : Nat) (a1 : Int32) (a2 : Int32) (a3 : Int64) (x : zv_X) : Option (zv_X × Int32) := mX4_make_0 N a0 a1 a2 a3 x
theorem tX4_make {d : Nat} (hd : 3 ≤ d) {N : Nat} {x : zv_X} {a0 : Nat} {a1 : Int32} {a2 : Int32} {a3 : Int64} {o : (zv_X × Int32)} (h : mX4_make N a0 a1 a2 a3 x = some o) : zv_T d yX4_make cX4_make 7 ((some .int)) [.ref a0, .int a1, .int a2, .long a3] x o.1 (some (.int o.2)) := by
  unfold mX4_make at h
  exact zv_enter (by decide) (Nat.le_of_ble_eq_true rfl) (kX4_make_0 hd _ _ _ _ _ h)

abbrev fX1_pushReference (d : Nat) (x0 : zv_X) (o : zv_X) : zv_G := (d, RX1, cX1_pushReference, 2, none, ("pushReference", []), x0, o, zv_fin x0 o none)
def mX1_pushReference_0 (N : Nat) (l0 : Nat) (l1 : Int32) (x : zv_X) : Option zv_X := (zm_R x l0 1 1).bind fun v1 => (zm_I x l0 1 2).bind fun v3 => (zm_sI x v1 v3 l1).bind fun x5 => (zm_I x5 l0 1 2).bind fun v7 => (zm_p x5 l0 1 2 (.int (v7 + (1 : Int32)))).bind fun x9 => some x9
theorem kX1_pushReference_0 {d : Nat} {x0 : zv_X} {o : zv_X} (hd : 0 ≤ d) {N : Nat} (l0 : Nat) (l1 : Int32) (x : zv_X) (h : mX1_pushReference_0 N l0 l1 x = some o) : zv_V (fX1_pushReference d x0 o) 0 [(0, .ref l0), (1, .int l1)] [] x := by
  unfold mX1_pushReference_0 at h
  refine zv_aload_n (n := 0) dX1_pushReference_0 rfl rfl ?_
  refine zr_gR dX1_pushReference_1 fg_349 h (fun v1 e2 h => ?_)
  refine zv_aload_n (n := 0) dX1_pushReference_4 rfl rfl ?_
  refine zr_gI dX1_pushReference_5 fg_350 h (fun v3 e4 h => ?_)
  refine zv_iload_n (n := 1) dX1_pushReference_8 rfl rfl ?_
  refine zr_sI dX1_pushReference_9 h (fun x5 e6 h => ?_)
  refine zv_aload_n (n := 0) dX1_pushReference_10 rfl rfl ?_
  refine zv_dup dX1_pushReference_11 rfl ?_
  refine zr_gI dX1_pushReference_12 fg_350 h (fun v7 e8 h => ?_)
  refine zv_iconst (v := 1) dX1_pushReference_15 (by decide) ?_
  refine zv_iadd dX1_pushReference_16 ?_
  refine zr_p dX1_pushReference_17 fl_350 (fun q => nomatch q) rfl rfl h (fun x9 e10 h => ?_)
  cases h
  exact zv_vret dX1_pushReference_20 rfl
def mX1_pushReference (N : Nat) (a0 : Nat) (a1 : Int32) (x : zv_X) : Option zv_X := mX1_pushReference_0 N a0 a1 x
theorem tX1_pushReference {d : Nat} (hd : 0 ≤ d) {N : Nat} {x : zv_X} {a0 : Nat} {a1 : Int32} {o : zv_X} (h : mX1_pushReference N a0 a1 x = some o) : zv_T d yX1_pushReference cX1_pushReference 2 (none) [.ref a0, .int a1] x o none := by
  unfold mX1_pushReference at h
  exact zv_enter (by decide) (Nat.le_of_ble_eq_true rfl) (kX1_pushReference_0 hd _ _ _ h)

abbrev fX1_catchAt (d : Nat) (x0 : zv_X) (o : zv_X) : zv_G := (d, RX1, cX1_catchAt, 3, none, ("catchAt", []), x0, o, zv_fin x0 o none)
def mX1_catchAt_0 (N : Nat) (l0 : Nat) (l1 : Int32) (l2 : Int32) (x : zv_X) : Option zv_X := (zm_p x l0 1 4 (.int l1)).bind fun x1 => (zm_p x1 l0 1 2 (.int (16 : Int32))).bind fun x3 => if zm_k x3 l0 1 = true then ((mX1_pushReference N l0 l2 x3).bind fun o5 => some o5) else none
theorem kX1_catchAt_0 {d : Nat} {x0 : zv_X} {o : zv_X} (hd : 1 ≤ d) {N : Nat} (l0 : Nat) (l1 : Int32) (l2 : Int32) (x : zv_X) (h : mX1_catchAt_0 N l0 l1 l2 x = some o) : zv_V (fX1_catchAt d x0 o) 0 [(0, .ref l0), (1, .int l1), (2, .int l2)] [] x := by
  unfold mX1_catchAt_0 at h
  refine zv_aload_n (n := 0) dX1_catchAt_0 rfl rfl ?_
  refine zv_iload_n (n := 1) dX1_catchAt_1 rfl rfl ?_
  refine zr_p dX1_catchAt_2 fl_352 (fun q => nomatch q) rfl rfl h (fun x1 e2 h => ?_)
  refine zv_aload_n (n := 0) dX1_catchAt_5 rfl rfl ?_
  refine zv_bipush (v := 16) dX1_catchAt_6 (by decide) ?_
  refine zr_p dX1_catchAt_8 fl_350 (fun q => nomatch q) rfl rfl h (fun x3 e4 h => ?_)
  refine zv_aload_n (n := 0) dX1_catchAt_11 rfl rfl ?_
  refine zv_iload_n (n := 2) dX1_catchAt_12 rfl rfl ?_
  refine zr_cVv (ci := 1) (st := []) dX1_catchAt_13 mw_X1_pushReference wd_1376 wd_1122 wd_1123 rfl rfl [.int l2] rfl rfl (Nat.le_of_ble_eq_true rfl) (show d - 1 + 1 ≤ d by omega) h (fun o5 e6 => tX1_pushReference (d := d - 1) (by omega) e6) (fun o5 e6 h => ?_)
  cases h
  exact zv_vret dX1_catchAt_16 rfl
def mX1_catchAt (N : Nat) (a0 : Nat) (a1 : Int32) (a2 : Int32) (x : zv_X) : Option zv_X := mX1_catchAt_0 N a0 a1 a2 x
theorem tX1_catchAt {d : Nat} (hd : 1 ≤ d) {N : Nat} {x : zv_X} {a0 : Nat} {a1 : Int32} {a2 : Int32} {o : zv_X} (h : mX1_catchAt N a0 a1 a2 x = some o) : zv_T d yX1_catchAt cX1_catchAt 3 (none) [.ref a0, .int a1, .int a2] x o none := by
  unfold mX1_catchAt at h
  exact zv_enter (by decide) (Nat.le_of_ble_eq_true rfl) (kX1_catchAt_0 hd _ _ _ _ h)

abbrev fX1_routine (d : Nat) (x0 : zv_X) (o : (zv_X × Nat)) : zv_G := (d, RX1, cX1_routine, 1, (some (.object "GuestFrames$Routine")), ("routine", []), x0, o.1, zv_fin x0 o.1 (some (.ref o.2)))
def mX1_routine_0 (N : Nat) (l0 : Nat) (x : zv_X) : Option (zv_X × Nat) := (zm_R x l0 1 3).bind fun v1 => some (x, v1)
theorem kX1_routine_0 {d : Nat} {x0 : zv_X} {o : (zv_X × Nat)} (hd : 0 ≤ d) {N : Nat} (l0 : Nat) (x : zv_X) (h : mX1_routine_0 N l0 x = some o) : zv_V (fX1_routine d x0 o) 0 [(0, .ref l0)] [] x := by
  unfold mX1_routine_0 at h
  refine zv_aload_n (n := 0) dX1_routine_0 rfl rfl ?_
  refine zr_gR dX1_routine_1 fg_351 h (fun v1 e2 h => ?_)
  cases h
  exact zv_aret dX1_routine_4 rfl (Or.inl ⟨_, rfl⟩)
def mX1_routine (N : Nat) (a0 : Nat) (x : zv_X) : Option (zv_X × Nat) := mX1_routine_0 N a0 x
theorem tX1_routine {d : Nat} (hd : 0 ≤ d) {N : Nat} {x : zv_X} {a0 : Nat} {o : (zv_X × Nat)} (h : mX1_routine N a0 x = some o) : zv_T d yX1_routine cX1_routine 1 ((some (.object "GuestFrames$Routine"))) [.ref a0] x o.1 (some (.ref o.2)) := by
  unfold mX1_routine at h
  exact zv_enter (by decide) (Nat.le_of_ble_eq_true rfl) (kX1_routine_0 hd _ _ h)

abbrev fX2_classes (d : Nat) (x0 : zv_X) (o : (zv_X × Int32)) : zv_G := (d, RX2, cX2_classes, 3, (some .int), ("classes", []), x0, o.1, zv_fin x0 o.1 (some (.int o.2)))
def mX2_classes_23 (N : Nat) (s0 : Int32) (x : zv_X) : Option (zv_X × Int32) := some (x, s0)
theorem kX2_classes_23 {d : Nat} {x0 : zv_X} {o : (zv_X × Int32)} (hd : 1 ≤ d) {N : Nat} (s0 : Int32) (x : zv_X) (h : mX2_classes_23 N s0 x = some o) : zv_V (fX2_classes d x0 o) 23 [] [.int s0] x := by
  unfold mX2_classes_23 at h
  cases h
  exact zv_iret dX2_classes_23 rfl
def mX2_classes_0 (N : Nat) (l0 : Nat) (l1 : Int32) (x : zv_X) : Option (zv_X × Int32) := if zm_k x l0 2 = true then ((mX2_tag N l0 l1 x).bind fun o1 => if 0 ≤ o1.2 then ((zm_R o1.1 l0 2 0).bind fun v3 => (zm_R o1.1 v3 7 0).bind fun v5 => (zm_aI o1.1 v5 o1.2).bind fun v7 => mX2_classes_23 N v7 o1.1) else (mX2_classes_23 N (1 : Int32) o1.1)) else none
theorem kX2_classes_0 {d : Nat} {x0 : zv_X} {o : (zv_X × Int32)} (hd : 1 ≤ d) {N : Nat} (l0 : Nat) (l1 : Int32) (x : zv_X) (h : mX2_classes_0 N l0 l1 x = some o) : zv_V (fX2_classes d x0 o) 0 [(0, .ref l0), (1, .int l1)] [] x := by
  unfold mX2_classes_0 at h
  refine zv_aload_n (n := 0) dX2_classes_0 rfl rfl ?_
  refine zv_iload_n (n := 1) dX2_classes_1 rfl rfl ?_
  refine zr_cVi (ci := 2) (st := []) dX2_classes_2 mw_X2_tag wd_1178 wd_1164 wd_1165 rfl rfl [.int l1] rfl rfl (Nat.le_of_ble_eq_true rfl) (show d - 1 + 1 ≤ d by omega) h (fun o1 e2 => tX2_tag (d := d - 1) (by omega) e2) (fun o1 e2 h => ?_)
  refine zv_istore_n (L' := [(2, .int o1.2), (0, .ref l0), (1, .int l1)]) dX2_classes_5 rfl (Nat.le_of_ble_eq_true rfl) rfl ?_
  refine zv_iload_n (n := 0) dX2_classes_6 rfl rfl ?_
  refine zr_if_ge (tgt := 14) dX2_classes_7 (by decide) h (fun c9 h => ?_) (fun c9 h => ?_)
  · refine zv_aload_n (n := 1) dX2_classes_14 rfl rfl ?_
    refine zr_gR dX2_classes_15 fg_267 h (fun v3 e4 h => ?_)
    refine zr_gR dX2_classes_18 fg_139 h (fun v5 e6 h => ?_)
    refine zv_iload_n (n := 0) dX2_classes_21 rfl rfl ?_
    refine zr_aI dX2_classes_22 h (fun v7 e8 h => ?_)
    exact zv_fewer [] rfl (kX2_classes_23 hd _ _ h)
  · refine zv_iconst (v := 1) dX2_classes_10 (by decide) ?_
    refine zv_goto (tgt := 23) dX2_classes_11 (by decide) ?_
    exact zv_fewer [] rfl (kX2_classes_23 hd _ _ h)
def mX2_classes (N : Nat) (a0 : Nat) (a1 : Int32) (x : zv_X) : Option (zv_X × Int32) := mX2_classes_0 N a0 a1 x
theorem tX2_classes {d : Nat} (hd : 1 ≤ d) {N : Nat} {x : zv_X} {a0 : Nat} {a1 : Int32} {o : (zv_X × Int32)} (h : mX2_classes N a0 a1 x = some o) : zv_T d yX2_classes cX2_classes 3 ((some .int)) [.ref a0, .int a1] x o.1 (some (.int o.2)) := by
  unfold mX2_classes at h
  exact zv_enter (by decide) (Nat.le_of_ble_eq_true rfl) (kX2_classes_0 hd _ _ _ h)

abbrev fX6_placeToCatch (d : Nat) (x0 : zv_X) (o : (zv_X × Int32)) : zv_G := (d, RX6, cX6_placeToCatch, 4, (some .int), ("placeToCatch", []), x0, o.1, zv_fin x0 o.1 (some (.int o.2)))
def mX6_placeToCatch_45 (K2 : Nat → Int32 → Int32 → Int32 → zv_X → Option (zv_X × Int32)) (N : Nat) (l0 : Nat) (l1 : Int32) (l2 : Int32) (l3 : Int32) (x : zv_X) : Option (zv_X × Int32) := K2 l0 l1 l2 (l3 + (4)) x
theorem kX6_placeToCatch_45 {d : Nat} {x0 : zv_X} {o : (zv_X × Int32)} (hd : 1 ≤ d) {K2 : Nat → Int32 → Int32 → Int32 → zv_X → Option (zv_X × Int32)} (hK2 : ∀ (l0 : Nat) (l1 : Int32) (l2 : Int32) (l3 : Int32) (x : zv_X), K2 l0 l1 l2 l3 x = some o → zv_V (fX6_placeToCatch d x0 o) 2 [(0, .ref l0), (1, .int l1), (2, .int l2), (3, .int l3)] [] x) {N : Nat} (l0 : Nat) (l1 : Int32) (l2 : Int32) (l3 : Int32) (x : zv_X) (h : mX6_placeToCatch_45 K2 N l0 l1 l2 l3 x = some o) : zv_V (fX6_placeToCatch d x0 o) 45 [(0, .ref l0), (1, .int l1), (2, .int l2), (3, .int l3)] [] x := by
  unfold mX6_placeToCatch_45 at h
  refine zv_iinc (n := 3) (v := l3 + (4)) (L' := [(3, .int (l3 + (4))), (0, .ref l0), (1, .int l1), (2, .int l2)]) dX6_placeToCatch_45 rfl rfl (Nat.le_of_ble_eq_true rfl) rfl ?_
  refine zv_goto (tgt := 2) dX6_placeToCatch_48 (by decide) ?_
  exact zv_fewer [1, 2, 3, 0] rfl (hK2 _ _ _ _ _ h)
def mX6_placeToCatch_2 (N : Nat) : Nat → Nat → Int32 → Int32 → Int32 → zv_X → Option (zv_X × Int32)
  | 0, _, _, _, _, _ => none
  | n + 1, l0, l1, l2, l3, x => (zm_R x l0 6 1).bind fun v1 => (zm_n x v1).bind fun v3 => if v3 ≤ l3 then (some (x, (-1 : Int32))) else (if zm_k x l0 6 = true then ((mX6_guards N l0 l3 l1 x).bind fun o5 => if o5.2 = 0 then (mX6_placeToCatch_45 (mX6_placeToCatch_2 N n) N l0 l1 l2 l3 o5.1) else ((zm_R o5.1 l0 6 1).bind fun v7 => (zm_aI o5.1 v7 (l3 + (3 : Int32))).bind fun v9 => if ((l2 >>> (v9 &&& 31)) &&& (1 : Int32)) = (1 : Int32) then ((zm_R o5.1 l0 6 1).bind fun v11 => (zm_aI o5.1 v11 (l3 + (2 : Int32))).bind fun v13 => some (o5.1, v13)) else (mX6_placeToCatch_45 (mX6_placeToCatch_2 N n) N l0 l1 l2 l3 o5.1))) else none)
theorem kX6_placeToCatch_2 {d : Nat} {x0 : zv_X} {o : (zv_X × Int32)} (hd : 1 ≤ d) {N : Nat} : ∀ (n : Nat) (l0 : Nat) (l1 : Int32) (l2 : Int32) (l3 : Int32) (x : zv_X), mX6_placeToCatch_2 N n l0 l1 l2 l3 x = some o → zv_V (fX6_placeToCatch d x0 o) 2 [(0, .ref l0), (1, .int l1), (2, .int l2), (3, .int l3)] [] x := by
  intro n
  induction n with
  | zero => intro l0 l1 l2 l3 x h; cases h
  | succ n ih =>
    intro l0 l1 l2 l3 x h
    unfold mX6_placeToCatch_2 at h
    refine zv_iload_n (n := 3) dX6_placeToCatch_2 rfl rfl ?_
    refine zv_aload_n (n := 0) dX6_placeToCatch_3 rfl rfl ?_
    refine zr_gR dX6_placeToCatch_4 fg_314 h (fun v1 e2 h => ?_)
    refine zr_n dX6_placeToCatch_7 h (fun v3 e4 h => ?_)
    refine zr_icmp_ge (tgt := 51) dX6_placeToCatch_8 (by decide) h (fun c17 h => ?_) (fun c17 h => ?_)
    · refine zv_iconst (v := -1) dX6_placeToCatch_51 (by decide) ?_
      cases h
      exact zv_iret dX6_placeToCatch_52 rfl
    · refine zv_aload_n (n := 0) dX6_placeToCatch_11 rfl rfl ?_
      refine zv_iload_n (n := 3) dX6_placeToCatch_12 rfl rfl ?_
      refine zv_iload_n (n := 1) dX6_placeToCatch_13 rfl rfl ?_
      refine zr_cVi (ci := 6) (st := []) dX6_placeToCatch_14 mw_X6_guards wd_1371 wd_688 wd_689 rfl rfl [.int l3, .int l1] rfl rfl (Nat.le_of_ble_eq_true rfl) (show d - 1 + 1 ≤ d by omega) h (fun o5 e6 => tX6_guards (d := d - 1) (by omega) e6) (fun o5 e6 h => ?_)
      refine zr_if_eq (tgt := 45) dX6_placeToCatch_17 (by decide) h (fun c16 h => ?_) (fun c16 h => ?_)
      · exact kX6_placeToCatch_45 hd ih _ _ _ _ _ h
      · refine zv_iload_n (n := 2) dX6_placeToCatch_20 rfl rfl ?_
        refine zv_aload_n (n := 0) dX6_placeToCatch_21 rfl rfl ?_
        refine zr_gR dX6_placeToCatch_22 fg_314 h (fun v7 e8 h => ?_)
        refine zv_iload_n (n := 3) dX6_placeToCatch_25 rfl rfl ?_
        refine zv_iconst (v := 3) dX6_placeToCatch_26 (by decide) ?_
        refine zv_iadd dX6_placeToCatch_27 ?_
        refine zr_aI dX6_placeToCatch_28 h (fun v9 e10 h => ?_)
        refine zv_ishr dX6_placeToCatch_29 ?_
        refine zv_iconst (v := 1) dX6_placeToCatch_30 (by decide) ?_
        refine zv_iand dX6_placeToCatch_31 ?_
        refine zv_iconst (v := 1) dX6_placeToCatch_32 (by decide) ?_
        refine zr_icmp_ne (tgt := 45) dX6_placeToCatch_33 (by decide) h (fun c15 h => ?_) (fun c15 h => ?_)
        · exact kX6_placeToCatch_45 hd ih _ _ _ _ _ h
        · refine zv_aload_n (n := 0) dX6_placeToCatch_36 rfl rfl ?_
          refine zr_gR dX6_placeToCatch_37 fg_314 h (fun v11 e12 h => ?_)
          refine zv_iload_n (n := 3) dX6_placeToCatch_40 rfl rfl ?_
          refine zv_iconst (v := 2) dX6_placeToCatch_41 (by decide) ?_
          refine zv_iadd dX6_placeToCatch_42 ?_
          refine zr_aI dX6_placeToCatch_43 h (fun v13 e14 h => ?_)
          cases h
          exact zv_iret dX6_placeToCatch_44 rfl
def mX6_placeToCatch_0 (N : Nat) (l0 : Nat) (l1 : Int32) (l2 : Int32) (x : zv_X) : Option (zv_X × Int32) := mX6_placeToCatch_2 N N l0 l1 l2 (0 : Int32) x
theorem kX6_placeToCatch_0 {d : Nat} {x0 : zv_X} {o : (zv_X × Int32)} (hd : 1 ≤ d) {N : Nat} (l0 : Nat) (l1 : Int32) (l2 : Int32) (x : zv_X) (h : mX6_placeToCatch_0 N l0 l1 l2 x = some o) : zv_V (fX6_placeToCatch d x0 o) 0 [(0, .ref l0), (1, .int l1), (2, .int l2)] [] x := by
  unfold mX6_placeToCatch_0 at h
  refine zv_iconst (v := 0) dX6_placeToCatch_0 (by decide) ?_
  refine zv_istore_n (L' := [(3, .int (0 : Int32)), (0, .ref l0), (1, .int l1), (2, .int l2)]) dX6_placeToCatch_1 rfl (Nat.le_of_ble_eq_true rfl) rfl ?_
  exact zv_fewer [1, 2, 3, 0] rfl (kX6_placeToCatch_2 hd N _ _ _ _ _ h)
def mX6_placeToCatch (N : Nat) (a0 : Nat) (a1 : Int32) (a2 : Int32) (x : zv_X) : Option (zv_X × Int32) := mX6_placeToCatch_0 N a0 a1 a2 x
theorem tX6_placeToCatch {d : Nat} (hd : 1 ≤ d) {N : Nat} {x : zv_X} {a0 : Nat} {a1 : Int32} {a2 : Int32} {o : (zv_X × Int32)} (h : mX6_placeToCatch N a0 a1 a2 x = some o) : zv_T d yX6_placeToCatch cX6_placeToCatch 4 ((some .int)) [.ref a0, .int a1, .int a2] x o.1 (some (.int o.2)) := by
  unfold mX6_placeToCatch at h
  exact zv_enter (by decide) (Nat.le_of_ble_eq_true rfl) (kX6_placeToCatch_0 hd _ _ _ _ h)

abbrev fX4_unwind (d : Nat) (x0 : zv_X) (o : zv_X) : zv_G := (d, RX4, cX4_unwind, 5, none, ("unwind", []), x0, o, zv_fin x0 o none)
def mX4_unwind_14 (N : Nat) : Nat → Nat → Int32 → Int32 → Int32 → zv_X → Option zv_X
  | 0, _, _, _, _, _ => none
  | n + 1, l0, l1, l2, l3, x => if l3 < 0 then ((zm_p x l0 4 7 (.int (1 : Int32))).bind fun x1 => (zm_R x1 l0 4 2).bind fun v3 => if zm_k x1 v3 2 = true then ((mX2_tag N v3 l1 x1).bind fun o5 => (zm_p o5.1 l0 4 8 (.long (Int32.toInt64 o5.2))).bind fun x7 => some x7) else none) else ((zm_R x l0 4 4).bind fun v9 => (zm_aR x v9 l3).bind fun v11 => if zm_k x v11 1 = true then ((mX1_routine N v11 x).bind fun o13 => (zm_R o13.1 l0 4 4).bind fun v15 => (zm_aR o13.1 v15 l3).bind fun v17 => (zm_I o13.1 v17 1 4).bind fun v19 => if zm_k o13.1 o13.2 6 = true then ((mX6_placeToCatch N o13.2 v19 l2 o13.1).bind fun o21 => if o21.2 = (-1 : Int32) then (mX4_unwind_14 N n l0 l1 l2 (l3 + (-1)) o21.1) else ((zm_p o21.1 l0 4 6 (.int l3)).bind fun x23 => (zm_R x23 l0 4 4).bind fun v25 => (zm_aR x23 v25 l3).bind fun v27 => (zm_p x23 l0 4 5 (.ref v27)).bind fun x29 => (zm_R x29 l0 4 5).bind fun v31 => if zm_k x29 v31 1 = true then ((mX1_catchAt N v31 o21.2 l1 x29).bind fun o33 => some o33) else none)) else none) else none)
theorem kX4_unwind_14 {d : Nat} {x0 : zv_X} {o : zv_X} (hd : 2 ≤ d) {N : Nat} : ∀ (n : Nat) (l0 : Nat) (l1 : Int32) (l2 : Int32) (l3 : Int32) (x : zv_X), mX4_unwind_14 N n l0 l1 l2 l3 x = some o → zv_V (fX4_unwind d x0 o) 14 [(0, .ref l0), (1, .int l1), (2, .int l2), (3, .int l3)] [] x := by
  intro n
  induction n with
  | zero => intro l0 l1 l2 l3 x h; cases h
  | succ n ih =>
    intro l0 l1 l2 l3 x h
    unfold mX4_unwind_14 at h
    refine zv_iload_n (n := 3) dX4_unwind_14 rfl rfl ?_
    refine zr_if_lt (tgt := 83) dX4_unwind_15 (by decide) h (fun c36 h => ?_) (fun c36 h => ?_)
    · refine zv_aload_n (n := 0) dX4_unwind_83 rfl rfl ?_
      refine zv_iconst (v := 1) dX4_unwind_84 (by decide) ?_
      refine zr_p dX4_unwind_85 fl_373 (fun q => nomatch q) rfl rfl h (fun x1 e2 h => ?_)
      refine zv_aload_n (n := 0) dX4_unwind_88 rfl rfl ?_
      refine zv_aload_n (n := 0) dX4_unwind_89 rfl rfl ?_
      refine zr_gR dX4_unwind_90 fg_368 h (fun v3 e4 h => ?_)
      refine zv_iload_n (n := 1) dX4_unwind_93 rfl rfl ?_
      refine zr_cVi (ci := 2) (st := [.ref l0]) dX4_unwind_94 mw_X2_tag wd_1163 wd_1164 wd_1165 rfl rfl [.int l1] rfl rfl (Nat.le_of_ble_eq_true rfl) (show d - 1 + 1 ≤ d by omega) h (fun o5 e6 => tX2_tag (d := d - 1) (by omega) e6) (fun o5 e6 h => ?_)
      refine zv_i2l dX4_unwind_97 ?_
      refine zr_p dX4_unwind_98 fl_374 (fun q => nomatch q) rfl rfl h (fun x7 e8 h => ?_)
      cases h
      exact zv_vret dX4_unwind_101 rfl
    · refine zv_aload_n (n := 0) dX4_unwind_18 rfl rfl ?_
      refine zr_gR dX4_unwind_19 fg_370 h (fun v9 e10 h => ?_)
      refine zv_iload_n (n := 3) dX4_unwind_22 rfl rfl ?_
      refine zr_aR dX4_unwind_23 h (fun v11 e12 h => ?_)
      refine zr_cVr (ci := 1) (st := []) dX4_unwind_24 mw_X1_routine wd_1363 wd_1364 wd_1365 rfl rfl [] rfl rfl (Nat.le_of_ble_eq_true rfl) (show d - 1 + 1 ≤ d by omega) h (fun o13 e14 => tX1_routine (d := d - 1) (by omega) e14) (fun o13 e14 h => ?_)
      refine zv_aload_n (n := 0) dX4_unwind_27 rfl rfl ?_
      refine zr_gR dX4_unwind_28 fg_370 h (fun v15 e16 h => ?_)
      refine zv_iload_n (n := 3) dX4_unwind_31 rfl rfl ?_
      refine zr_aR dX4_unwind_32 h (fun v17 e18 h => ?_)
      refine zr_gI dX4_unwind_33 fg_353 h (fun v19 e20 h => ?_)
      refine zv_iload_n (n := 2) dX4_unwind_36 rfl rfl ?_
      refine zr_cVi (ci := 6) (st := []) dX4_unwind_37 mw_X6_placeToCatch wd_1367 wd_1368 wd_1369 rfl rfl [.int v19, .int l2] rfl rfl (Nat.le_of_ble_eq_true rfl) (show d - 1 + 1 ≤ d by omega) h (fun o21 e22 => tX6_placeToCatch (d := d - 1) (by omega) e22) (fun o21 e22 h => ?_)
      refine zv_istore (L' := [(4, .int o21.2), (0, .ref l0), (1, .int l1), (2, .int l2), (3, .int l3)]) dX4_unwind_40 (Nat.le_of_ble_eq_true rfl) rfl ?_
      refine zv_iload (n := 0) dX4_unwind_42 rfl ?_
      refine zv_iconst (v := -1) dX4_unwind_44 (by decide) ?_
      refine zr_icmp_ne (tgt := 51) dX4_unwind_45 (by decide) h (fun c35 h => ?_) (fun c35 h => ?_)
      · refine zv_aload_n (n := 1) dX4_unwind_51 rfl rfl ?_
        refine zv_iload_n (n := 4) dX4_unwind_52 rfl rfl ?_
        refine zr_p dX4_unwind_53 fl_372 (fun q => nomatch q) rfl rfl h (fun x23 e24 h => ?_)
        refine zv_aload_n (n := 1) dX4_unwind_56 rfl rfl ?_
        refine zv_aload_n (n := 1) dX4_unwind_57 rfl rfl ?_
        refine zr_gR dX4_unwind_58 fg_370 h (fun v25 e26 h => ?_)
        refine zv_iload_n (n := 4) dX4_unwind_61 rfl rfl ?_
        refine zr_aR dX4_unwind_62 h (fun v27 e28 h => ?_)
        refine zr_p dX4_unwind_63 fl_371 (fun q => nomatch q) rfl rfl h (fun x29 e30 h => ?_)
        refine zv_aload_n (n := 1) dX4_unwind_66 rfl rfl ?_
        refine zr_gR dX4_unwind_67 fg_371 h (fun v31 e32 h => ?_)
        refine zv_iload (n := 0) dX4_unwind_70 rfl ?_
        refine zv_iload_n (n := 2) dX4_unwind_72 rfl rfl ?_
        refine zr_cVv (ci := 1) (st := []) dX4_unwind_73 mw_X1_catchAt wd_1372 wd_1373 wd_1374 rfl rfl [.int o21.2, .int l1] rfl rfl (Nat.le_of_ble_eq_true rfl) (show d - 1 + 1 ≤ d by omega) h (fun o33 e34 => tX1_catchAt (d := d - 1) (by omega) e34) (fun o33 e34 h => ?_)
        cases h
        exact zv_vret dX4_unwind_76 rfl
      · refine zv_goto (tgt := 77) dX4_unwind_48 (by decide) ?_
        refine zv_iinc (n := 4) (v := l3 + (-1)) (L' := [(3, .int (l3 + (-1))), (4, .int o21.2), (0, .ref l0), (1, .int l1), (2, .int l2)]) dX4_unwind_77 rfl rfl (Nat.le_of_ble_eq_true rfl) rfl ?_
        refine zv_goto (tgt := 14) dX4_unwind_80 (by decide) ?_
        exact zv_fewer [2, 3, 4, 0] rfl (ih _ _ _ _ _ h)
def mX4_unwind_0 (N : Nat) (l0 : Nat) (l1 : Int32) (x : zv_X) : Option zv_X := (zm_R x l0 4 2).bind fun v1 => if zm_k x v1 2 = true then ((mX2_classes N v1 l1 x).bind fun o3 => (zm_I o3.1 l0 4 6).bind fun v5 => mX4_unwind_14 N N l0 l1 o3.2 v5 o3.1) else none
theorem kX4_unwind_0 {d : Nat} {x0 : zv_X} {o : zv_X} (hd : 2 ≤ d) {N : Nat} (l0 : Nat) (l1 : Int32) (x : zv_X) (h : mX4_unwind_0 N l0 l1 x = some o) : zv_V (fX4_unwind d x0 o) 0 [(0, .ref l0), (1, .int l1)] [] x := by
  unfold mX4_unwind_0 at h
  refine zv_aload_n (n := 0) dX4_unwind_0 rfl rfl ?_
  refine zr_gR dX4_unwind_1 fg_368 h (fun v1 e2 h => ?_)
  refine zv_iload_n (n := 1) dX4_unwind_4 rfl rfl ?_
  refine zr_cVi (ci := 2) (st := []) dX4_unwind_5 mw_X2_classes wd_1265 wd_1266 wd_1267 rfl rfl [.int l1] rfl rfl (Nat.le_of_ble_eq_true rfl) (show d - 1 + 1 ≤ d by omega) h (fun o3 e4 => tX2_classes (d := d - 1) (by omega) e4) (fun o3 e4 h => ?_)
  refine zv_istore_n (L' := [(2, .int o3.2), (0, .ref l0), (1, .int l1)]) dX4_unwind_8 rfl (Nat.le_of_ble_eq_true rfl) rfl ?_
  refine zv_aload_n (n := 1) dX4_unwind_9 rfl rfl ?_
  refine zr_gI dX4_unwind_10 fg_372 h (fun v5 e6 h => ?_)
  refine zv_istore_n (L' := [(3, .int v5), (2, .int o3.2), (0, .ref l0), (1, .int l1)]) dX4_unwind_13 rfl (Nat.le_of_ble_eq_true rfl) rfl ?_
  exact zv_fewer [2, 3, 1, 0] rfl (kX4_unwind_14 hd N _ _ _ _ _ h)
def mX4_unwind (N : Nat) (a0 : Nat) (a1 : Int32) (x : zv_X) : Option zv_X := mX4_unwind_0 N a0 a1 x
theorem tX4_unwind {d : Nat} (hd : 2 ≤ d) {N : Nat} {x : zv_X} {a0 : Nat} {a1 : Int32} {o : zv_X} (h : mX4_unwind N a0 a1 x = some o) : zv_T d yX4_unwind cX4_unwind 5 (none) [.ref a0, .int a1] x o none := by
  unfold mX4_unwind at h
  exact zv_enter (by decide) (Nat.le_of_ble_eq_true rfl) (kX4_unwind_0 hd _ _ _ h)

abbrev fX4_raise (d : Nat) (x0 : zv_X) (o : zv_X) : zv_G := (d, RX4, cX4_raise, 3, none, ("raise", []), x0, o, zv_fin x0 o none)
def mX4_raise_25 (N : Nat)  (x : zv_X) : Option zv_X := some x
theorem kX4_raise_25 {d : Nat} {x0 : zv_X} {o : zv_X} (hd : 4 ≤ d) {N : Nat}  (x : zv_X) (h : mX4_raise_25 N  x = some o) : zv_V (fX4_raise d x0 o) 25 [] [] x := by
  unfold mX4_raise_25 at h
  cases h
  exact zv_vret dX4_raise_25 rfl
def mX4_raise_0 (N : Nat) (l0 : Nat) (l1 : Int32) (x : zv_X) : Option zv_X := (zm_R x l0 4 2).bind fun v1 => if zm_k x v1 2 = true then ((mX2_wordsOfObject N v1 l1 x).bind fun o3 => if zm_k o3.1 l0 4 = true then ((mX4_make N l0 l1 (0 : Int32) (Int32.toInt64 o3.2) o3.1).bind fun o5 => if o5.2 = 0 then (mX4_raise_25 N o5.1) else (if zm_k o5.1 l0 4 = true then ((mX4_unwind N l0 o5.2 o5.1).bind fun o7 => mX4_raise_25 N o7) else none)) else none) else none
theorem kX4_raise_0 {d : Nat} {x0 : zv_X} {o : zv_X} (hd : 4 ≤ d) {N : Nat} (l0 : Nat) (l1 : Int32) (x : zv_X) (h : mX4_raise_0 N l0 l1 x = some o) : zv_V (fX4_raise d x0 o) 0 [(0, .ref l0), (1, .int l1)] [] x := by
  unfold mX4_raise_0 at h
  refine zv_aload_n (n := 0) dX4_raise_0 rfl rfl ?_
  refine zv_iload_n (n := 1) dX4_raise_1 rfl rfl ?_
  refine zv_iconst (v := 0) dX4_raise_2 (by decide) ?_
  refine zv_aload_n (n := 0) dX4_raise_3 rfl rfl ?_
  refine zr_gR dX4_raise_4 fg_368 h (fun v1 e2 h => ?_)
  refine zv_iload_n (n := 1) dX4_raise_7 rfl rfl ?_
  refine zr_cVi (ci := 2) (st := [.int (0 : Int32), .int l1, .ref l0]) dX4_raise_8 mw_X2_wordsOfObject wd_1296 wd_1297 wd_1298 rfl rfl [.int l1] rfl rfl (Nat.le_of_ble_eq_true rfl) (show d - 1 + 1 ≤ d by omega) h (fun o3 e4 => tX2_wordsOfObject (d := d - 1) (by omega) e4) (fun o3 e4 h => ?_)
  refine zv_i2l dX4_raise_11 ?_
  refine zr_cVi (ci := 4) (st := []) dX4_raise_12 mw_X4_make wd_1300 wd_1302 wd_40 rfl rfl [.int l1, .int (0 : Int32), .long (Int32.toInt64 o3.2)] rfl rfl (Nat.le_of_ble_eq_true rfl) (show d - 1 + 1 ≤ d by omega) h (fun o5 e6 => tX4_make (d := d - 1) (by omega) e6) (fun o5 e6 h => ?_)
  refine zv_istore_n (L' := [(2, .int o5.2), (0, .ref l0), (1, .int l1)]) dX4_raise_15 rfl (Nat.le_of_ble_eq_true rfl) rfl ?_
  refine zv_iload_n (n := 0) dX4_raise_16 rfl rfl ?_
  refine zr_if_eq (tgt := 25) dX4_raise_17 (by decide) h (fun c9 h => ?_) (fun c9 h => ?_)
  · exact zv_fewer [] rfl (kX4_raise_25 hd _ h)
  · refine zv_aload_n (n := 1) dX4_raise_20 rfl rfl ?_
    refine zv_iload_n (n := 0) dX4_raise_21 rfl rfl ?_
    refine zr_cVv (ci := 4) (st := []) dX4_raise_22 mw_X4_unwind wd_1359 wd_1361 wd_46 rfl rfl [.int o5.2] rfl rfl (Nat.le_of_ble_eq_true rfl) (show d - 1 + 1 ≤ d by omega) h (fun o7 e8 => tX4_unwind (d := d - 1) (by omega) e8) (fun o7 e8 h => ?_)
    exact zv_fewer [] rfl (kX4_raise_25 hd _ h)
def mX4_raise (N : Nat) (a0 : Nat) (a1 : Int32) (x : zv_X) : Option zv_X := mX4_raise_0 N a0 a1 x
theorem tX4_raise {d : Nat} (hd : 4 ≤ d) {N : Nat} {x : zv_X} {a0 : Nat} {a1 : Int32} {o : zv_X} (h : mX4_raise N a0 a1 x = some o) : zv_T d yX4_raise cX4_raise 3 (none) [.ref a0, .int a1] x o none := by
  unfold mX4_raise at h
  exact zv_enter (by decide) (Nat.le_of_ble_eq_true rfl) (kX4_raise_0 hd _ _ _ h)

abbrev fX1_opcode (d : Nat) (x0 : zv_X) (o : (zv_X × Int32)) : zv_G := (d, RX1, cX1_opcode, 1, (some .int), ("opcode", []), x0, o.1, zv_fin x0 o.1 (some (.int o.2)))
def mX1_opcode_0 (N : Nat) (l0 : Nat) (x : zv_X) : Option (zv_X × Int32) := (zm_R x l0 1 3).bind fun v1 => (zm_I x l0 1 4).bind fun v3 => if zm_k x v1 6 = true then ((mX6_at N v1 v3 x).bind fun o5 => some (o5.1, o5.2)) else none
theorem kX1_opcode_0 {d : Nat} {x0 : zv_X} {o : (zv_X × Int32)} (hd : 1 ≤ d) {N : Nat} (l0 : Nat) (x : zv_X) (h : mX1_opcode_0 N l0 x = some o) : zv_V (fX1_opcode d x0 o) 0 [(0, .ref l0)] [] x := by
  unfold mX1_opcode_0 at h
  refine zv_aload_n (n := 0) dX1_opcode_0 rfl rfl ?_
  refine zr_gR dX1_opcode_1 fg_351 h (fun v1 e2 h => ?_)
  refine zv_aload_n (n := 0) dX1_opcode_4 rfl rfl ?_
  refine zr_gI dX1_opcode_5 fg_352 h (fun v3 e4 h => ?_)
  refine zr_cVi (ci := 6) (st := []) dX1_opcode_8 mw_X6_at wd_1112 wd_659 wd_660 rfl rfl [.int v3] rfl rfl (Nat.le_of_ble_eq_true rfl) (show d - 1 + 1 ≤ d by omega) h (fun o5 e6 => tX6_at (d := d - 1) (by omega) e6) (fun o5 e6 h => ?_)
  cases h
  exact zv_iret dX1_opcode_11 rfl
def mX1_opcode (N : Nat) (a0 : Nat) (x : zv_X) : Option (zv_X × Int32) := mX1_opcode_0 N a0 x
theorem tX1_opcode {d : Nat} (hd : 1 ≤ d) {N : Nat} {x : zv_X} {a0 : Nat} {o : (zv_X × Int32)} (h : mX1_opcode N a0 x = some o) : zv_T d yX1_opcode cX1_opcode 1 ((some .int)) [.ref a0] x o.1 (some (.int o.2)) := by
  unfold mX1_opcode at h
  exact zv_enter (by decide) (Nat.le_of_ble_eq_true rfl) (kX1_opcode_0 hd _ _ h)

abbrev fX1_operand (d : Nat) (x0 : zv_X) (o : (zv_X × Int32)) : zv_G := (d, RX1, cX1_operand, 2, (some .int), ("operand", []), x0, o.1, zv_fin x0 o.1 (some (.int o.2)))
def mX1_operand_0 (N : Nat) (l0 : Nat) (l1 : Int32) (x : zv_X) : Option (zv_X × Int32) := (zm_R x l0 1 3).bind fun v1 => (zm_I x l0 1 4).bind fun v3 => if zm_k x v1 6 = true then ((mX6_at N v1 (v3 + l1) x).bind fun o5 => some (o5.1, o5.2)) else none
theorem kX1_operand_0 {d : Nat} {x0 : zv_X} {o : (zv_X × Int32)} (hd : 1 ≤ d) {N : Nat} (l0 : Nat) (l1 : Int32) (x : zv_X) (h : mX1_operand_0 N l0 l1 x = some o) : zv_V (fX1_operand d x0 o) 0 [(0, .ref l0), (1, .int l1)] [] x := by
  unfold mX1_operand_0 at h
  refine zv_aload_n (n := 0) dX1_operand_0 rfl rfl ?_
  refine zr_gR dX1_operand_1 fg_351 h (fun v1 e2 h => ?_)
  refine zv_aload_n (n := 0) dX1_operand_4 rfl rfl ?_
  refine zr_gI dX1_operand_5 fg_352 h (fun v3 e4 h => ?_)
  refine zv_iload_n (n := 1) dX1_operand_8 rfl rfl ?_
  refine zv_iadd dX1_operand_9 ?_
  refine zr_cVi (ci := 6) (st := []) dX1_operand_10 mw_X6_at wd_1112 wd_659 wd_660 rfl rfl [.int (v3 + l1)] rfl rfl (Nat.le_of_ble_eq_true rfl) (show d - 1 + 1 ≤ d by omega) h (fun o5 e6 => tX6_at (d := d - 1) (by omega) e6) (fun o5 e6 h => ?_)
  cases h
  exact zv_iret dX1_operand_13 rfl
def mX1_operand (N : Nat) (a0 : Nat) (a1 : Int32) (x : zv_X) : Option (zv_X × Int32) := mX1_operand_0 N a0 a1 x
theorem tX1_operand {d : Nat} (hd : 1 ≤ d) {N : Nat} {x : zv_X} {a0 : Nat} {a1 : Int32} {o : (zv_X × Int32)} (h : mX1_operand N a0 a1 x = some o) : zv_T d yX1_operand cX1_operand 2 ((some .int)) [.ref a0, .int a1] x o.1 (some (.int o.2)) := by
  unfold mX1_operand at h
  exact zv_enter (by decide) (Nat.le_of_ble_eq_true rfl) (kX1_operand_0 hd _ _ _ h)

abbrev fX1_drop (d : Nat) (x0 : zv_X) (o : zv_X) : zv_G := (d, RX1, cX1_drop, 2, none, ("drop", []), x0, o, zv_fin x0 o none)
def mX1_drop_0 (N : Nat) (l0 : Nat) (l1 : Int32) (x : zv_X) : Option zv_X := (zm_I x l0 1 2).bind fun v1 => (zm_p x l0 1 2 (.int (v1 - l1))).bind fun x3 => some x3
theorem kX1_drop_0 {d : Nat} {x0 : zv_X} {o : zv_X} (hd : 0 ≤ d) {N : Nat} (l0 : Nat) (l1 : Int32) (x : zv_X) (h : mX1_drop_0 N l0 l1 x = some o) : zv_V (fX1_drop d x0 o) 0 [(0, .ref l0), (1, .int l1)] [] x := by
  unfold mX1_drop_0 at h
  refine zv_aload_n (n := 0) dX1_drop_0 rfl rfl ?_
  refine zv_dup dX1_drop_1 rfl ?_
  refine zr_gI dX1_drop_2 fg_350 h (fun v1 e2 h => ?_)
  refine zv_iload_n (n := 1) dX1_drop_5 rfl rfl ?_
  refine zv_isub dX1_drop_6 ?_
  refine zr_p dX1_drop_7 fl_350 (fun q => nomatch q) rfl rfl h (fun x3 e4 h => ?_)
  cases h
  exact zv_vret dX1_drop_10 rfl
def mX1_drop (N : Nat) (a0 : Nat) (a1 : Int32) (x : zv_X) : Option zv_X := mX1_drop_0 N a0 a1 x
theorem tX1_drop {d : Nat} (hd : 0 ≤ d) {N : Nat} {x : zv_X} {a0 : Nat} {a1 : Int32} {o : zv_X} (h : mX1_drop N a0 a1 x = some o) : zv_T d yX1_drop cX1_drop 2 (none) [.ref a0, .int a1] x o none := by
  unfold mX1_drop at h
  exact zv_enter (by decide) (Nat.le_of_ble_eq_true rfl) (kX1_drop_0 hd _ _ _ h)

abbrev fX1_number (d : Nat) (x0 : zv_X) (o : (zv_X × Int64)) : zv_G := (d, RX1, cX1_number, 2, (some .long), ("number", []), x0, o.1, zv_fin x0 o.1 (some (.long o.2)))
def mX1_number_0 (N : Nat) (l0 : Nat) (l1 : Int32) (x : zv_X) : Option (zv_X × Int64) := (zm_R x l0 1 0).bind fun v1 => (zm_I x l0 1 2).bind fun v3 => (zm_aL x v1 ((v3 - (1 : Int32)) - l1)).bind fun v5 => some (x, v5)
theorem kX1_number_0 {d : Nat} {x0 : zv_X} {o : (zv_X × Int64)} (hd : 0 ≤ d) {N : Nat} (l0 : Nat) (l1 : Int32) (x : zv_X) (h : mX1_number_0 N l0 l1 x = some o) : zv_V (fX1_number d x0 o) 0 [(0, .ref l0), (1, .int l1)] [] x := by
  unfold mX1_number_0 at h
  refine zv_aload_n (n := 0) dX1_number_0 rfl rfl ?_
  refine zr_gR dX1_number_1 fg_348 h (fun v1 e2 h => ?_)
  refine zv_aload_n (n := 0) dX1_number_4 rfl rfl ?_
  refine zr_gI dX1_number_5 fg_350 h (fun v3 e4 h => ?_)
  refine zv_iconst (v := 1) dX1_number_8 (by decide) ?_
  refine zv_isub dX1_number_9 ?_
  refine zv_iload_n (n := 1) dX1_number_10 rfl rfl ?_
  refine zv_isub dX1_number_11 ?_
  refine zr_aL dX1_number_12 h (fun v5 e6 h => ?_)
  cases h
  exact zv_lret dX1_number_13 rfl
def mX1_number (N : Nat) (a0 : Nat) (a1 : Int32) (x : zv_X) : Option (zv_X × Int64) := mX1_number_0 N a0 a1 x
theorem tX1_number {d : Nat} (hd : 0 ≤ d) {N : Nat} {x : zv_X} {a0 : Nat} {a1 : Int32} {o : (zv_X × Int64)} (h : mX1_number N a0 a1 x = some o) : zv_T d yX1_number cX1_number 2 ((some .long)) [.ref a0, .int a1] x o.1 (some (.long o.2)) := by
  unfold mX1_number at h
  exact zv_enter (by decide) (Nat.le_of_ble_eq_true rfl) (kX1_number_0 hd _ _ _ h)

abbrev fX1_pair (d : Nat) (x0 : zv_X) (o : (zv_X × Int32)) : zv_G := (d, RX1, cX1_pair, 1, (some .int), ("pair", []), x0, o.1, zv_fin x0 o.1 (some (.int o.2)))
def mX1_pair_0 (N : Nat) (l0 : Nat) (x : zv_X) : Option (zv_X × Int32) := (zm_R x l0 1 3).bind fun v1 => (zm_I x l0 1 4).bind fun v3 => if zm_k x v1 6 = true then ((mX6_pairAt N v1 (v3 + (1 : Int32)) x).bind fun o5 => some (o5.1, o5.2)) else none
theorem kX1_pair_0 {d : Nat} {x0 : zv_X} {o : (zv_X × Int32)} (hd : 1 ≤ d) {N : Nat} (l0 : Nat) (x : zv_X) (h : mX1_pair_0 N l0 x = some o) : zv_V (fX1_pair d x0 o) 0 [(0, .ref l0)] [] x := by
  unfold mX1_pair_0 at h
  refine zv_aload_n (n := 0) dX1_pair_0 rfl rfl ?_
  refine zr_gR dX1_pair_1 fg_351 h (fun v1 e2 h => ?_)
  refine zv_aload_n (n := 0) dX1_pair_4 rfl rfl ?_
  refine zr_gI dX1_pair_5 fg_352 h (fun v3 e4 h => ?_)
  refine zv_iconst (v := 1) dX1_pair_8 (by decide) ?_
  refine zv_iadd dX1_pair_9 ?_
  refine zr_cVi (ci := 6) (st := []) dX1_pair_10 mw_X6_pairAt wd_1138 wd_769 wd_770 rfl rfl [.int (v3 + (1 : Int32))] rfl rfl (Nat.le_of_ble_eq_true rfl) (show d - 1 + 1 ≤ d by omega) h (fun o5 e6 => tX6_pairAt (d := d - 1) (by omega) e6) (fun o5 e6 h => ?_)
  cases h
  exact zv_iret dX1_pair_13 rfl
def mX1_pair (N : Nat) (a0 : Nat) (x : zv_X) : Option (zv_X × Int32) := mX1_pair_0 N a0 x
theorem tX1_pair {d : Nat} (hd : 1 ≤ d) {N : Nat} {x : zv_X} {a0 : Nat} {o : (zv_X × Int32)} (h : mX1_pair N a0 x = some o) : zv_T d yX1_pair cX1_pair 1 ((some .int)) [.ref a0] x o.1 (some (.int o.2)) := by
  unfold mX1_pair at h
  exact zv_enter (by decide) (Nat.le_of_ble_eq_true rfl) (kX1_pair_0 hd _ _ h)

abbrev fX1_reference (d : Nat) (x0 : zv_X) (o : (zv_X × Int32)) : zv_G := (d, RX1, cX1_reference, 2, (some .int), ("reference", []), x0, o.1, zv_fin x0 o.1 (some (.int o.2)))
def mX1_reference_0 (N : Nat) (l0 : Nat) (l1 : Int32) (x : zv_X) : Option (zv_X × Int32) := (zm_R x l0 1 1).bind fun v1 => (zm_I x l0 1 2).bind fun v3 => (zm_aI x v1 ((v3 - (1 : Int32)) - l1)).bind fun v5 => some (x, v5)
theorem kX1_reference_0 {d : Nat} {x0 : zv_X} {o : (zv_X × Int32)} (hd : 0 ≤ d) {N : Nat} (l0 : Nat) (l1 : Int32) (x : zv_X) (h : mX1_reference_0 N l0 l1 x = some o) : zv_V (fX1_reference d x0 o) 0 [(0, .ref l0), (1, .int l1)] [] x := by
  unfold mX1_reference_0 at h
  refine zv_aload_n (n := 0) dX1_reference_0 rfl rfl ?_
  refine zr_gR dX1_reference_1 fg_349 h (fun v1 e2 h => ?_)
  refine zv_aload_n (n := 0) dX1_reference_4 rfl rfl ?_
  refine zr_gI dX1_reference_5 fg_350 h (fun v3 e4 h => ?_)
  refine zv_iconst (v := 1) dX1_reference_8 (by decide) ?_
  refine zv_isub dX1_reference_9 ?_
  refine zv_iload_n (n := 1) dX1_reference_10 rfl rfl ?_
  refine zv_isub dX1_reference_11 ?_
  refine zr_aI dX1_reference_12 h (fun v5 e6 h => ?_)
  cases h
  exact zv_iret dX1_reference_13 rfl
def mX1_reference (N : Nat) (a0 : Nat) (a1 : Int32) (x : zv_X) : Option (zv_X × Int32) := mX1_reference_0 N a0 a1 x
theorem tX1_reference {d : Nat} (hd : 0 ≤ d) {N : Nat} {x : zv_X} {a0 : Nat} {a1 : Int32} {o : (zv_X × Int32)} (h : mX1_reference N a0 a1 x = some o) : zv_T d yX1_reference cX1_reference 2 ((some .int)) [.ref a0, .int a1] x o.1 (some (.int o.2)) := by
  unfold mX1_reference at h
  exact zv_enter (by decide) (Nat.le_of_ble_eq_true rfl) (kX1_reference_0 hd _ _ _ h)
