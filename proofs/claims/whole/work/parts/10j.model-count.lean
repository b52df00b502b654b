abbrev fX9_goes (d : Nat) (x0 : zv_X) (o : (zv_X × Int32)) : zv_G := (d, RX9, cX9_goes, 6, (some .boolean), ("goes", []), x0, o.1, zv_fin x0 o.1 (some (.int o.2)))
def mX9_goes_130 (N : Nat) (s0 : Int32) (x : zv_X) : Option (zv_X × Int32) := if s0 = 0 ∨ s0 = 1 then some (x, s0) else none
theorem kX9_goes_130 {d : Nat} {x0 : zv_X} {o : (zv_X × Int32)} (hd : 1 ≤ d) {N : Nat} (s0 : Int32) (x : zv_X) (h : mX9_goes_130 N s0 x = some o) : zv_V (fX9_goes d x0 o) 130 [] [.int s0] x := by
  unfold mX9_goes_130 at h
  obtain ⟨hv, h⟩ := zg h
  cases h
  exact zv_zret dX9_goes_130 rfl hv
def mX9_goes_108 (N : Nat) (s0 : Int32) (s1 : Int32) (x : zv_X) : Option (zv_X × Int32) := if s1 = s0 then (mX9_goes_130 N (1 : Int32) x) else (mX9_goes_130 N (0 : Int32) x)
theorem kX9_goes_108 {d : Nat} {x0 : zv_X} {o : (zv_X × Int32)} (hd : 1 ≤ d) {N : Nat} (s0 : Int32) (s1 : Int32) (x : zv_X) (h : mX9_goes_108 N s0 s1 x = some o) : zv_V (fX9_goes d x0 o) 108 [] [.int s0, .int s1] x := by
  unfold mX9_goes_108 at h
  refine zr_icmp_ne (tgt := 115) dX9_goes_108 (by decide) h (fun c1 h => ?_) (fun c1 h => ?_)
  · refine zv_iconst (v := 0) dX9_goes_115 (by decide) ?_
    refine zv_goto (tgt := 130) dX9_goes_116 (by decide) ?_
    exact kX9_goes_130 hd _ _ h
  · refine zv_iconst (v := 1) dX9_goes_111 (by decide) ?_
    refine zv_goto (tgt := 130) dX9_goes_112 (by decide) ?_
    exact kX9_goes_130 hd _ _ h
def mX9_goes_96 (N : Nat) (l1 : Int32) (s0 : Int32) (x : zv_X) : Option (zv_X × Int32) := if l1 = (165 : Int32) then (mX9_goes_108 N (1 : Int32) s0 x) else (mX9_goes_108 N (0 : Int32) s0 x)
theorem kX9_goes_96 {d : Nat} {x0 : zv_X} {o : (zv_X × Int32)} (hd : 1 ≤ d) {N : Nat} (l1 : Int32) (s0 : Int32) (x : zv_X) (h : mX9_goes_96 N l1 s0 x = some o) : zv_V (fX9_goes d x0 o) 96 [(1, .int l1)] [.int s0] x := by
  unfold mX9_goes_96 at h
  refine zv_iload_n (n := 0) dX9_goes_96 rfl rfl ?_
  refine zv_sipush (v := 165) dX9_goes_97 (by decide) ?_
  refine zr_icmp_ne (tgt := 107) dX9_goes_100 (by decide) h (fun c1 h => ?_) (fun c1 h => ?_)
  · refine zv_iconst (v := 0) dX9_goes_107 (by decide) ?_
    exact zv_fewer [] rfl (kX9_goes_108 hd _ _ _ h)
  · refine zv_iconst (v := 1) dX9_goes_103 (by decide) ?_
    refine zv_goto (tgt := 108) dX9_goes_104 (by decide) ?_
    exact zv_fewer [] rfl (kX9_goes_108 hd _ _ _ h)
def mX9_goes_70 (N : Nat) (s0 : Int32) (x : zv_X) : Option (zv_X × Int32) := if s0 = 0 ∨ s0 = 1 then some (x, s0) else none
theorem kX9_goes_70 {d : Nat} {x0 : zv_X} {o : (zv_X × Int32)} (hd : 1 ≤ d) {N : Nat} (s0 : Int32) (x : zv_X) (h : mX9_goes_70 N s0 x = some o) : zv_V (fX9_goes d x0 o) 70 [] [.int s0] x := by
  unfold mX9_goes_70 at h
  obtain ⟨hv, h⟩ := zg h
  cases h
  exact zv_zret dX9_goes_70 rfl hv
def mX9_goes_62 (N : Nat) (s0 : Int32) (s1 : Int32) (x : zv_X) : Option (zv_X × Int32) := if s1 = s0 then (mX9_goes_70 N (1 : Int32) x) else (mX9_goes_70 N (0 : Int32) x)
theorem kX9_goes_62 {d : Nat} {x0 : zv_X} {o : (zv_X × Int32)} (hd : 1 ≤ d) {N : Nat} (s0 : Int32) (s1 : Int32) (x : zv_X) (h : mX9_goes_62 N s0 s1 x = some o) : zv_V (fX9_goes d x0 o) 62 [] [.int s0, .int s1] x := by
  unfold mX9_goes_62 at h
  refine zr_icmp_ne (tgt := 69) dX9_goes_62 (by decide) h (fun c1 h => ?_) (fun c1 h => ?_)
  · refine zv_iconst (v := 0) dX9_goes_69 (by decide) ?_
    exact kX9_goes_70 hd _ _ h
  · refine zv_iconst (v := 1) dX9_goes_65 (by decide) ?_
    refine zv_goto (tgt := 70) dX9_goes_66 (by decide) ?_
    exact kX9_goes_70 hd _ _ h
def mX9_goes_50 (N : Nat) (l1 : Int32) (s0 : Int32) (x : zv_X) : Option (zv_X × Int32) := if l1 = (198 : Int32) then (mX9_goes_62 N (1 : Int32) s0 x) else (mX9_goes_62 N (0 : Int32) s0 x)
theorem kX9_goes_50 {d : Nat} {x0 : zv_X} {o : (zv_X × Int32)} (hd : 1 ≤ d) {N : Nat} (l1 : Int32) (s0 : Int32) (x : zv_X) (h : mX9_goes_50 N l1 s0 x = some o) : zv_V (fX9_goes d x0 o) 50 [(1, .int l1)] [.int s0] x := by
  unfold mX9_goes_50 at h
  refine zv_iload_n (n := 0) dX9_goes_50 rfl rfl ?_
  refine zv_sipush (v := 198) dX9_goes_51 (by decide) ?_
  refine zr_icmp_ne (tgt := 61) dX9_goes_54 (by decide) h (fun c1 h => ?_) (fun c1 h => ?_)
  · refine zv_iconst (v := 0) dX9_goes_61 (by decide) ?_
    exact zv_fewer [] rfl (kX9_goes_62 hd _ _ _ h)
  · refine zv_iconst (v := 1) dX9_goes_57 (by decide) ?_
    refine zv_goto (tgt := 62) dX9_goes_58 (by decide) ?_
    exact zv_fewer [] rfl (kX9_goes_62 hd _ _ _ h)
def mX9_goes_0 (N : Nat) (l0 : Nat) (l1 : Int32) (x : zv_X) : Option (zv_X × Int32) := if l1 = (167 : Int32) then (some (x, (1 : Int32))) else (if zm_k x l0 9 = true then ((mX9_popValue N l0 x).bind fun o1 => if (159 : Int32) ≤ l1 then (if l1 ≤ (197 : Int32) then (if zm_k o1.1 l0 9 = true then ((mX9_popValue N l0 o1.1).bind fun o3 => if l1 ≤ (164 : Int32) then ((mX9_holds N (l1 - (159 : Int32)) o3.2 o1.2 o3.1).bind fun o5 => mX9_goes_130 N o5.2 o5.1) else (if (lg_cmp o3.2 o1.2) = 0 then (mX9_goes_96 N l1 (1 : Int32) o3.1) else (mX9_goes_96 N l1 (0 : Int32) o3.1))) else none) else (if (lg_cmp o1.2 (0 : Int64)) = 0 then (mX9_goes_50 N l1 (1 : Int32) o1.1) else (mX9_goes_50 N l1 (0 : Int32) o1.1))) else ((mX9_holds N (l1 - (153 : Int32)) o1.2 (0 : Int64) o1.1).bind fun o11 => if o11.2 = 0 ∨ o11.2 = 1 then some (o11.1, o11.2) else none)) else none)
theorem kX9_goes_0 {d : Nat} {x0 : zv_X} {o : (zv_X × Int32)} (hd : 1 ≤ d) {N : Nat} (l0 : Nat) (l1 : Int32) (x : zv_X) (h : mX9_goes_0 N l0 l1 x = some o) : zv_V (fX9_goes d x0 o) 0 [(0, .ref l0), (1, .int l1)] [] x := by
  unfold mX9_goes_0 at h
  refine zv_iload_n (n := 1) dX9_goes_0 rfl rfl ?_
  refine zv_sipush (v := 167) dX9_goes_1 (by decide) ?_
  refine zr_icmp_ne (tgt := 9) dX9_goes_4 (by decide) h (fun c14 h => ?_) (fun c14 h => ?_)
  · refine zv_aload_n (n := 0) dX9_goes_9 rfl rfl ?_
    refine zr_cVl (ci := 9) (st := []) dX9_goes_10 mw_X9_popValue wd_1727 wd_1729 wd_79 rfl rfl [] rfl rfl (Nat.le_of_ble_eq_true rfl) (show d - 1 + 1 ≤ d by omega) h (fun o1 e2 => tX9_popValue (d := d - 1) (by omega) e2) (fun o1 e2 h => ?_)
    refine zv_lstore_n (L' := [(2, .long o1.2), (0, .ref l0), (1, .int l1)]) dX9_goes_13 rfl (Nat.le_of_ble_eq_true rfl) rfl ?_
    refine zv_iload_n (n := 2) dX9_goes_14 rfl rfl ?_
    refine zv_sipush (v := 159) dX9_goes_15 (by decide) ?_
    refine zr_icmp_ge (tgt := 32) dX9_goes_18 (by decide) h (fun c13 h => ?_) (fun c13 h => ?_)
    · refine zv_iload_n (n := 2) dX9_goes_32 rfl rfl ?_
      refine zv_sipush (v := 197) dX9_goes_33 (by decide) ?_
      refine zr_icmp_le (tgt := 71) dX9_goes_36 (by decide) h (fun c10 h => ?_) (fun c10 h => ?_)
      · refine zv_aload_n (n := 1) dX9_goes_71 rfl rfl ?_
        refine zr_cVl (ci := 9) (st := []) dX9_goes_72 mw_X9_popValue wd_1727 wd_1729 wd_79 rfl rfl [] rfl rfl (Nat.le_of_ble_eq_true rfl) (show d - 1 + 1 ≤ d by omega) h (fun o3 e4 => tX9_popValue (d := d - 1) (by omega) e4) (fun o3 e4 h => ?_)
        refine zv_lstore (L' := [(4, .long o3.2), (2, .long o1.2), (0, .ref l0), (1, .int l1)]) dX9_goes_75 (Nat.le_of_ble_eq_true rfl) rfl ?_
        refine zv_iload_n (n := 3) dX9_goes_77 rfl rfl ?_
        refine zv_sipush (v := 164) dX9_goes_78 (by decide) ?_
        refine zr_icmp_le (tgt := 119) dX9_goes_81 (by decide) h (fun c8 h => ?_) (fun c8 h => ?_)
        · refine zv_iload_n (n := 3) dX9_goes_119 rfl rfl ?_
          refine zv_sipush (v := 159) dX9_goes_120 (by decide) ?_
          refine zv_isub dX9_goes_123 ?_
          refine zv_lload (n := 0) dX9_goes_124 rfl ?_
          refine zv_lload_n (n := 1) dX9_goes_126 rfl rfl ?_
          refine zr_cSi (st := []) dX9_goes_127 mw_X9_holds wd_1754 wd_1755 [.int (l1 - (159 : Int32)), .long o3.2, .long o1.2] rfl rfl (Nat.le_of_ble_eq_true rfl) (show d - 1 + 1 ≤ d by omega) h (fun o5 e6 => tX9_holds (d := d - 1) (by omega) e6) (fun o5 e6 h => ?_)
          exact zv_fewer [] rfl (kX9_goes_130 hd _ _ h)
        · refine zv_lload (n := 0) dX9_goes_84 rfl ?_
          refine zv_lload_n (n := 1) dX9_goes_86 rfl rfl ?_
          refine zv_lcmp dX9_goes_87 ?_
          refine zr_if_ne (tgt := 95) dX9_goes_88 (by decide) h (fun c7 h => ?_) (fun c7 h => ?_)
          · refine zv_iconst (v := 0) dX9_goes_95 (by decide) ?_
            exact zv_fewer [3] rfl (kX9_goes_96 hd _ _ _ h)
          · refine zv_iconst (v := 1) dX9_goes_91 (by decide) ?_
            refine zv_goto (tgt := 96) dX9_goes_92 (by decide) ?_
            exact zv_fewer [3] rfl (kX9_goes_96 hd _ _ _ h)
      · refine zv_lload_n (n := 0) dX9_goes_39 rfl rfl ?_
        refine zv_lconst (v := 0) dX9_goes_40 (by decide) ?_
        refine zv_lcmp dX9_goes_41 ?_
        refine zr_if_ne (tgt := 49) dX9_goes_42 (by decide) h (fun c9 h => ?_) (fun c9 h => ?_)
        · refine zv_iconst (v := 0) dX9_goes_49 (by decide) ?_
          exact zv_fewer [2] rfl (kX9_goes_50 hd _ _ _ h)
        · refine zv_iconst (v := 1) dX9_goes_45 (by decide) ?_
          refine zv_goto (tgt := 50) dX9_goes_46 (by decide) ?_
          exact zv_fewer [2] rfl (kX9_goes_50 hd _ _ _ h)
    · refine zv_iload_n (n := 2) dX9_goes_21 rfl rfl ?_
      refine zv_sipush (v := 153) dX9_goes_22 (by decide) ?_
      refine zv_isub dX9_goes_25 ?_
      refine zv_lload_n (n := 0) dX9_goes_26 rfl rfl ?_
      refine zv_lconst (v := 0) dX9_goes_27 (by decide) ?_
      refine zr_cSi (st := []) dX9_goes_28 mw_X9_holds wd_1754 wd_1755 [.int (l1 - (153 : Int32)), .long o1.2, .long (0 : Int64)] rfl rfl (Nat.le_of_ble_eq_true rfl) (show d - 1 + 1 ≤ d by omega) h (fun o11 e12 => tX9_holds (d := d - 1) (by omega) e12) (fun o11 e12 h => ?_)
      obtain ⟨hv, h⟩ := zg h
      cases h
      exact zv_zret dX9_goes_31 rfl hv
  · refine zv_iconst (v := 1) dX9_goes_7 (by decide) ?_
    cases h
    exact zv_zret dX9_goes_8 rfl (Or.inr rfl)
def mX9_goes (N : Nat) (a0 : Nat) (a1 : Int32) (x : zv_X) : Option (zv_X × Int32) := mX9_goes_0 N a0 a1 x
theorem tX9_goes {d : Nat} (hd : 1 ≤ d) {N : Nat} {x : zv_X} {a0 : Nat} {a1 : Int32} {o : (zv_X × Int32)} (h : mX9_goes N a0 a1 x = some o) : zv_T d yX9_goes cX9_goes 6 ((some .boolean)) [.ref a0, .int a1] x o.1 (some (.int o.2)) := by
  unfold mX9_goes at h
  exact zv_enter (by decide) (Nat.le_of_ble_eq_true rfl) (kX9_goes_0 hd _ _ _ h)

abbrev fX9_step (d : Nat) (x0 : zv_X) (o : zv_X) : zv_G := (d, RX9, cX9_step, 8, none, ("step", []), x0, o, zv_fin x0 o none)
def mX9_step_272 (N : Nat) (s0 : Int32) (s1 : Int32) (s2 : Nat) (x : zv_X) : Option zv_X := (zm_sI x s2 s1 s0).bind fun x1 => some x1
theorem kX9_step_272 {d : Nat} {x0 : zv_X} {o : zv_X} (hd : 7 ≤ d) {N : Nat} (s0 : Int32) (s1 : Int32) (s2 : Nat) (x : zv_X) (h : mX9_step_272 N s0 s1 s2 x = some o) : zv_V (fX9_step d x0 o) 272 [] [.int s0, .int s1, .ref s2] x := by
  unfold mX9_step_272 at h
  refine zr_sI dX9_step_272 h (fun x1 e2 h => ?_)
  cases h
  exact zv_vret dX9_step_273 rfl
def mX9_step_245 (N : Nat) (l0 : Nat) (l1 : Int32) (l2 : Int32) (l3 : Int32) (l4 : Int32) (l5 : Int32) (x : zv_X) : Option zv_X := (zm_R x l0 9 41).bind fun v1 => if zm_k x l0 9 = true then ((mX9_goes N l0 l4 x).bind fun o3 => if o3.2 = 0 then (mX9_step_272 N (l3 + l5) l1 v1 o3.1) else (if zm_k o3.1 l0 9 = true then ((mX9_to N l0 l2 l3 o3.1).bind fun o5 => mX9_step_272 N o5.2 l1 v1 o5.1) else none)) else none
theorem kX9_step_245 {d : Nat} {x0 : zv_X} {o : zv_X} (hd : 7 ≤ d) {N : Nat} (l0 : Nat) (l1 : Int32) (l2 : Int32) (l3 : Int32) (l4 : Int32) (l5 : Int32) (x : zv_X) (h : mX9_step_245 N l0 l1 l2 l3 l4 l5 x = some o) : zv_V (fX9_step d x0 o) 245 [(0, .ref l0), (1, .int l1), (2, .int l2), (3, .int l3), (4, .int l4), (5, .int l5)] [] x := by
  unfold mX9_step_245 at h
  refine zv_aload_n (n := 0) dX9_step_245 rfl rfl ?_
  refine zr_gR dX9_step_246 fg_1444 h (fun v1 e2 h => ?_)
  refine zv_iload_n (n := 1) dX9_step_249 rfl rfl ?_
  refine zv_aload_n (n := 0) dX9_step_250 rfl rfl ?_
  refine zv_iload (n := 4) dX9_step_251 rfl ?_
  refine zr_cVi (ci := 9) (st := [.int l1, .ref v1]) dX9_step_253 mw_X9_goes wd_1750 wd_1752 wd_83 rfl rfl [.int l4] rfl rfl (Nat.le_of_ble_eq_true rfl) (show d - 1 + 1 ≤ d by omega) h (fun o3 e4 => tX9_goes (d := d - 1) (by omega) e4) (fun o3 e4 h => ?_)
  refine zr_if_eq (tgt := 268) dX9_step_256 (by decide) h (fun c7 h => ?_) (fun c7 h => ?_)
  · refine zv_iload_n (n := 3) dX9_step_268 rfl rfl ?_
    refine zv_iload (n := 5) dX9_step_269 rfl ?_
    refine zv_iadd dX9_step_271 ?_
    exact zv_fewer [] rfl (kX9_step_272 hd _ _ _ _ h)
  · refine zv_aload_n (n := 0) dX9_step_259 rfl rfl ?_
    refine zv_iload_n (n := 2) dX9_step_260 rfl rfl ?_
    refine zv_iload_n (n := 3) dX9_step_261 rfl rfl ?_
    refine zr_cVi (ci := 9) (st := [.int l1, .ref v1]) dX9_step_262 mw_X9_to wd_1643 wd_1645 wd_62 rfl rfl [.int l2, .int l3] rfl rfl (Nat.le_of_ble_eq_true rfl) (show d - 1 + 1 ≤ d by omega) h (fun o5 e6 => tX9_to (d := d - 1) (by omega) e6) (fun o5 e6 h => ?_)
    refine zv_goto (tgt := 272) dX9_step_265 (by decide) ?_
    exact zv_fewer [] rfl (kX9_step_272 hd _ _ _ _ h)
def mX9_step_351 (N : Nat) (l0 : Nat) (x : zv_X) : Option zv_X := (zm_p x l0 9 54 (.int (0 : Int32))).bind fun x1 => some x1
theorem kX9_step_351 {d : Nat} {x0 : zv_X} {o : zv_X} (hd : 7 ≤ d) {N : Nat} (l0 : Nat) (x : zv_X) (h : mX9_step_351 N l0 x = some o) : zv_V (fX9_step d x0 o) 351 [(0, .ref l0)] [] x := by
  unfold mX9_step_351 at h
  refine zv_aload_n (n := 0) dX9_step_351 rfl rfl ?_
  refine zv_iconst (v := 0) dX9_step_352 (by decide) ?_
  refine zr_p dX9_step_353 fl_1457 (fun q => nomatch q) rfl rfl h (fun x1 e2 h => ?_)
  cases h
  exact zv_vret dX9_step_356 rfl
def mX9_step_327 (N : Nat) (l0 : Nat) (l1 : Int32) (l3 : Int32) (l5 : Int32) (x : zv_X) : Option zv_X := (zm_I x l0 9 49).bind fun v1 => if v1 = 0 then ((zm_I x l0 9 54).bind fun v3 => if v3 = 0 then ((zm_R x l0 9 41).bind fun v5 => (zm_sI x v5 l1 (l3 + l5)).bind fun x7 => mX9_step_351 N l0 x7) else (mX9_step_351 N l0 x)) else (mX9_step_351 N l0 x)
theorem kX9_step_327 {d : Nat} {x0 : zv_X} {o : zv_X} (hd : 7 ≤ d) {N : Nat} (l0 : Nat) (l1 : Int32) (l3 : Int32) (l5 : Int32) (x : zv_X) (h : mX9_step_327 N l0 l1 l3 l5 x = some o) : zv_V (fX9_step d x0 o) 327 [(0, .ref l0), (1, .int l1), (3, .int l3), (5, .int l5)] [] x := by
  unfold mX9_step_327 at h
  refine zv_aload_n (n := 0) dX9_step_327 rfl rfl ?_
  refine zr_gI dX9_step_328 fg_1452 h (fun v1 e2 h => ?_)
  refine zr_if_ne (tgt := 351) dX9_step_331 (by decide) h (fun c10 h => ?_) (fun c10 h => ?_)
  · exact zv_fewer [0] rfl (kX9_step_351 hd _ _ h)
  · refine zv_aload_n (n := 0) dX9_step_334 rfl rfl ?_
    refine zr_gI dX9_step_335 fg_1457 h (fun v3 e4 h => ?_)
    refine zr_if_ne (tgt := 351) dX9_step_338 (by decide) h (fun c9 h => ?_) (fun c9 h => ?_)
    · exact zv_fewer [0] rfl (kX9_step_351 hd _ _ h)
    · refine zv_aload_n (n := 0) dX9_step_341 rfl rfl ?_
      refine zr_gR dX9_step_342 fg_1444 h (fun v5 e6 h => ?_)
      refine zv_iload_n (n := 1) dX9_step_345 rfl rfl ?_
      refine zv_iload_n (n := 2) dX9_step_346 rfl rfl ?_
      refine zv_iload (n := 3) dX9_step_347 rfl ?_
      refine zv_iadd dX9_step_349 ?_
      refine zr_sI dX9_step_350 h (fun x7 e8 h => ?_)
      exact zv_fewer [0] rfl (kX9_step_351 hd _ _ h)
def mX9_step_154 (N : Nat) (l0 : Nat) (l1 : Int32) (l3 : Int32) (l5 : Int32) (l6 : Int32) (s0 : Int32) (s1 : Int32) (s2 : Nat) (x : zv_X) : Option zv_X := (zm_sI x s2 s1 s0).bind fun x1 => (zm_R x1 l0 9 43).bind fun v3 => if zm_k x1 l0 9 = true then ((mX9_popValue N l0 x1).bind fun o5 => (zm_sL o5.1 v3 (((16 : Int32) * l1) + l6) o5.2).bind fun x7 => mX9_step_327 N l0 l1 l3 l5 x7) else none
theorem kX9_step_154 {d : Nat} {x0 : zv_X} {o : zv_X} (hd : 7 ≤ d) {N : Nat} (l0 : Nat) (l1 : Int32) (l3 : Int32) (l5 : Int32) (l6 : Int32) (s0 : Int32) (s1 : Int32) (s2 : Nat) (x : zv_X) (h : mX9_step_154 N l0 l1 l3 l5 l6 s0 s1 s2 x = some o) : zv_V (fX9_step d x0 o) 154 [(0, .ref l0), (1, .int l1), (3, .int l3), (5, .int l5), (6, .int l6)] [.int s0, .int s1, .ref s2] x := by
  unfold mX9_step_154 at h
  refine zr_sI dX9_step_154 h (fun x1 e2 h => ?_)
  refine zv_aload_n (n := 0) dX9_step_155 rfl rfl ?_
  refine zr_gR dX9_step_156 fg_1446 h (fun v3 e4 h => ?_)
  refine zv_bipush (v := 16) dX9_step_159 (by decide) ?_
  refine zv_iload_n (n := 1) dX9_step_161 rfl rfl ?_
  refine zv_imul dX9_step_162 ?_
  refine zv_iload (n := 4) dX9_step_163 rfl ?_
  refine zv_iadd dX9_step_165 ?_
  refine zv_aload_n (n := 0) dX9_step_166 rfl rfl ?_
  refine zr_cVl (ci := 9) (st := [.int (((16 : Int32) * l1) + l6), .ref v3]) dX9_step_167 mw_X9_popValue wd_1727 wd_1729 wd_79 rfl rfl [] rfl rfl (Nat.le_of_ble_eq_true rfl) (show d - 1 + 1 ≤ d by omega) h (fun o5 e6 => tX9_popValue (d := d - 1) (by omega) e6) (fun o5 e6 h => ?_)
  refine zr_sL dX9_step_170 h (fun x7 e8 h => ?_)
  refine zv_goto (tgt := 327) dX9_step_171 (by decide) ?_
  exact zv_fewer [0, 1, 2, 3] rfl (kX9_step_327 hd _ _ _ _ _ h)
def mX9_step_74 (N : Nat) (l0 : Nat) (l1 : Int32) (l2 : Int32) (l3 : Int32) (l4 : Int32) (l5 : Int32) (l6 : Int32) (s0 : Int32) (x : zv_X) : Option zv_X := if (46 : Int32) ≤ l4 then (if (54 : Int32) ≤ l4 then (if (60 : Int32) ≤ l4 then (if (87 : Int32) ≤ l4 then (if (96 : Int32) ≤ l4 then (if (149 : Int32) ≤ l4 then (if l4 < (168 : Int32) then (mX9_step_245 N l0 l1 l2 l3 l4 l5 x) else (if l4 ≤ (197 : Int32) then (if (178 : Int32) ≤ l4 then (if l4 = (184 : Int32) then (if zm_k x l0 9 = true then ((mX9_doCall N l0 l6 x).bind fun o6 => some o6) else none) else (if l4 = (191 : Int32) then (if zm_k x l0 9 = true then ((mX9_doThrow N l0 x).bind fun o3 => some o3) else none) else (if zm_k x l0 9 = true then ((mX9_doThing N l0 l4 l6 s0 x).bind fun o1 => mX9_step_327 N l0 l1 l3 l5 o1) else none))) else (if zm_k x l0 9 = true then ((mX9_doEnd N l0 l4 x).bind fun o9 => some o9) else none)) else (mX9_step_245 N l0 l1 l2 l3 l4 l5 x))) else (if zm_k x l0 9 = true then ((mX9_doReckoning N l0 l1 l4 l6 s0 x).bind fun o14 => mX9_step_327 N l0 l1 l3 l5 o14) else none)) else (if zm_k x l0 9 = true then ((mX9_doStack N l0 l1 l4 x).bind fun o17 => mX9_step_327 N l0 l1 l3 l5 o17) else none)) else (if zm_k x l0 9 = true then ((mX9_doStore N l0 l4 x).bind fun o20 => mX9_step_327 N l0 l1 l3 l5 o20) else none)) else ((zm_R x l0 9 44).bind fun v23 => if l4 = (54 : Int32) then (mX9_step_154 N l0 l1 l3 l5 l6 (1 : Int32) (((16 : Int32) * l1) + l6) v23 x) else (if l4 = (55 : Int32) then (mX9_step_154 N l0 l1 l3 l5 l6 (2 : Int32) (((16 : Int32) * l1) + l6) v23 x) else (mX9_step_154 N l0 l1 l3 l5 l6 (3 : Int32) (((16 : Int32) * l1) + l6) v23 x)))) else (if zm_k x l0 9 = true then ((mX9_doFetch N l0 l4 x).bind fun o28 => mX9_step_327 N l0 l1 l3 l5 o28) else none)) else (if zm_k x l0 9 = true then ((mX9_doLoad N l0 l1 l4 l6 s0 x).bind fun o31 => mX9_step_327 N l0 l1 l3 l5 o31) else none)
theorem kX9_step_74 {d : Nat} {x0 : zv_X} {o : zv_X} (hd : 7 ≤ d) {N : Nat} (l0 : Nat) (l1 : Int32) (l2 : Int32) (l3 : Int32) (l4 : Int32) (l5 : Int32) (l6 : Int32) (s0 : Int32) (x : zv_X) (h : mX9_step_74 N l0 l1 l2 l3 l4 l5 l6 s0 x = some o) : zv_V (fX9_step d x0 o) 74 [(0, .ref l0), (1, .int l1), (2, .int l2), (3, .int l3), (4, .int l4), (5, .int l5), (6, .int l6)] [.int s0] x := by
  unfold mX9_step_74 at h
  refine zv_istore (L' := [(7, .int s0), (0, .ref l0), (1, .int l1), (2, .int l2), (3, .int l3), (4, .int l4), (5, .int l5), (6, .int l6)]) dX9_step_74 (Nat.le_of_ble_eq_true rfl) rfl ?_
  refine zv_iload (n := 5) dX9_step_76 rfl ?_
  refine zv_bipush (v := 46) dX9_step_78 (by decide) ?_
  refine zr_icmp_ge (tgt := 97) dX9_step_80 (by decide) h (fun c33 h => ?_) (fun c33 h => ?_)
  · refine zv_iload (n := 5) dX9_step_97 rfl ?_
    refine zv_bipush (v := 54) dX9_step_99 (by decide) ?_
    refine zr_icmp_ge (tgt := 113) dX9_step_101 (by decide) h (fun c30 h => ?_) (fun c30 h => ?_)
    · refine zv_iload (n := 5) dX9_step_113 rfl ?_
      refine zv_bipush (v := 60) dX9_step_115 (by decide) ?_
      refine zr_icmp_ge (tgt := 174) dX9_step_117 (by decide) h (fun c27 h => ?_) (fun c27 h => ?_)
      · refine zv_iload (n := 5) dX9_step_174 rfl ?_
        refine zv_bipush (v := 87) dX9_step_176 (by decide) ?_
        refine zr_icmp_ge (tgt := 190) dX9_step_178 (by decide) h (fun c22 h => ?_) (fun c22 h => ?_)
        · refine zv_iload (n := 5) dX9_step_190 rfl ?_
          refine zv_bipush (v := 96) dX9_step_192 (by decide) ?_
          refine zr_icmp_ge (tgt := 207) dX9_step_194 (by decide) h (fun c19 h => ?_) (fun c19 h => ?_)
          · refine zv_iload (n := 5) dX9_step_207 rfl ?_
            refine zv_sipush (v := 149) dX9_step_209 (by decide) ?_
            refine zr_icmp_ge (tgt := 229) dX9_step_212 (by decide) h (fun c16 h => ?_) (fun c16 h => ?_)
            · refine zv_iload (n := 5) dX9_step_229 rfl ?_
              refine zv_sipush (v := 168) dX9_step_231 (by decide) ?_
              refine zr_icmp_lt (tgt := 245) dX9_step_234 (by decide) h (fun c13 h => ?_) (fun c13 h => ?_)
              · exact zv_fewer [1, 2, 3, 4, 5, 6] rfl (kX9_step_245 hd _ _ _ _ _ _ _ h)
              · refine zv_iload (n := 5) dX9_step_237 rfl ?_
                refine zv_sipush (v := 197) dX9_step_239 (by decide) ?_
                refine zr_icmp_le (tgt := 274) dX9_step_242 (by decide) h (fun c12 h => ?_) (fun c12 h => ?_)
                · refine zv_iload (n := 5) dX9_step_274 rfl ?_
                  refine zv_sipush (v := 178) dX9_step_276 (by decide) ?_
                  refine zr_icmp_ge (tgt := 289) dX9_step_279 (by decide) h (fun c11 h => ?_) (fun c11 h => ?_)
                  · refine zv_iload (n := 5) dX9_step_289 rfl ?_
                    refine zv_sipush (v := 184) dX9_step_291 (by decide) ?_
                    refine zr_icmp_ne (tgt := 304) dX9_step_294 (by decide) h (fun c8 h => ?_) (fun c8 h => ?_)
                    · refine zv_iload (n := 5) dX9_step_304 rfl ?_
                      refine zv_sipush (v := 191) dX9_step_306 (by decide) ?_
                      refine zr_icmp_ne (tgt := 317) dX9_step_309 (by decide) h (fun c5 h => ?_) (fun c5 h => ?_)
                      · refine zv_aload_n (n := 1) dX9_step_317 rfl rfl ?_
                        refine zv_iload (n := 5) dX9_step_318 rfl ?_
                        refine zv_iload (n := 7) dX9_step_320 rfl ?_
                        refine zv_iload (n := 0) dX9_step_322 rfl ?_
                        refine zr_cVv (ci := 9) (st := []) dX9_step_324 mw_X9_doThing wd_1769 wd_1771 wd_87 rfl rfl [.int l4, .int l6, .int s0] rfl rfl (Nat.le_of_ble_eq_true rfl) (show d - 1 + 1 ≤ d by omega) h (fun o1 e2 => tX9_doThing (d := d - 1) (by omega) e2) (fun o1 e2 h => ?_)
                        exact zv_fewer [1, 2, 4, 6] rfl (kX9_step_327 hd _ _ _ _ _ h)
                      · refine zv_aload_n (n := 1) dX9_step_312 rfl rfl ?_
                        refine zr_cVv (ci := 9) (st := []) dX9_step_313 mw_X9_doThrow wd_1765 wd_1767 wd_86 rfl rfl [] rfl rfl (Nat.le_of_ble_eq_true rfl) (show d - 1 + 1 ≤ d by omega) h (fun o3 e4 => tX9_doThrow (d := d - 1) (by omega) e4) (fun o3 e4 h => ?_)
                        cases h
                        exact zv_vret dX9_step_316 rfl
                    · refine zv_aload_n (n := 1) dX9_step_297 rfl rfl ?_
                      refine zv_iload (n := 7) dX9_step_298 rfl ?_
                      refine zr_cVv (ci := 9) (st := []) dX9_step_300 mw_X9_doCall wd_1761 wd_1763 wd_85 rfl rfl [.int l6] rfl rfl (Nat.le_of_ble_eq_true rfl) (show d - 1 + 1 ≤ d by omega) h (fun o6 e7 => tX9_doCall (d := d - 1) (by omega) e7) (fun o6 e7 h => ?_)
                      cases h
                      exact zv_vret dX9_step_303 rfl
                  · refine zv_aload_n (n := 1) dX9_step_282 rfl rfl ?_
                    refine zv_iload (n := 5) dX9_step_283 rfl ?_
                    refine zr_cVv (ci := 9) (st := []) dX9_step_285 mw_X9_doEnd wd_1757 wd_1759 wd_84 rfl rfl [.int l4] rfl rfl (Nat.le_of_ble_eq_true rfl) (show d - 1 + 1 ≤ d by omega) h (fun o9 e10 => tX9_doEnd (d := d - 1) (by omega) e10) (fun o9 e10 h => ?_)
                    cases h
                    exact zv_vret dX9_step_288 rfl
                · exact zv_fewer [1, 2, 3, 4, 5, 6] rfl (kX9_step_245 hd _ _ _ _ _ _ _ h)
            · refine zv_aload_n (n := 1) dX9_step_215 rfl rfl ?_
              refine zv_iload_n (n := 2) dX9_step_216 rfl rfl ?_
              refine zv_iload (n := 5) dX9_step_217 rfl ?_
              refine zv_iload (n := 7) dX9_step_219 rfl ?_
              refine zv_iload (n := 0) dX9_step_221 rfl ?_
              refine zr_cVv (ci := 9) (st := []) dX9_step_223 mw_X9_doReckoning wd_1739 wd_1741 wd_82 rfl rfl [.int l1, .int l4, .int l6, .int s0] rfl rfl (Nat.le_of_ble_eq_true rfl) (show d - 1 + 1 ≤ d by omega) h (fun o14 e15 => tX9_doReckoning (d := d - 1) (by omega) e15) (fun o14 e15 h => ?_)
              refine zv_goto (tgt := 327) dX9_step_226 (by decide) ?_
              exact zv_fewer [1, 2, 4, 6] rfl (kX9_step_327 hd _ _ _ _ _ h)
          · refine zv_aload_n (n := 1) dX9_step_197 rfl rfl ?_
            refine zv_iload_n (n := 2) dX9_step_198 rfl rfl ?_
            refine zv_iload (n := 5) dX9_step_199 rfl ?_
            refine zr_cVv (ci := 9) (st := []) dX9_step_201 mw_X9_doStack wd_1735 wd_1737 wd_81 rfl rfl [.int l1, .int l4] rfl rfl (Nat.le_of_ble_eq_true rfl) (show d - 1 + 1 ≤ d by omega) h (fun o17 e18 => tX9_doStack (d := d - 1) (by omega) e18) (fun o17 e18 h => ?_)
            refine zv_goto (tgt := 327) dX9_step_204 (by decide) ?_
            exact zv_fewer [1, 2, 4, 6] rfl (kX9_step_327 hd _ _ _ _ _ h)
        · refine zv_aload_n (n := 1) dX9_step_181 rfl rfl ?_
          refine zv_iload (n := 5) dX9_step_182 rfl ?_
          refine zr_cVv (ci := 9) (st := []) dX9_step_184 mw_X9_doStore wd_1731 wd_1733 wd_80 rfl rfl [.int l4] rfl rfl (Nat.le_of_ble_eq_true rfl) (show d - 1 + 1 ≤ d by omega) h (fun o20 e21 => tX9_doStore (d := d - 1) (by omega) e21) (fun o20 e21 h => ?_)
          refine zv_goto (tgt := 327) dX9_step_187 (by decide) ?_
          exact zv_fewer [1, 2, 4, 6] rfl (kX9_step_327 hd _ _ _ _ _ h)
      · refine zv_aload_n (n := 1) dX9_step_120 rfl rfl ?_
        refine zr_gR dX9_step_121 fg_1447 h (fun v23 e24 h => ?_)
        refine zv_bipush (v := 16) dX9_step_124 (by decide) ?_
        refine zv_iload_n (n := 2) dX9_step_126 rfl rfl ?_
        refine zv_imul dX9_step_127 ?_
        refine zv_iload (n := 7) dX9_step_128 rfl ?_
        refine zv_iadd dX9_step_130 ?_
        refine zv_iload (n := 5) dX9_step_131 rfl ?_
        refine zv_bipush (v := 54) dX9_step_133 (by decide) ?_
        refine zr_icmp_ne (tgt := 142) dX9_step_135 (by decide) h (fun c26 h => ?_) (fun c26 h => ?_)
        · refine zv_iload (n := 5) dX9_step_142 rfl ?_
          refine zv_bipush (v := 55) dX9_step_144 (by decide) ?_
          refine zr_icmp_ne (tgt := 153) dX9_step_146 (by decide) h (fun c25 h => ?_) (fun c25 h => ?_)
          · refine zv_iconst (v := 3) dX9_step_153 (by decide) ?_
            exact zv_fewer [1, 2, 4, 6, 7] rfl (kX9_step_154 hd _ _ _ _ _ _ _ _ _ h)
          · refine zv_iconst (v := 2) dX9_step_149 (by decide) ?_
            refine zv_goto (tgt := 154) dX9_step_150 (by decide) ?_
            exact zv_fewer [1, 2, 4, 6, 7] rfl (kX9_step_154 hd _ _ _ _ _ _ _ _ _ h)
        · refine zv_iconst (v := 1) dX9_step_138 (by decide) ?_
          refine zv_goto (tgt := 154) dX9_step_139 (by decide) ?_
          exact zv_fewer [1, 2, 4, 6, 7] rfl (kX9_step_154 hd _ _ _ _ _ _ _ _ _ h)
    · refine zv_aload_n (n := 1) dX9_step_104 rfl rfl ?_
      refine zv_iload (n := 5) dX9_step_105 rfl ?_
      refine zr_cVv (ci := 9) (st := []) dX9_step_107 mw_X9_doFetch wd_1674 wd_1676 wd_68 rfl rfl [.int l4] rfl rfl (Nat.le_of_ble_eq_true rfl) (show d - 1 + 1 ≤ d by omega) h (fun o28 e29 => tX9_doFetch (d := d - 1) (by omega) e29) (fun o28 e29 h => ?_)
      refine zv_goto (tgt := 327) dX9_step_110 (by decide) ?_
      exact zv_fewer [1, 2, 4, 6] rfl (kX9_step_327 hd _ _ _ _ _ h)
  · refine zv_aload_n (n := 1) dX9_step_83 rfl rfl ?_
    refine zv_iload_n (n := 2) dX9_step_84 rfl rfl ?_
    refine zv_iload (n := 5) dX9_step_85 rfl ?_
    refine zv_iload (n := 7) dX9_step_87 rfl ?_
    refine zv_iload (n := 0) dX9_step_89 rfl ?_
    refine zr_cVv (ci := 9) (st := []) dX9_step_91 mw_X9_doLoad wd_1666 wd_1668 wd_66 rfl rfl [.int l1, .int l4, .int l6, .int s0] rfl rfl (Nat.le_of_ble_eq_true rfl) (show d - 1 + 1 ≤ d by omega) h (fun o31 e32 => tX9_doLoad (d := d - 1) (by omega) e32) (fun o31 e32 h => ?_)
    refine zv_goto (tgt := 327) dX9_step_94 (by decide) ?_
    exact zv_fewer [1, 2, 4, 6] rfl (kX9_step_327 hd _ _ _ _ _ h)
def mX9_step_54 (N : Nat) (l0 : Nat) (l1 : Int32) (l2 : Int32) (l3 : Int32) (l4 : Int32) (l5 : Int32) (s0 : Int32) (x : zv_X) : Option zv_X := if l5 ≤ (2 : Int32) then (mX9_step_74 N l0 l1 l2 l3 l4 l5 s0 (0 : Int32) x) else (if zm_k x l0 9 = true then ((mX9_code N l0 l2 (l3 + (2 : Int32)) x).bind fun o1 => mX9_step_74 N l0 l1 l2 l3 l4 l5 s0 o1.2 o1.1) else none)
theorem kX9_step_54 {d : Nat} {x0 : zv_X} {o : zv_X} (hd : 7 ≤ d) {N : Nat} (l0 : Nat) (l1 : Int32) (l2 : Int32) (l3 : Int32) (l4 : Int32) (l5 : Int32) (s0 : Int32) (x : zv_X) (h : mX9_step_54 N l0 l1 l2 l3 l4 l5 s0 x = some o) : zv_V (fX9_step d x0 o) 54 [(0, .ref l0), (1, .int l1), (2, .int l2), (3, .int l3), (4, .int l4), (5, .int l5)] [.int s0] x := by
  unfold mX9_step_54 at h
  refine zv_istore (L' := [(6, .int s0), (0, .ref l0), (1, .int l1), (2, .int l2), (3, .int l3), (4, .int l4), (5, .int l5)]) dX9_step_54 (Nat.le_of_ble_eq_true rfl) rfl ?_
  refine zv_iload (n := 6) dX9_step_56 rfl ?_
  refine zv_iconst (v := 2) dX9_step_58 (by decide) ?_
  refine zr_icmp_le (tgt := 73) dX9_step_59 (by decide) h (fun c3 h => ?_) (fun c3 h => ?_)
  · refine zv_iconst (v := 0) dX9_step_73 (by decide) ?_
    exact zv_fewer [1, 2, 3, 4, 5, 6, 0] rfl (kX9_step_74 hd _ _ _ _ _ _ _ _ _ h)
  · refine zv_aload_n (n := 1) dX9_step_62 rfl rfl ?_
    refine zv_iload_n (n := 3) dX9_step_63 rfl rfl ?_
    refine zv_iload_n (n := 4) dX9_step_64 rfl rfl ?_
    refine zv_iconst (v := 2) dX9_step_65 (by decide) ?_
    refine zv_iadd dX9_step_66 ?_
    refine zr_cVi (ci := 9) (st := []) dX9_step_67 mw_X9_code wd_1609 wd_1611 wd_55 rfl rfl [.int l2, .int (l3 + (2 : Int32))] rfl rfl (Nat.le_of_ble_eq_true rfl) (show d - 1 + 1 ≤ d by omega) h (fun o1 e2 => tX9_code (d := d - 1) (by omega) e2) (fun o1 e2 h => ?_)
    refine zv_goto (tgt := 74) dX9_step_70 (by decide) ?_
    exact zv_fewer [1, 2, 3, 4, 5, 6, 0] rfl (kX9_step_74 hd _ _ _ _ _ _ _ _ _ h)
def mX9_step_0 (N : Nat) (l0 : Nat) (x : zv_X) : Option zv_X := (zm_I x l0 9 47).bind fun v1 => (zm_R x l0 9 40).bind fun v3 => (zm_aI x v3 (v1 - (1 : Int32))).bind fun v5 => (zm_R x l0 9 41).bind fun v7 => (zm_aI x v7 (v1 - (1 : Int32))).bind fun v9 => if zm_k x l0 9 = true then ((mX9_code N l0 v5 v9 x).bind fun o11 => (mX9_length N o11.2 o11.1).bind fun o13 => if o13.2 ≤ (1 : Int32) then (mX9_step_54 N l0 (v1 - (1 : Int32)) v5 v9 o11.2 o13.2 (0 : Int32) o13.1) else (if zm_k o13.1 l0 9 = true then ((mX9_code N l0 v5 (v9 + (1 : Int32)) o13.1).bind fun o15 => mX9_step_54 N l0 (v1 - (1 : Int32)) v5 v9 o11.2 o13.2 o15.2 o15.1) else none)) else none
theorem kX9_step_0 {d : Nat} {x0 : zv_X} {o : zv_X} (hd : 7 ≤ d) {N : Nat} (l0 : Nat) (x : zv_X) (h : mX9_step_0 N l0 x = some o) : zv_V (fX9_step d x0 o) 0 [(0, .ref l0)] [] x := by
  unfold mX9_step_0 at h
  refine zv_aload_n (n := 0) dX9_step_0 rfl rfl ?_
  refine zr_gI dX9_step_1 fg_1450 h (fun v1 e2 h => ?_)
  refine zv_iconst (v := 1) dX9_step_4 (by decide) ?_
  refine zv_isub dX9_step_5 ?_
  refine zv_istore_n (L' := [(1, .int (v1 - (1 : Int32))), (0, .ref l0)]) dX9_step_6 rfl (Nat.le_of_ble_eq_true rfl) rfl ?_
  refine zv_aload_n (n := 1) dX9_step_7 rfl rfl ?_
  refine zr_gR dX9_step_8 fg_1443 h (fun v3 e4 h => ?_)
  refine zv_iload_n (n := 0) dX9_step_11 rfl rfl ?_
  refine zr_aI dX9_step_12 h (fun v5 e6 h => ?_)
  refine zv_istore_n (L' := [(2, .int v5), (1, .int (v1 - (1 : Int32))), (0, .ref l0)]) dX9_step_13 rfl (Nat.le_of_ble_eq_true rfl) rfl ?_
  refine zv_aload_n (n := 2) dX9_step_14 rfl rfl ?_
  refine zr_gR dX9_step_15 fg_1444 h (fun v7 e8 h => ?_)
  refine zv_iload_n (n := 1) dX9_step_18 rfl rfl ?_
  refine zr_aI dX9_step_19 h (fun v9 e10 h => ?_)
  refine zv_istore_n (L' := [(3, .int v9), (2, .int v5), (1, .int (v1 - (1 : Int32))), (0, .ref l0)]) dX9_step_20 rfl (Nat.le_of_ble_eq_true rfl) rfl ?_
  refine zv_aload_n (n := 3) dX9_step_21 rfl rfl ?_
  refine zv_iload_n (n := 1) dX9_step_22 rfl rfl ?_
  refine zv_iload_n (n := 0) dX9_step_23 rfl rfl ?_
  refine zr_cVi (ci := 9) (st := []) dX9_step_24 mw_X9_code wd_1609 wd_1611 wd_55 rfl rfl [.int v5, .int v9] rfl rfl (Nat.le_of_ble_eq_true rfl) (show d - 1 + 1 ≤ d by omega) h (fun o11 e12 => tX9_code (d := d - 1) (by omega) e12) (fun o11 e12 h => ?_)
  refine zv_istore (L' := [(4, .int o11.2), (3, .int v9), (2, .int v5), (1, .int (v1 - (1 : Int32))), (0, .ref l0)]) dX9_step_27 (Nat.le_of_ble_eq_true rfl) rfl ?_
  refine zv_iload (n := 0) dX9_step_29 rfl ?_
  refine zr_cSi (st := []) dX9_step_31 mw_X9_length wd_1613 wd_1614 [.int o11.2] rfl rfl (Nat.le_of_ble_eq_true rfl) (show d - 1 + 1 ≤ d by omega) h (fun o13 e14 => tX9_length (d := d - 1) (by omega) e14) (fun o13 e14 h => ?_)
  refine zv_istore (L' := [(5, .int o13.2), (4, .int o11.2), (3, .int v9), (2, .int v5), (1, .int (v1 - (1 : Int32))), (0, .ref l0)]) dX9_step_34 (Nat.le_of_ble_eq_true rfl) rfl ?_
  refine zv_iload (n := 0) dX9_step_36 rfl ?_
  refine zv_iconst (v := 1) dX9_step_38 (by decide) ?_
  refine zr_icmp_le (tgt := 53) dX9_step_39 (by decide) h (fun c17 h => ?_) (fun c17 h => ?_)
  · refine zv_iconst (v := 0) dX9_step_53 (by decide) ?_
    exact zv_fewer [5, 4, 3, 2, 1, 0] rfl (kX9_step_54 hd _ _ _ _ _ _ _ _ h)
  · refine zv_aload_n (n := 5) dX9_step_42 rfl rfl ?_
    refine zv_iload_n (n := 3) dX9_step_43 rfl rfl ?_
    refine zv_iload_n (n := 2) dX9_step_44 rfl rfl ?_
    refine zv_iconst (v := 1) dX9_step_45 (by decide) ?_
    refine zv_iadd dX9_step_46 ?_
    refine zr_cVi (ci := 9) (st := []) dX9_step_47 mw_X9_code wd_1609 wd_1611 wd_55 rfl rfl [.int v5, .int (v9 + (1 : Int32))] rfl rfl (Nat.le_of_ble_eq_true rfl) (show d - 1 + 1 ≤ d by omega) h (fun o15 e16 => tX9_code (d := d - 1) (by omega) e16) (fun o15 e16 h => ?_)
    refine zv_goto (tgt := 54) dX9_step_50 (by decide) ?_
    exact zv_fewer [5, 4, 3, 2, 1, 0] rfl (kX9_step_54 hd _ _ _ _ _ _ _ _ h)
def mX9_step (N : Nat) (a0 : Nat) (x : zv_X) : Option zv_X := mX9_step_0 N a0 x
theorem tX9_step {d : Nat} (hd : 7 ≤ d) {N : Nat} {x : zv_X} {a0 : Nat} {o : zv_X} (h : mX9_step N a0 x = some o) : zv_T d yX9_step cX9_step 8 (none) [.ref a0] x o none := by
  unfold mX9_step at h
  exact zv_enter (by decide) (Nat.le_of_ble_eq_true rfl) (kX9_step_0 hd _ _ h)

abbrev fX9_run (d : Nat) (x0 : zv_X) (o : (zv_X × Int32)) : zv_G := (d, RX9, cX9_run, 12, (some .int), ("run", []), x0, o.1, zv_fin x0 o.1 (some (.int o.2)))
def mX9_run_303 (N : Nat) (l0 : Nat) (s0 : Int64) (s1 : Nat) (x : zv_X) : Option (zv_X × Int32) := (zm_p x s1 9 50 (.long s0)).bind fun x1 => (zm_I x1 l0 9 48).bind fun v3 => some (x1, v3)
theorem kX9_run_303 {d : Nat} {x0 : zv_X} {o : (zv_X × Int32)} (hd : 8 ≤ d) {N : Nat} (l0 : Nat) (s0 : Int64) (s1 : Nat) (x : zv_X) (h : mX9_run_303 N l0 s0 s1 x = some o) : zv_V (fX9_run d x0 o) 303 [(0, .ref l0)] [.long s0, .ref s1] x := by
  unfold mX9_run_303 at h
  refine zr_p dX9_run_303 fl_1453 (fun q => nomatch q) rfl rfl h (fun x1 e2 h => ?_)
  refine zv_aload_n (n := 0) dX9_run_306 rfl rfl ?_
  refine zr_gI dX9_run_307 fg_1451 h (fun v3 e4 h => ?_)
  cases h
  exact zv_iret dX9_run_310 rfl
def mX9_run_240 (N : Nat) : Nat → Nat → Int32 → zv_X → Option (zv_X × Int32)
  | 0, _, _, _ => none
  | n + 1, l0, l6, x => (zm_I x l0 9 49).bind fun v1 => if v1 = 0 then ((zm_I x l0 9 51).bind fun v8 => if v8 = l6 then ((zm_p x l0 9 48 (.int (2 : Int32))).bind fun x16 => (zm_p x16 l0 9 49 (.int (1 : Int32))).bind fun x18 => mX9_run_240 N n l0 l6 x18) else ((zm_I x l0 9 51).bind fun v10 => (zm_p x l0 9 51 (.int (v10 + (1 : Int32)))).bind fun x12 => if zm_k x12 l0 9 = true then ((mX9_step N l0 x12).bind fun o14 => mX9_run_240 N n l0 l6 o14) else none)) else ((zm_I x l0 9 48).bind fun v3 => if v3 ≤ (1 : Int32) then ((zm_L x l0 9 50).bind fun v5 => mX9_run_303 N l0 v5 l0 x) else (mX9_run_303 N l0 (0 : Int64) l0 x))
theorem kX9_run_240 {d : Nat} {x0 : zv_X} {o : (zv_X × Int32)} (hd : 8 ≤ d) {N : Nat} : ∀ (n : Nat) (l0 : Nat) (l6 : Int32) (x : zv_X), mX9_run_240 N n l0 l6 x = some o → zv_V (fX9_run d x0 o) 240 [(0, .ref l0), (6, .int l6)] [] x := by
  intro n
  induction n with
  | zero => intro l0 l6 x h; cases h
  | succ n ih =>
    intro l0 l6 x h
    unfold mX9_run_240 at h
    refine zv_aload_n (n := 0) dX9_run_240 rfl rfl ?_
    refine zr_gI dX9_run_241 fg_1452 h (fun v1 e2 h => ?_)
    refine zr_if_ne (tgt := 286) dX9_run_244 (by decide) h (fun c21 h => ?_) (fun c21 h => ?_)
    · refine zv_aload_n (n := 0) dX9_run_286 rfl rfl ?_
      refine zv_aload_n (n := 0) dX9_run_287 rfl rfl ?_
      refine zr_gI dX9_run_288 fg_1451 h (fun v3 e4 h => ?_)
      refine zv_iconst (v := 1) dX9_run_291 (by decide) ?_
      refine zr_icmp_le (tgt := 299) dX9_run_292 (by decide) h (fun c7 h => ?_) (fun c7 h => ?_)
      · refine zv_aload_n (n := 0) dX9_run_299 rfl rfl ?_
        refine zr_gL dX9_run_300 fg_1453 h (fun v5 e6 h => ?_)
        exact zv_fewer [0] rfl (kX9_run_303 hd _ _ _ _ h)
      · refine zv_lconst (v := 0) dX9_run_295 (by decide) ?_
        refine zv_goto (tgt := 303) dX9_run_296 (by decide) ?_
        exact zv_fewer [0] rfl (kX9_run_303 hd _ _ _ _ h)
    · refine zv_aload_n (n := 0) dX9_run_247 rfl rfl ?_
      refine zr_gI dX9_run_248 fg_1454 h (fun v8 e9 h => ?_)
      refine zv_iload (n := 1) dX9_run_251 rfl ?_
      refine zr_icmp_ne (tgt := 269) dX9_run_253 (by decide) h (fun c20 h => ?_) (fun c20 h => ?_)
      · refine zv_aload_n (n := 0) dX9_run_269 rfl rfl ?_
        refine zv_dup dX9_run_270 rfl ?_
        refine zr_gI dX9_run_271 fg_1454 h (fun v10 e11 h => ?_)
        refine zv_iconst (v := 1) dX9_run_274 (by decide) ?_
        refine zv_iadd dX9_run_275 ?_
        refine zr_p dX9_run_276 fl_1454 (fun q => nomatch q) rfl rfl h (fun x12 e13 h => ?_)
        refine zv_aload_n (n := 0) dX9_run_279 rfl rfl ?_
        refine zr_cVv (ci := 9) (st := []) dX9_run_280 mw_X9_step wd_1662 wd_1664 wd_65 rfl rfl [] rfl rfl (Nat.le_of_ble_eq_true rfl) (show d - 1 + 1 ≤ d by omega) h (fun o14 e15 => tX9_step (d := d - 1) (by omega) e15) (fun o14 e15 h => ?_)
        refine zv_goto (tgt := 240) dX9_run_283 (by decide) ?_
        exact ih _ _ _ h
      · refine zv_aload_n (n := 0) dX9_run_256 rfl rfl ?_
        refine zv_iconst (v := 2) dX9_run_257 (by decide) ?_
        refine zr_p dX9_run_258 fl_1451 (fun q => nomatch q) rfl rfl h (fun x16 e17 h => ?_)
        refine zv_aload_n (n := 0) dX9_run_261 rfl rfl ?_
        refine zv_iconst (v := 1) dX9_run_262 (by decide) ?_
        refine zr_p dX9_run_263 fl_1452 (fun q => nomatch q) rfl rfl h (fun x18 e19 h => ?_)
        refine zv_goto (tgt := 240) dX9_run_266 (by decide) ?_
        exact ih _ _ _ h
def mX9_run_197 (K98 : Nat → Int32 → Int64 → Int64 → Int32 → Int32 → Int32 → zv_X → Option (zv_X × Int32)) (N : Nat) (l0 : Nat) (l1 : Int32) (l2 : Int64) (l4 : Int64) (l6 : Int32) (l8 : Int32) (s0 : Int32) (x : zv_X) : Option (zv_X × Int32) := K98 l0 l1 l2 l4 l6 s0 (l8 + (1)) x
theorem kX9_run_197 {d : Nat} {x0 : zv_X} {o : (zv_X × Int32)} (hd : 8 ≤ d) {K98 : Nat → Int32 → Int64 → Int64 → Int32 → Int32 → Int32 → zv_X → Option (zv_X × Int32)} (hK98 : ∀ (l0 : Nat) (l1 : Int32) (l2 : Int64) (l4 : Int64) (l6 : Int32) (l7 : Int32) (l8 : Int32) (x : zv_X), K98 l0 l1 l2 l4 l6 l7 l8 x = some o → zv_V (fX9_run d x0 o) 98 [(0, .ref l0), (1, .int l1), (2, .long l2), (4, .long l4), (6, .int l6), (7, .int l7), (8, .int l8)] [] x) {N : Nat} (l0 : Nat) (l1 : Int32) (l2 : Int64) (l4 : Int64) (l6 : Int32) (l8 : Int32) (s0 : Int32) (x : zv_X) (h : mX9_run_197 K98 N l0 l1 l2 l4 l6 l8 s0 x = some o) : zv_V (fX9_run d x0 o) 197 [(0, .ref l0), (1, .int l1), (2, .long l2), (4, .long l4), (6, .int l6), (8, .int l8)] [.int s0] x := by
  unfold mX9_run_197 at h
  refine zv_istore (L' := [(7, .int s0), (0, .ref l0), (1, .int l1), (2, .long l2), (4, .long l4), (6, .int l6), (8, .int l8)]) dX9_run_197 (Nat.le_of_ble_eq_true rfl) rfl ?_
  refine zv_iinc (n := 6) (v := l8 + (1)) (L' := [(8, .int (l8 + (1))), (7, .int s0), (0, .ref l0), (1, .int l1), (2, .long l2), (4, .long l4), (6, .int l6)]) dX9_run_199 rfl rfl (Nat.le_of_ble_eq_true rfl) rfl ?_
  refine zv_goto (tgt := 98) dX9_run_202 (by decide) ?_
  exact zv_fewer [2, 3, 4, 5, 6, 1, 0] rfl (hK98 _ _ _ _ _ _ _ _ h)
def mX9_run_175 (K98 : Nat → Int32 → Int64 → Int64 → Int32 → Int32 → Int32 → zv_X → Option (zv_X × Int32)) (N : Nat) (l0 : Nat) (l1 : Int32) (l2 : Int64) (l4 : Int64) (l6 : Int32) (l7 : Int32) (l8 : Int32) (l9 : Int32) (s0 : Int64) (s1 : Int32) (s2 : Nat) (x : zv_X) : Option (zv_X × Int32) := (zm_sL x s2 s1 s0).bind fun x1 => if l9 = (3 : Int32) then (mX9_run_197 K98 N l0 l1 l2 l4 l6 l8 l7 x1) else (if l7 = 0 then (mX9_run_197 K98 N l0 l1 l2 l4 l6 l8 (1 : Int32) x1) else (mX9_run_197 K98 N l0 l1 l2 l4 l6 l8 (0 : Int32) x1))
theorem kX9_run_175 {d : Nat} {x0 : zv_X} {o : (zv_X × Int32)} (hd : 8 ≤ d) {K98 : Nat → Int32 → Int64 → Int64 → Int32 → Int32 → Int32 → zv_X → Option (zv_X × Int32)} (hK98 : ∀ (l0 : Nat) (l1 : Int32) (l2 : Int64) (l4 : Int64) (l6 : Int32) (l7 : Int32) (l8 : Int32) (x : zv_X), K98 l0 l1 l2 l4 l6 l7 l8 x = some o → zv_V (fX9_run d x0 o) 98 [(0, .ref l0), (1, .int l1), (2, .long l2), (4, .long l4), (6, .int l6), (7, .int l7), (8, .int l8)] [] x) {N : Nat} (l0 : Nat) (l1 : Int32) (l2 : Int64) (l4 : Int64) (l6 : Int32) (l7 : Int32) (l8 : Int32) (l9 : Int32) (s0 : Int64) (s1 : Int32) (s2 : Nat) (x : zv_X) (h : mX9_run_175 K98 N l0 l1 l2 l4 l6 l7 l8 l9 s0 s1 s2 x = some o) : zv_V (fX9_run d x0 o) 175 [(0, .ref l0), (1, .int l1), (2, .long l2), (4, .long l4), (6, .int l6), (7, .int l7), (8, .int l8), (9, .int l9)] [.long s0, .int s1, .ref s2] x := by
  unfold mX9_run_175 at h
  refine zr_sL dX9_run_175 h (fun x1 e2 h => ?_)
  refine zv_iload (n := 7) dX9_run_176 rfl ?_
  refine zv_iconst (v := 3) dX9_run_178 (by decide) ?_
  refine zr_icmp_ne (tgt := 187) dX9_run_179 (by decide) h (fun c4 h => ?_) (fun c4 h => ?_)
  · refine zv_iload (n := 5) dX9_run_187 rfl ?_
    refine zr_if_ne (tgt := 196) dX9_run_189 (by decide) h (fun c3 h => ?_) (fun c3 h => ?_)
    · refine zv_iconst (v := 0) dX9_run_196 (by decide) ?_
      exact zv_fewer [0, 1, 2, 3, 4, 6] rfl (kX9_run_197 hd hK98 _ _ _ _ _ _ _ _ h)
    · refine zv_iconst (v := 1) dX9_run_192 (by decide) ?_
      refine zv_goto (tgt := 197) dX9_run_193 (by decide) ?_
      exact zv_fewer [0, 1, 2, 3, 4, 6] rfl (kX9_run_197 hd hK98 _ _ _ _ _ _ _ _ h)
  · refine zv_iload (n := 5) dX9_run_182 rfl ?_
    refine zv_goto (tgt := 197) dX9_run_184 (by decide) ?_
    exact zv_fewer [0, 1, 2, 3, 4, 6] rfl (kX9_run_197 hd hK98 _ _ _ _ _ _ _ _ h)
def mX9_run_133 (K98 : Nat → Int32 → Int64 → Int64 → Int32 → Int32 → Int32 → zv_X → Option (zv_X × Int32)) (N : Nat) (l0 : Nat) (l1 : Int32) (l2 : Int64) (l4 : Int64) (l6 : Int32) (l7 : Int32) (l8 : Int32) (l9 : Int32) (s0 : Int64) (x : zv_X) : Option (zv_X × Int32) := (zm_R x l0 9 44).bind fun v1 => (zm_sI x v1 l8 l9).bind fun x3 => (zm_R x3 l0 9 43).bind fun v5 => if l9 = (3 : Int32) then (mX9_run_175 K98 N l0 l1 l2 l4 l6 l7 l8 l9 (0 : Int64) l8 v5 x3) else (if l9 = (1 : Int32) then (mX9_run_175 K98 N l0 l1 l2 l4 l6 l7 l8 l9 (Int32.toInt64 (Int64.toInt32 s0)) l8 v5 x3) else (mX9_run_175 K98 N l0 l1 l2 l4 l6 l7 l8 l9 s0 l8 v5 x3))
theorem kX9_run_133 {d : Nat} {x0 : zv_X} {o : (zv_X × Int32)} (hd : 8 ≤ d) {K98 : Nat → Int32 → Int64 → Int64 → Int32 → Int32 → Int32 → zv_X → Option (zv_X × Int32)} (hK98 : ∀ (l0 : Nat) (l1 : Int32) (l2 : Int64) (l4 : Int64) (l6 : Int32) (l7 : Int32) (l8 : Int32) (x : zv_X), K98 l0 l1 l2 l4 l6 l7 l8 x = some o → zv_V (fX9_run d x0 o) 98 [(0, .ref l0), (1, .int l1), (2, .long l2), (4, .long l4), (6, .int l6), (7, .int l7), (8, .int l8)] [] x) {N : Nat} (l0 : Nat) (l1 : Int32) (l2 : Int64) (l4 : Int64) (l6 : Int32) (l7 : Int32) (l8 : Int32) (l9 : Int32) (s0 : Int64) (x : zv_X) (h : mX9_run_133 K98 N l0 l1 l2 l4 l6 l7 l8 l9 s0 x = some o) : zv_V (fX9_run d x0 o) 133 [(0, .ref l0), (1, .int l1), (2, .long l2), (4, .long l4), (6, .int l6), (7, .int l7), (8, .int l8), (9, .int l9)] [.long s0] x := by
  unfold mX9_run_133 at h
  refine zv_lstore (L' := [(10, .long s0), (0, .ref l0), (1, .int l1), (2, .long l2), (4, .long l4), (6, .int l6), (7, .int l7), (8, .int l8), (9, .int l9)]) dX9_run_133 (Nat.le_of_ble_eq_true rfl) rfl ?_
  refine zv_aload_n (n := 1) dX9_run_135 rfl rfl ?_
  refine zr_gR dX9_run_136 fg_1447 h (fun v1 e2 h => ?_)
  refine zv_iload (n := 7) dX9_run_139 rfl ?_
  refine zv_iload (n := 8) dX9_run_141 rfl ?_
  refine zr_sI dX9_run_143 h (fun x3 e4 h => ?_)
  refine zv_aload_n (n := 1) dX9_run_144 rfl rfl ?_
  refine zr_gR dX9_run_145 fg_1446 h (fun v5 e6 h => ?_)
  refine zv_iload (n := 7) dX9_run_148 rfl ?_
  refine zv_iload (n := 8) dX9_run_150 rfl ?_
  refine zv_iconst (v := 3) dX9_run_152 (by decide) ?_
  refine zr_icmp_ne (tgt := 160) dX9_run_153 (by decide) h (fun c8 h => ?_) (fun c8 h => ?_)
  · refine zv_iload (n := 8) dX9_run_160 rfl ?_
    refine zv_iconst (v := 1) dX9_run_162 (by decide) ?_
    refine zr_icmp_ne (tgt := 173) dX9_run_163 (by decide) h (fun c7 h => ?_) (fun c7 h => ?_)
    · refine zv_lload (n := 0) dX9_run_173 rfl ?_
      exact zv_fewer [1, 2, 3, 4, 5, 6, 7, 8] rfl (kX9_run_175 hd hK98 _ _ _ _ _ _ _ _ _ _ _ _ h)
    · refine zv_lload (n := 0) dX9_run_166 rfl ?_
      refine zv_l2i dX9_run_168 ?_
      refine zv_i2l dX9_run_169 ?_
      refine zv_goto (tgt := 175) dX9_run_170 (by decide) ?_
      exact zv_fewer [1, 2, 3, 4, 5, 6, 7, 8] rfl (kX9_run_175 hd hK98 _ _ _ _ _ _ _ _ _ _ _ _ h)
  · refine zv_lconst (v := 0) dX9_run_156 (by decide) ?_
    refine zv_goto (tgt := 175) dX9_run_157 (by decide) ?_
    exact zv_fewer [1, 2, 3, 4, 5, 6, 7, 8] rfl (kX9_run_175 hd hK98 _ _ _ _ _ _ _ _ _ _ _ _ h)
def mX9_run_98 (N : Nat) : Nat → Nat → Int32 → Int64 → Int64 → Int32 → Int32 → Int32 → zv_X → Option (zv_X × Int32)
  | 0, _, _, _, _, _, _, _, _ => none
  | n + 1, l0, l1, l2, l4, l6, l7, l8, x => (zm_R x l0 9 12).bind fun v1 => (zm_aI x v1 l1).bind fun v3 => if v3 ≤ l8 then ((zm_p x l0 9 47 (.int (1 : Int32))).bind fun x5 => (zm_p x5 l0 9 51 (.int (0 : Int32))).bind fun x7 => (zm_p x7 l0 9 50 (.long (0 : Int64))).bind fun x9 => (zm_p x9 l0 9 52 (.int (0 : Int32))).bind fun x11 => (zm_p x11 l0 9 53 (.int (0 : Int32))).bind fun x13 => (zm_p x13 l0 9 48 (.int (0 : Int32))).bind fun x15 => (zm_p x15 l0 9 49 (.int (0 : Int32))).bind fun x17 => mX9_run_240 N N l0 l6 x17) else ((zm_R x l0 9 13).bind fun v19 => (zm_aI x v19 (((4 : Int32) * l1) + l8)).bind fun v21 => if l7 = 0 then (mX9_run_133 (mX9_run_98 N n) N l0 l1 l2 l4 l6 l7 l8 v21 l4 x) else (mX9_run_133 (mX9_run_98 N n) N l0 l1 l2 l4 l6 l7 l8 v21 l2 x))
theorem kX9_run_98 {d : Nat} {x0 : zv_X} {o : (zv_X × Int32)} (hd : 8 ≤ d) {N : Nat} : ∀ (n : Nat) (l0 : Nat) (l1 : Int32) (l2 : Int64) (l4 : Int64) (l6 : Int32) (l7 : Int32) (l8 : Int32) (x : zv_X), mX9_run_98 N n l0 l1 l2 l4 l6 l7 l8 x = some o → zv_V (fX9_run d x0 o) 98 [(0, .ref l0), (1, .int l1), (2, .long l2), (4, .long l4), (6, .int l6), (7, .int l7), (8, .int l8)] [] x := by
  intro n
  induction n with
  | zero => intro l0 l1 l2 l4 l6 l7 l8 x h; cases h
  | succ n ih =>
    intro l0 l1 l2 l4 l6 l7 l8 x h
    unfold mX9_run_98 at h
    refine zv_iload (n := 6) dX9_run_98 rfl ?_
    refine zv_aload_n (n := 0) dX9_run_100 rfl rfl ?_
    refine zr_gR dX9_run_101 fg_1415 h (fun v1 e2 h => ?_)
    refine zv_iload_n (n := 1) dX9_run_104 rfl rfl ?_
    refine zr_aI dX9_run_105 h (fun v3 e4 h => ?_)
    refine zr_icmp_ge (tgt := 205) dX9_run_106 (by decide) h (fun c24 h => ?_) (fun c24 h => ?_)
    · refine zv_aload_n (n := 0) dX9_run_205 rfl rfl ?_
      refine zv_iconst (v := 1) dX9_run_206 (by decide) ?_
      refine zr_p dX9_run_207 fl_1450 (fun q => nomatch q) rfl rfl h (fun x5 e6 h => ?_)
      refine zv_aload_n (n := 0) dX9_run_210 rfl rfl ?_
      refine zv_iconst (v := 0) dX9_run_211 (by decide) ?_
      refine zr_p dX9_run_212 fl_1454 (fun q => nomatch q) rfl rfl h (fun x7 e8 h => ?_)
      refine zv_aload_n (n := 0) dX9_run_215 rfl rfl ?_
      refine zv_lconst (v := 0) dX9_run_216 (by decide) ?_
      refine zr_p dX9_run_217 fl_1453 (fun q => nomatch q) rfl rfl h (fun x9 e10 h => ?_)
      refine zv_aload_n (n := 0) dX9_run_220 rfl rfl ?_
      refine zv_iconst (v := 0) dX9_run_221 (by decide) ?_
      refine zr_p dX9_run_222 fl_1455 (fun q => nomatch q) rfl rfl h (fun x11 e12 h => ?_)
      refine zv_aload_n (n := 0) dX9_run_225 rfl rfl ?_
      refine zv_iconst (v := 0) dX9_run_226 (by decide) ?_
      refine zr_p dX9_run_227 fl_1456 (fun q => nomatch q) rfl rfl h (fun x13 e14 h => ?_)
      refine zv_aload_n (n := 0) dX9_run_230 rfl rfl ?_
      refine zv_iconst (v := 0) dX9_run_231 (by decide) ?_
      refine zr_p dX9_run_232 fl_1451 (fun q => nomatch q) rfl rfl h (fun x15 e16 h => ?_)
      refine zv_aload_n (n := 0) dX9_run_235 rfl rfl ?_
      refine zv_iconst (v := 0) dX9_run_236 (by decide) ?_
      refine zr_p dX9_run_237 fl_1452 (fun q => nomatch q) rfl rfl h (fun x17 e18 h => ?_)
      exact zv_fewer [0, 4] rfl (kX9_run_240 hd N _ _ _ h)
    · refine zv_aload_n (n := 0) dX9_run_109 rfl rfl ?_
      refine zr_gR dX9_run_110 fg_1416 h (fun v19 e20 h => ?_)
      refine zv_iconst (v := 4) dX9_run_113 (by decide) ?_
      refine zv_iload_n (n := 1) dX9_run_114 rfl rfl ?_
      refine zv_imul dX9_run_115 ?_
      refine zv_iload (n := 6) dX9_run_116 rfl ?_
      refine zv_iadd dX9_run_118 ?_
      refine zr_aI dX9_run_119 h (fun v21 e22 h => ?_)
      refine zv_istore (L' := [(9, .int v21), (0, .ref l0), (1, .int l1), (2, .long l2), (4, .long l4), (6, .int l6), (7, .int l7), (8, .int l8)]) dX9_run_120 (Nat.le_of_ble_eq_true rfl) rfl ?_
      refine zv_iload (n := 6) dX9_run_122 rfl ?_
      refine zr_if_eq (tgt := 131) dX9_run_124 (by decide) h (fun c23 h => ?_) (fun c23 h => ?_)
      · refine zv_lload (n := 4) dX9_run_131 rfl ?_
        exact zv_fewer [1, 2, 3, 4, 5, 6, 7, 0] rfl (kX9_run_133 hd ih _ _ _ _ _ _ _ _ _ _ h)
      · refine zv_lload_n (n := 3) dX9_run_127 rfl rfl ?_
        refine zv_goto (tgt := 133) dX9_run_128 (by decide) ?_
        exact zv_fewer [1, 2, 3, 4, 5, 6, 7, 0] rfl (kX9_run_133 hd ih _ _ _ _ _ _ _ _ _ _ h)
def mX9_run_60 (N : Nat) : Nat → Nat → Int32 → Int64 → Int64 → Int32 → Int32 → zv_X → Option (zv_X × Int32)
  | 0, _, _, _, _, _, _, _ => none
  | n + 1, l0, l1, l2, l4, l6, l7, x => if (201 : Int32) ≤ l7 then ((zm_p x l0 9 47 (.int (0 : Int32))).bind fun x1 => if zm_k x1 l0 9 = true then ((mX9_open N l0 l1 x1).bind fun o3 => mX9_run_98 N N l0 l1 l2 l4 l6 (1 : Int32) (0 : Int32) o3) else none) else ((zm_R x l0 9 29).bind fun v5 => (zm_sB x v5 l7 (0 : Int32)).bind fun x7 => mX9_run_60 N n l0 l1 l2 l4 l6 (l7 + (1)) x7)
theorem kX9_run_60 {d : Nat} {x0 : zv_X} {o : (zv_X × Int32)} (hd : 8 ≤ d) {N : Nat} : ∀ (n : Nat) (l0 : Nat) (l1 : Int32) (l2 : Int64) (l4 : Int64) (l6 : Int32) (l7 : Int32) (x : zv_X), mX9_run_60 N n l0 l1 l2 l4 l6 l7 x = some o → zv_V (fX9_run d x0 o) 60 [(0, .ref l0), (1, .int l1), (2, .long l2), (4, .long l4), (6, .int l6), (7, .int l7)] [] x := by
  intro n
  induction n with
  | zero => intro l0 l1 l2 l4 l6 l7 x h; cases h
  | succ n ih =>
    intro l0 l1 l2 l4 l6 l7 x h
    unfold mX9_run_60 at h
    refine zv_iload (n := 5) dX9_run_60 rfl ?_
    refine zv_sipush (v := 201) dX9_run_62 (by decide) ?_
    refine zr_icmp_ge (tgt := 82) dX9_run_65 (by decide) h (fun c9 h => ?_) (fun c9 h => ?_)
    · refine zv_aload_n (n := 0) dX9_run_82 rfl rfl ?_
      refine zv_iconst (v := 0) dX9_run_83 (by decide) ?_
      refine zr_p dX9_run_84 fl_1450 (fun q => nomatch q) rfl rfl h (fun x1 e2 h => ?_)
      refine zv_aload_n (n := 0) dX9_run_87 rfl rfl ?_
      refine zv_iload_n (n := 1) dX9_run_88 rfl rfl ?_
      refine zr_cVv (ci := 9) (st := []) dX9_run_89 mw_X9_open wd_1658 wd_1660 wd_64 rfl rfl [.int l1] rfl rfl (Nat.le_of_ble_eq_true rfl) (show d - 1 + 1 ≤ d by omega) h (fun o3 e4 => tX9_open (d := d - 1) (by omega) e4) (fun o3 e4 h => ?_)
      refine zv_iconst (v := 1) dX9_run_92 (by decide) ?_
      refine zv_istore (L' := [(7, .int (1 : Int32)), (0, .ref l0), (1, .int l1), (2, .long l2), (4, .long l4), (6, .int l6)]) dX9_run_93 (Nat.le_of_ble_eq_true rfl) rfl ?_
      refine zv_iconst (v := 0) dX9_run_95 (by decide) ?_
      refine zv_istore (L' := [(8, .int (0 : Int32)), (7, .int (1 : Int32)), (0, .ref l0), (1, .int l1), (2, .long l2), (4, .long l4), (6, .int l6)]) dX9_run_96 (Nat.le_of_ble_eq_true rfl) rfl ?_
      exact zv_fewer [2, 3, 4, 5, 6, 1, 0] rfl (kX9_run_98 hd N _ _ _ _ _ _ _ _ h)
    · refine zv_aload_n (n := 0) dX9_run_68 rfl rfl ?_
      refine zr_gR dX9_run_69 fg_1432 h (fun v5 e6 h => ?_)
      refine zv_iload (n := 5) dX9_run_72 rfl ?_
      refine zv_iconst (v := 0) dX9_run_74 (by decide) ?_
      refine zr_sB dX9_run_75 h (fun x7 e8 h => ?_)
      refine zv_iinc (n := 5) (v := l7 + (1)) (L' := [(7, .int (l7 + (1))), (0, .ref l0), (1, .int l1), (2, .long l2), (4, .long l4), (6, .int l6)]) dX9_run_76 rfl rfl (Nat.le_of_ble_eq_true rfl) rfl ?_
      refine zv_goto (tgt := 60) dX9_run_79 (by decide) ?_
      exact zv_fewer [1, 2, 3, 4, 5, 0] rfl (ih _ _ _ _ _ _ _ h)
def mX9_run_35 (N : Nat) (l0 : Nat) (l1 : Int32) (l2 : Int64) (l4 : Int64) (l6 : Int32) (s0 : Int32) (s1 : Nat) (x : zv_X) : Option (zv_X × Int32) := (zm_p x s1 9 0 (.int s0)).bind fun x1 => (zm_I x1 l0 9 0).bind fun v3 => if v3 ≤ 0 then ((zm_p x1 l0 9 36 (.int (0 : Int32))).bind fun x5 => (zm_p x5 l0 9 38 (.int (0 : Int32))).bind fun x7 => mX9_run_60 N N l0 l1 l2 l4 l6 (0 : Int32) x7) else (some (x1, (0 : Int32)))
theorem kX9_run_35 {d : Nat} {x0 : zv_X} {o : (zv_X × Int32)} (hd : 8 ≤ d) {N : Nat} (l0 : Nat) (l1 : Int32) (l2 : Int64) (l4 : Int64) (l6 : Int32) (s0 : Int32) (s1 : Nat) (x : zv_X) (h : mX9_run_35 N l0 l1 l2 l4 l6 s0 s1 x = some o) : zv_V (fX9_run d x0 o) 35 [(0, .ref l0), (1, .int l1), (2, .long l2), (4, .long l4), (6, .int l6)] [.int s0, .ref s1] x := by
  unfold mX9_run_35 at h
  refine zr_p dX9_run_35 fl_1403 (fun q => nomatch q) rfl rfl h (fun x1 e2 h => ?_)
  refine zv_aload_n (n := 0) dX9_run_38 rfl rfl ?_
  refine zr_gI dX9_run_39 fg_1403 h (fun v3 e4 h => ?_)
  refine zr_if_le (tgt := 47) dX9_run_42 (by decide) h (fun c9 h => ?_) (fun c9 h => ?_)
  · refine zv_aload_n (n := 0) dX9_run_47 rfl rfl ?_
    refine zv_iconst (v := 0) dX9_run_48 (by decide) ?_
    refine zr_p dX9_run_49 fl_1439 (fun q => nomatch q) rfl rfl h (fun x5 e6 h => ?_)
    refine zv_aload_n (n := 0) dX9_run_52 rfl rfl ?_
    refine zv_iconst (v := 0) dX9_run_53 (by decide) ?_
    refine zr_p dX9_run_54 fl_1441 (fun q => nomatch q) rfl rfl h (fun x7 e8 h => ?_)
    refine zv_iconst (v := 0) dX9_run_57 (by decide) ?_
    refine zv_istore (L' := [(7, .int (0 : Int32)), (0, .ref l0), (1, .int l1), (2, .long l2), (4, .long l4), (6, .int l6)]) dX9_run_58 (Nat.le_of_ble_eq_true rfl) rfl ?_
    exact zv_fewer [1, 2, 3, 4, 5, 0] rfl (kX9_run_60 hd N _ _ _ _ _ _ _ h)
  · refine zv_iconst (v := 0) dX9_run_45 (by decide) ?_
    cases h
    exact zv_iret dX9_run_46 rfl
def mX9_run_13 (N : Nat) (l0 : Nat) (l1 : Int32) (l2 : Int64) (l4 : Int64) (l6 : Int32) (s0 : Nat) (x : zv_X) : Option (zv_X × Int32) := mX9_run_35 N l0 l1 l2 l4 l6 (1 : Int32) s0 x
theorem kX9_run_13 {d : Nat} {x0 : zv_X} {o : (zv_X × Int32)} (hd : 8 ≤ d) {N : Nat} (l0 : Nat) (l1 : Int32) (l2 : Int64) (l4 : Int64) (l6 : Int32) (s0 : Nat) (x : zv_X) (h : mX9_run_13 N l0 l1 l2 l4 l6 s0 x = some o) : zv_V (fX9_run d x0 o) 13 [(0, .ref l0), (1, .int l1), (2, .long l2), (4, .long l4), (6, .int l6)] [.ref s0] x := by
  unfold mX9_run_13 at h
  refine zv_iconst (v := 1) dX9_run_13 (by decide) ?_
  refine zv_goto (tgt := 35) dX9_run_14 (by decide) ?_
  exact kX9_run_35 hd _ _ _ _ _ _ _ _ h
def mX9_run_30 (N : Nat) (l0 : Nat) (l1 : Int32) (l2 : Int64) (l4 : Int64) (l6 : Int32) (s0 : Nat) (x : zv_X) : Option (zv_X × Int32) := mX9_run_35 N l0 l1 l2 l4 l6 (2 : Int32) s0 x
theorem kX9_run_30 {d : Nat} {x0 : zv_X} {o : (zv_X × Int32)} (hd : 8 ≤ d) {N : Nat} (l0 : Nat) (l1 : Int32) (l2 : Int64) (l4 : Int64) (l6 : Int32) (s0 : Nat) (x : zv_X) (h : mX9_run_30 N l0 l1 l2 l4 l6 s0 x = some o) : zv_V (fX9_run d x0 o) 30 [(0, .ref l0), (1, .int l1), (2, .long l2), (4, .long l4), (6, .int l6)] [.ref s0] x := by
  unfold mX9_run_30 at h
  refine zv_iconst (v := 2) dX9_run_30 (by decide) ?_
  refine zv_goto (tgt := 35) dX9_run_31 (by decide) ?_
  exact kX9_run_35 hd _ _ _ _ _ _ _ _ h
def mX9_run_0 (N : Nat) (l0 : Nat) (l1 : Int32) (l2 : Int64) (l4 : Int64) (l6 : Int32) (x : zv_X) : Option (zv_X × Int32) := if l1 < 0 then (mX9_run_13 N l0 l1 l2 l4 l6 l0 x) else ((zm_I x l0 9 19).bind fun v1 => if l1 < v1 then (if l6 < 0 then (mX9_run_30 N l0 l1 l2 l4 l6 l0 x) else (if l6 ≤ (20000 : Int32) then (mX9_run_35 N l0 l1 l2 l4 l6 (0 : Int32) l0 x) else (mX9_run_30 N l0 l1 l2 l4 l6 l0 x))) else (mX9_run_13 N l0 l1 l2 l4 l6 l0 x))
theorem kX9_run_0 {d : Nat} {x0 : zv_X} {o : (zv_X × Int32)} (hd : 8 ≤ d) {N : Nat} (l0 : Nat) (l1 : Int32) (l2 : Int64) (l4 : Int64) (l6 : Int32) (x : zv_X) (h : mX9_run_0 N l0 l1 l2 l4 l6 x = some o) : zv_V (fX9_run d x0 o) 0 [(0, .ref l0), (1, .int l1), (2, .long l2), (4, .long l4), (6, .int l6)] [] x := by
  unfold mX9_run_0 at h
  refine zv_aload_n (n := 0) dX9_run_0 rfl rfl ?_
  refine zv_iload_n (n := 1) dX9_run_1 rfl rfl ?_
  refine zr_if_lt (tgt := 13) dX9_run_2 (by decide) h (fun c6 h => ?_) (fun c6 h => ?_)
  · exact kX9_run_13 hd _ _ _ _ _ _ _ h
  · refine zv_iload_n (n := 1) dX9_run_5 rfl rfl ?_
    refine zv_aload_n (n := 0) dX9_run_6 rfl rfl ?_
    refine zr_gI dX9_run_7 fg_1422 h (fun v1 e2 h => ?_)
    refine zr_icmp_lt (tgt := 17) dX9_run_10 (by decide) h (fun c5 h => ?_) (fun c5 h => ?_)
    · refine zv_iload (n := 4) dX9_run_17 rfl ?_
      refine zr_if_lt (tgt := 30) dX9_run_19 (by decide) h (fun c4 h => ?_) (fun c4 h => ?_)
      · exact kX9_run_30 hd _ _ _ _ _ _ _ h
      · refine zv_iload (n := 4) dX9_run_22 rfl ?_
        refine zv_sipush (v := 20000) dX9_run_24 (by decide) ?_
        refine zr_icmp_le (tgt := 34) dX9_run_27 (by decide) h (fun c3 h => ?_) (fun c3 h => ?_)
        · refine zv_iconst (v := 0) dX9_run_34 (by decide) ?_
          exact kX9_run_35 hd _ _ _ _ _ _ _ _ h
        · exact kX9_run_30 hd _ _ _ _ _ _ _ h
    · exact kX9_run_13 hd _ _ _ _ _ _ _ h
def mX9_run (N : Nat) (a0 : Nat) (a1 : Int32) (a2 : Int64) (a3 : Int64) (a4 : Int32) (x : zv_X) : Option (zv_X × Int32) := mX9_run_0 N a0 a1 a2 a3 a4 x
theorem tX9_run {d : Nat} (hd : 8 ≤ d) {N : Nat} {x : zv_X} {a0 : Nat} {a1 : Int32} {a2 : Int64} {a3 : Int64} {a4 : Int32} {o : (zv_X × Int32)} (h : mX9_run N a0 a1 a2 a3 a4 x = some o) : zv_T d yX9_run cX9_run 12 ((some .int)) [.ref a0, .int a1, .long a2, .long a3, .int a4] x o.1 (some (.int o.2)) := by
  unfold mX9_run at h
  exact zv_enter (by decide) (Nat.le_of_ble_eq_true rfl) (kX9_run_0 hd _ _ _ _ _ _ h)

abbrev fX9_result (d : Nat) (x0 : zv_X) (o : (zv_X × Int64)) : zv_G := (d, RX9, cX9_result, 1, (some .long), ("result", []), x0, o.1, zv_fin x0 o.1 (some (.long o.2)))
def mX9_result_0 (N : Nat) (l0 : Nat) (x : zv_X) : Option (zv_X × Int64) := (zm_p x l0 9 0 (.int (0 : Int32))).bind fun x1 => (zm_L x1 l0 9 50).bind fun v3 => some (x1, v3)
theorem kX9_result_0 {d : Nat} {x0 : zv_X} {o : (zv_X × Int64)} (hd : 0 ≤ d) {N : Nat} (l0 : Nat) (x : zv_X) (h : mX9_result_0 N l0 x = some o) : zv_V (fX9_result d x0 o) 0 [(0, .ref l0)] [] x := by
  unfold mX9_result_0 at h
  refine zv_aload_n (n := 0) dX9_result_0 rfl rfl ?_
  refine zv_iconst (v := 0) dX9_result_1 (by decide) ?_
  refine zr_p dX9_result_2 fl_1403 (fun q => nomatch q) rfl rfl h (fun x1 e2 h => ?_)
  refine zv_aload_n (n := 0) dX9_result_5 rfl rfl ?_
  refine zr_gL dX9_result_6 fg_1453 h (fun v3 e4 h => ?_)
  cases h
  exact zv_lret dX9_result_9 rfl
def mX9_result (N : Nat) (a0 : Nat) (x : zv_X) : Option (zv_X × Int64) := mX9_result_0 N a0 x
theorem tX9_result {d : Nat} (hd : 0 ≤ d) {N : Nat} {x : zv_X} {a0 : Nat} {o : (zv_X × Int64)} (h : mX9_result N a0 x = some o) : zv_T d yX9_result cX9_result 1 ((some .long)) [.ref a0] x o.1 (some (.long o.2)) := by
  unfold mX9_result at h
  exact zv_enter (by decide) (Nat.le_of_ble_eq_true rfl) (kX9_result_0 hd _ _ h)

abbrev fX9_steps (d : Nat) (x0 : zv_X) (o : (zv_X × Int32)) : zv_G := (d, RX9, cX9_steps, 1, (some .int), ("steps", []), x0, o.1, zv_fin x0 o.1 (some (.int o.2)))
def mX9_steps_0 (N : Nat) (l0 : Nat) (x : zv_X) : Option (zv_X × Int32) := (zm_p x l0 9 0 (.int (0 : Int32))).bind fun x1 => (zm_I x1 l0 9 51).bind fun v3 => some (x1, v3)
theorem kX9_steps_0 {d : Nat} {x0 : zv_X} {o : (zv_X × Int32)} (hd : 0 ≤ d) {N : Nat} (l0 : Nat) (x : zv_X) (h : mX9_steps_0 N l0 x = some o) : zv_V (fX9_steps d x0 o) 0 [(0, .ref l0)] [] x := by
  unfold mX9_steps_0 at h
  refine zv_aload_n (n := 0) dX9_steps_0 rfl rfl ?_
  refine zv_iconst (v := 0) dX9_steps_1 (by decide) ?_
  refine zr_p dX9_steps_2 fl_1403 (fun q => nomatch q) rfl rfl h (fun x1 e2 h => ?_)
  refine zv_aload_n (n := 0) dX9_steps_5 rfl rfl ?_
  refine zr_gI dX9_steps_6 fg_1454 h (fun v3 e4 h => ?_)
  cases h
  exact zv_iret dX9_steps_9 rfl
def mX9_steps (N : Nat) (a0 : Nat) (x : zv_X) : Option (zv_X × Int32) := mX9_steps_0 N a0 x
theorem tX9_steps {d : Nat} (hd : 0 ≤ d) {N : Nat} {x : zv_X} {a0 : Nat} {o : (zv_X × Int32)} (h : mX9_steps N a0 x = some o) : zv_T d yX9_steps cX9_steps 1 ((some .int)) [.ref a0] x o.1 (some (.int o.2)) := by
  unfold mX9_steps at h
  exact zv_enter (by decide) (Nat.le_of_ble_eq_true rfl) (kX9_steps_0 hd _ _ h)

abbrev fX9_count (d : Nat) (x0 : zv_X) (o : (zv_X × Int32)) : zv_G := (d, RX9, cX9_count, 2, (some .int), ("count", []), x0, o.1, zv_fin x0 o.1 (some (.int o.2)))
def mX9_count_78 (N : Nat) (s0 : Int32) (x : zv_X) : Option (zv_X × Int32) := some (x, s0)
theorem kX9_count_78 {d : Nat} {x0 : zv_X} {o : (zv_X × Int32)} (hd : 0 ≤ d) {N : Nat} (s0 : Int32) (x : zv_X) (h : mX9_count_78 N s0 x = some o) : zv_V (fX9_count d x0 o) 78 [] [.int s0] x := by
  unfold mX9_count_78 at h
  cases h
  exact zv_iret dX9_count_78 rfl
def mX9_count_15 (N : Nat) (l0 : Nat) (l1 : Int32) (s0 : Int32) (s1 : Nat) (x : zv_X) : Option (zv_X × Int32) := (zm_p x s1 9 0 (.int s0)).bind fun x1 => (zm_I x1 l0 9 0).bind fun v3 => if v3 ≤ 0 then (if l1 = 0 then ((zm_I x1 l0 9 5).bind fun v16 => mX9_count_78 N v16 x1) else (if l1 = (1 : Int32) then ((zm_I x1 l0 9 19).bind fun v13 => mX9_count_78 N v13 x1) else (if l1 = (2 : Int32) then ((zm_I x1 l0 9 7).bind fun v10 => mX9_count_78 N v10 x1) else (if l1 = (3 : Int32) then ((zm_I x1 l0 9 52).bind fun v7 => mX9_count_78 N v7 x1) else ((zm_I x1 l0 9 53).bind fun v5 => mX9_count_78 N v5 x1))))) else (some (x1, (0 : Int32)))
theorem kX9_count_15 {d : Nat} {x0 : zv_X} {o : (zv_X × Int32)} (hd : 0 ≤ d) {N : Nat} (l0 : Nat) (l1 : Int32) (s0 : Int32) (s1 : Nat) (x : zv_X) (h : mX9_count_15 N l0 l1 s0 s1 x = some o) : zv_V (fX9_count d x0 o) 15 [(0, .ref l0), (1, .int l1)] [.int s0, .ref s1] x := by
  unfold mX9_count_15 at h
  refine zr_p dX9_count_15 fl_1403 (fun q => nomatch q) rfl rfl h (fun x1 e2 h => ?_)
  refine zv_aload_n (n := 0) dX9_count_18 rfl rfl ?_
  refine zr_gI dX9_count_19 fg_1403 h (fun v3 e4 h => ?_)
  refine zr_if_le (tgt := 27) dX9_count_22 (by decide) h (fun c19 h => ?_) (fun c19 h => ?_)
  · refine zv_iload_n (n := 1) dX9_count_27 rfl rfl ?_
    refine zr_if_ne (tgt := 38) dX9_count_28 (by decide) h (fun c18 h => ?_) (fun c18 h => ?_)
    · refine zv_iload_n (n := 1) dX9_count_38 rfl rfl ?_
      refine zv_iconst (v := 1) dX9_count_39 (by decide) ?_
      refine zr_icmp_ne (tgt := 50) dX9_count_40 (by decide) h (fun c15 h => ?_) (fun c15 h => ?_)
      · refine zv_iload_n (n := 1) dX9_count_50 rfl rfl ?_
        refine zv_iconst (v := 2) dX9_count_51 (by decide) ?_
        refine zr_icmp_ne (tgt := 62) dX9_count_52 (by decide) h (fun c12 h => ?_) (fun c12 h => ?_)
        · refine zv_iload_n (n := 1) dX9_count_62 rfl rfl ?_
          refine zv_iconst (v := 3) dX9_count_63 (by decide) ?_
          refine zr_icmp_ne (tgt := 74) dX9_count_64 (by decide) h (fun c9 h => ?_) (fun c9 h => ?_)
          · refine zv_aload_n (n := 0) dX9_count_74 rfl rfl ?_
            refine zr_gI dX9_count_75 fg_1456 h (fun v5 e6 h => ?_)
            exact zv_fewer [] rfl (kX9_count_78 hd _ _ h)
          · refine zv_aload_n (n := 0) dX9_count_67 rfl rfl ?_
            refine zr_gI dX9_count_68 fg_1455 h (fun v7 e8 h => ?_)
            refine zv_goto (tgt := 78) dX9_count_71 (by decide) ?_
            exact zv_fewer [] rfl (kX9_count_78 hd _ _ h)
        · refine zv_aload_n (n := 0) dX9_count_55 rfl rfl ?_
          refine zr_gI dX9_count_56 fg_1410 h (fun v10 e11 h => ?_)
          refine zv_goto (tgt := 78) dX9_count_59 (by decide) ?_
          exact zv_fewer [] rfl (kX9_count_78 hd _ _ h)
      · refine zv_aload_n (n := 0) dX9_count_43 rfl rfl ?_
        refine zr_gI dX9_count_44 fg_1422 h (fun v13 e14 h => ?_)
        refine zv_goto (tgt := 78) dX9_count_47 (by decide) ?_
        exact zv_fewer [] rfl (kX9_count_78 hd _ _ h)
    · refine zv_aload_n (n := 0) dX9_count_31 rfl rfl ?_
      refine zr_gI dX9_count_32 fg_1408 h (fun v16 e17 h => ?_)
      refine zv_goto (tgt := 78) dX9_count_35 (by decide) ?_
      exact zv_fewer [] rfl (kX9_count_78 hd _ _ h)
  · refine zv_iconst (v := 0) dX9_count_25 (by decide) ?_
    cases h
    exact zv_iret dX9_count_26 rfl
def mX9_count_10 (N : Nat) (l0 : Nat) (l1 : Int32) (s0 : Nat) (x : zv_X) : Option (zv_X × Int32) := mX9_count_15 N l0 l1 (1 : Int32) s0 x
theorem kX9_count_10 {d : Nat} {x0 : zv_X} {o : (zv_X × Int32)} (hd : 0 ≤ d) {N : Nat} (l0 : Nat) (l1 : Int32) (s0 : Nat) (x : zv_X) (h : mX9_count_10 N l0 l1 s0 x = some o) : zv_V (fX9_count d x0 o) 10 [(0, .ref l0), (1, .int l1)] [.ref s0] x := by
  unfold mX9_count_10 at h
  refine zv_iconst (v := 1) dX9_count_10 (by decide) ?_
  refine zv_goto (tgt := 15) dX9_count_11 (by decide) ?_
  exact kX9_count_15 hd _ _ _ _ _ h
def mX9_count_0 (N : Nat) (l0 : Nat) (l1 : Int32) (x : zv_X) : Option (zv_X × Int32) := if l1 < 0 then (mX9_count_10 N l0 l1 l0 x) else (if l1 ≤ (4 : Int32) then (mX9_count_15 N l0 l1 (0 : Int32) l0 x) else (mX9_count_10 N l0 l1 l0 x))
theorem kX9_count_0 {d : Nat} {x0 : zv_X} {o : (zv_X × Int32)} (hd : 0 ≤ d) {N : Nat} (l0 : Nat) (l1 : Int32) (x : zv_X) (h : mX9_count_0 N l0 l1 x = some o) : zv_V (fX9_count d x0 o) 0 [(0, .ref l0), (1, .int l1)] [] x := by
  unfold mX9_count_0 at h
  refine zv_aload_n (n := 0) dX9_count_0 rfl rfl ?_
  refine zv_iload_n (n := 1) dX9_count_1 rfl rfl ?_
  refine zr_if_lt (tgt := 10) dX9_count_2 (by decide) h (fun c2 h => ?_) (fun c2 h => ?_)
  · exact kX9_count_10 hd _ _ _ _ h
  · refine zv_iload_n (n := 1) dX9_count_5 rfl rfl ?_
    refine zv_iconst (v := 4) dX9_count_6 (by decide) ?_
    refine zr_icmp_le (tgt := 14) dX9_count_7 (by decide) h (fun c1 h => ?_) (fun c1 h => ?_)
    · refine zv_iconst (v := 0) dX9_count_14 (by decide) ?_
      exact kX9_count_15 hd _ _ _ _ _ h
    · exact kX9_count_10 hd _ _ _ _ h
def mX9_count (N : Nat) (a0 : Nat) (a1 : Int32) (x : zv_X) : Option (zv_X × Int32) := mX9_count_0 N a0 a1 x
theorem tX9_count {d : Nat} (hd : 0 ≤ d) {N : Nat} {x : zv_X} {a0 : Nat} {a1 : Int32} {o : (zv_X × Int32)} (h : mX9_count N a0 a1 x = some o) : zv_T d yX9_count cX9_count 2 ((some .int)) [.ref a0, .int a1] x o.1 (some (.int o.2)) := by
  unfold mX9_count at h
  exact zv_enter (by decide) (Nat.le_of_ble_eq_true rfl) (kX9_count_0 hd _ _ _ h)
