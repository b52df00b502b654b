abbrev fX4_step (d : Nat) (x0 : zv_X) (o : (zv_X × Int32)) : zv_G := (d, RX4, cX4_step, 2, (some .int), ("step", []), x0, o.1, zv_fin x0 o.1 (some (.int o.2)))
def mX4_step_107 (N : Nat) (l0 : Nat) (l1 : Int32) (x : zv_X) : Option (zv_X × Int32) := if zm_k x l0 4 = true then ((mX4_branch N l0 l1 x).bind fun o1 => some (o1.1, o1.2)) else none
theorem kX4_step_107 {d : Nat} {x0 : zv_X} {o : (zv_X × Int32)} (hd : 5 ≤ d) {N : Nat} (l0 : Nat) (l1 : Int32) (x : zv_X) (h : mX4_step_107 N l0 l1 x = some o) : zv_V (fX4_step d x0 o) 107 [(0, .ref l0), (1, .int l1)] [] x := by
  unfold mX4_step_107 at h
  refine zv_aload_n (n := 0) dX4_step_107 rfl rfl ?_
  refine zv_iload_n (n := 1) dX4_step_108 rfl rfl ?_
  refine zr_cVi (ci := 4) (st := []) dX4_step_109 mw_X4_branch wd_1242 wd_1244 wd_32 rfl rfl [.int l1] rfl rfl (Nat.le_of_ble_eq_true rfl) (show d - 1 + 1 ≤ d by omega) h (fun o1 e2 => tX4_branch (d := d - 1) (by omega) e2) (fun o1 e2 h => ?_)
  cases h
  exact zv_iret dX4_step_112 rfl
def mX4_step_249 (N : Nat) (l0 : Nat) (x : zv_X) : Option (zv_X × Int32) := if zm_k x l0 4 = true then ((mX4_tellWhetherOf N l0 x).bind fun o1 => some (o1.1, o1.2)) else none
theorem kX4_step_249 {d : Nat} {x0 : zv_X} {o : (zv_X × Int32)} (hd : 5 ≤ d) {N : Nat} (l0 : Nat) (x : zv_X) (h : mX4_step_249 N l0 x = some o) : zv_V (fX4_step d x0 o) 249 [(0, .ref l0)] [] x := by
  unfold mX4_step_249 at h
  refine zv_aload_n (n := 0) dX4_step_249 rfl rfl ?_
  refine zr_cVi (ci := 4) (st := []) dX4_step_250 mw_X4_tellWhetherOf wd_1381 wd_1383 wd_48 rfl rfl [] rfl rfl (Nat.le_of_ble_eq_true rfl) (show d - 1 + 1 ≤ d by omega) h (fun o1 e2 => tX4_tellWhetherOf (d := d - 1) (by omega) e2) (fun o1 e2 h => ?_)
  cases h
  exact zv_iret dX4_step_253 rfl
def mX4_step_0 (N : Nat) (l0 : Nat) (x : zv_X) : Option (zv_X × Int32) := (zm_R x l0 4 5).bind fun v1 => if zm_k x v1 1 = true then ((mX1_opcode N v1 x).bind fun o3 => if (25 : Int32) < o3.2 then (if (53 : Int32) < o3.2 then (if (58 : Int32) < o3.2 then (if (86 : Int32) < o3.2 then (if (95 : Int32) < o3.2 then (if (131 : Int32) < o3.2 then (if (148 : Int32) < o3.2 then (if o3.2 ≤ (167 : Int32) then (mX4_step_107 N l0 o3.2 o3.1) else (if o3.2 < (198 : Int32) then (if (177 : Int32) < o3.2 then (if o3.2 = (180 : Int32) then (if zm_k o3.1 l0 4 = true then ((mX4_readField N l0 o3.1).bind fun o5 => some (o5.1, o5.2)) else none) else if o3.2 = (181 : Int32) then (if zm_k o3.1 l0 4 = true then ((mX4_writeField N l0 o3.1).bind fun o8 => some (o8.1, o8.2)) else none) else if o3.2 = (182 : Int32) then (mX4_step_249 N l0 o3.1) else if o3.2 = (183 : Int32) then (mX4_step_249 N l0 o3.1) else if o3.2 = (184 : Int32) then (if zm_k o3.1 l0 4 = true then ((mX4_call N l0 o3.1).bind fun o13 => some (o13.1, o13.2)) else none) else if o3.2 = (185 : Int32) then (mX4_step_249 N l0 o3.1) else if o3.2 = (186 : Int32) then (mX4_step_249 N l0 o3.1) else if o3.2 = (187 : Int32) then (if zm_k o3.1 l0 4 = true then ((mX4_makeObject N l0 o3.1).bind fun o18 => some (o18.1, o18.2)) else none) else if o3.2 = (188 : Int32) then ((zm_R o3.1 l0 4 5).bind fun v21 => if zm_k o3.1 v21 1 = true then ((mX1_operand N v21 (1 : Int32) o3.1).bind fun o23 => if zm_k o23.1 l0 4 = true then ((mX4_makeArray N l0 o23.2 (2 : Int32) o23.1).bind fun o25 => some (o25.1, o25.2)) else none) else none) else if o3.2 = (189 : Int32) then (if zm_k o3.1 l0 4 = true then ((mX4_makeArray N l0 (12 : Int32) (1 : Int32) o3.1).bind fun o28 => some (o28.1, o28.2)) else none) else if o3.2 = (190 : Int32) then (if zm_k o3.1 l0 4 = true then ((mX4_tellLength N l0 o3.1).bind fun o31 => some (o31.1, o31.2)) else none) else if o3.2 = (191 : Int32) then (if zm_k o3.1 l0 4 = true then ((mX4_throwTop N l0 o3.1).bind fun o34 => some (o34.1, o34.2)) else none) else if o3.2 = (192 : Int32) then (if zm_k o3.1 l0 4 = true then ((mX4_cast N l0 o3.1).bind fun o37 => some (o37.1, o37.2)) else none) else (mX4_step_249 N l0 o3.1)) else (if zm_k o3.1 l0 4 = true then ((mX4_leave N l0 o3.2 o3.1).bind fun o40 => some (o40.1, o40.2)) else none)) else (mX4_step_107 N l0 o3.2 o3.1))) else (if zm_k o3.1 l0 4 = true then ((mX4_convert N l0 o3.2 o3.1).bind fun o45 => some (o45.1, o45.2)) else none)) else (if zm_k o3.1 l0 4 = true then ((mX4_reckon N l0 o3.2 o3.1).bind fun o48 => some (o48.1, o48.2)) else none)) else (if zm_k o3.1 l0 4 = true then ((mX4_shuffle N l0 o3.2 o3.1).bind fun o51 => some (o51.1, o51.2)) else none)) else (if zm_k o3.1 l0 4 = true then ((mX4_storeElement N l0 o3.2 o3.1).bind fun o54 => some (o54.1, o54.2)) else none)) else (if zm_k o3.1 l0 4 = true then ((mX4_storeLocal N l0 o3.1).bind fun o57 => some (o57.1, o57.2)) else none)) else (if zm_k o3.1 l0 4 = true then ((mX4_loadElement N l0 o3.2 o3.1).bind fun o60 => some (o60.1, o60.2)) else none)) else (if zm_k o3.1 l0 4 = true then ((mX4_push N l0 o3.2 o3.1).bind fun o63 => some (o63.1, o63.2)) else none)) else none
theorem kX4_step_0 {d : Nat} {x0 : zv_X} {o : (zv_X × Int32)} (hd : 5 ≤ d) {N : Nat} (l0 : Nat) (x : zv_X) (h : mX4_step_0 N l0 x = some o) : zv_V (fX4_step d x0 o) 0 [(0, .ref l0)] [] x := by
  unfold mX4_step_0 at h
  refine zv_aload_n (n := 0) dX4_step_0 rfl rfl ?_
  refine zr_gR dX4_step_1 fg_371 h (fun v1 e2 h => ?_)
  refine zr_cVi (ci := 1) (st := []) dX4_step_4 mw_X1_opcode wd_1108 wd_1109 wd_1110 rfl rfl [] rfl rfl (Nat.le_of_ble_eq_true rfl) (show d - 1 + 1 ≤ d by omega) h (fun o3 e4 => tX1_opcode (d := d - 1) (by omega) e4) (fun o3 e4 h => ?_)
  refine zv_istore_n (L' := [(1, .int o3.2), (0, .ref l0)]) dX4_step_7 rfl (Nat.le_of_ble_eq_true rfl) rfl ?_
  refine zv_iload_n (n := 0) dX4_step_8 rfl rfl ?_
  refine zv_bipush (v := 25) dX4_step_9 (by decide) ?_
  refine zr_icmp_gt (tgt := 20) dX4_step_11 (by decide) h (fun c65 h => ?_) (fun c65 h => ?_)
  · refine zv_iload_n (n := 0) dX4_step_20 rfl rfl ?_
    refine zv_bipush (v := 53) dX4_step_21 (by decide) ?_
    refine zr_icmp_gt (tgt := 32) dX4_step_23 (by decide) h (fun c62 h => ?_) (fun c62 h => ?_)
    · refine zv_iload_n (n := 0) dX4_step_32 rfl rfl ?_
      refine zv_bipush (v := 58) dX4_step_33 (by decide) ?_
      refine zr_icmp_gt (tgt := 43) dX4_step_35 (by decide) h (fun c59 h => ?_) (fun c59 h => ?_)
      · refine zv_iload_n (n := 0) dX4_step_43 rfl rfl ?_
        refine zv_bipush (v := 86) dX4_step_44 (by decide) ?_
        refine zr_icmp_gt (tgt := 55) dX4_step_46 (by decide) h (fun c56 h => ?_) (fun c56 h => ?_)
        · refine zv_iload_n (n := 0) dX4_step_55 rfl rfl ?_
          refine zv_bipush (v := 95) dX4_step_56 (by decide) ?_
          refine zr_icmp_gt (tgt := 67) dX4_step_58 (by decide) h (fun c53 h => ?_) (fun c53 h => ?_)
          · refine zv_iload_n (n := 0) dX4_step_67 rfl rfl ?_
            refine zv_sipush (v := 131) dX4_step_68 (by decide) ?_
            refine zr_icmp_gt (tgt := 80) dX4_step_71 (by decide) h (fun c50 h => ?_) (fun c50 h => ?_)
            · refine zv_iload_n (n := 0) dX4_step_80 rfl rfl ?_
              refine zv_sipush (v := 148) dX4_step_81 (by decide) ?_
              refine zr_icmp_gt (tgt := 93) dX4_step_84 (by decide) h (fun c47 h => ?_) (fun c47 h => ?_)
              · refine zv_iload_n (n := 0) dX4_step_93 rfl rfl ?_
                refine zv_sipush (v := 167) dX4_step_94 (by decide) ?_
                refine zr_icmp_le (tgt := 107) dX4_step_97 (by decide) h (fun c44 h => ?_) (fun c44 h => ?_)
                · exact zv_fewer [1, 0] rfl (kX4_step_107 hd _ _ _ h)
                · refine zv_iload_n (n := 0) dX4_step_100 rfl rfl ?_
                  refine zv_sipush (v := 198) dX4_step_101 (by decide) ?_
                  refine zr_icmp_lt (tgt := 113) dX4_step_104 (by decide) h (fun c43 h => ?_) (fun c43 h => ?_)
                  · refine zv_iload_n (n := 0) dX4_step_113 rfl rfl ?_
                    refine zv_sipush (v := 177) dX4_step_114 (by decide) ?_
                    refine zr_icmp_gt (tgt := 126) dX4_step_117 (by decide) h (fun c42 h => ?_) (fun c42 h => ?_)
                    · refine zv_iload_n (n := 0) dX4_step_126 rfl rfl ?_
                      rcases zif h with ⟨c7, h⟩ | ⟨c7, h⟩
                      · refine zr_tabIn (tgt := 192) (off := 65) c7 dX4_step_127 (by decide) (by decide) (by decide) (by decide) ?_
                        refine zv_aload_n (n := 1) dX4_step_192 rfl rfl ?_
                        refine zr_cVi (ci := 4) (st := []) dX4_step_193 mw_X4_readField wd_1253 wd_1255 wd_34 rfl rfl [] rfl rfl (Nat.le_of_ble_eq_true rfl) (show d - 1 + 1 ≤ d by omega) h (fun o5 e6 => tX4_readField (d := d - 1) (by omega) e6) (fun o5 e6 h => ?_)
                        cases h
                        exact zv_iret dX4_step_196 rfl
                      rcases zif h with ⟨c10, h⟩ | ⟨c10, h⟩
                      · refine zr_tabIn (tgt := 197) (off := 70) c10 dX4_step_127 (by decide) (by decide) (by decide) (by decide) ?_
                        refine zv_aload_n (n := 1) dX4_step_197 rfl rfl ?_
                        refine zr_cVi (ci := 4) (st := []) dX4_step_198 mw_X4_writeField wd_1274 wd_1276 wd_37 rfl rfl [] rfl rfl (Nat.le_of_ble_eq_true rfl) (show d - 1 + 1 ≤ d by omega) h (fun o8 e9 => tX4_writeField (d := d - 1) (by omega) e9) (fun o8 e9 h => ?_)
                        cases h
                        exact zv_iret dX4_step_201 rfl
                      rcases zif h with ⟨c11, h⟩ | ⟨c11, h⟩
                      · refine zr_tabIn (tgt := 249) (off := 122) c11 dX4_step_127 (by decide) (by decide) (by decide) (by decide) ?_
                        exact zv_fewer [1] rfl (kX4_step_249 hd _ _ h)
                      rcases zif h with ⟨c12, h⟩ | ⟨c12, h⟩
                      · refine zr_tabIn (tgt := 249) (off := 122) c12 dX4_step_127 (by decide) (by decide) (by decide) (by decide) ?_
                        exact zv_fewer [1] rfl (kX4_step_249 hd _ _ h)
                      rcases zif h with ⟨c15, h⟩ | ⟨c15, h⟩
                      · refine zr_tabIn (tgt := 202) (off := 75) c15 dX4_step_127 (by decide) (by decide) (by decide) (by decide) ?_
                        refine zv_aload_n (n := 1) dX4_step_202 rfl rfl ?_
                        refine zr_cVi (ci := 4) (st := []) dX4_step_203 mw_X4_call wd_1282 wd_1284 wd_38 rfl rfl [] rfl rfl (Nat.le_of_ble_eq_true rfl) (show d - 1 + 1 ≤ d by omega) h (fun o13 e14 => tX4_call (d := d - 1) (by omega) e14) (fun o13 e14 h => ?_)
                        cases h
                        exact zv_iret dX4_step_206 rfl
                      rcases zif h with ⟨c16, h⟩ | ⟨c16, h⟩
                      · refine zr_tabIn (tgt := 249) (off := 122) c16 dX4_step_127 (by decide) (by decide) (by decide) (by decide) ?_
                        exact zv_fewer [1] rfl (kX4_step_249 hd _ _ h)
                      rcases zif h with ⟨c17, h⟩ | ⟨c17, h⟩
                      · refine zr_tabIn (tgt := 249) (off := 122) c17 dX4_step_127 (by decide) (by decide) (by decide) (by decide) ?_
                        exact zv_fewer [1] rfl (kX4_step_249 hd _ _ h)
                      rcases zif h with ⟨c20, h⟩ | ⟨c20, h⟩
                      · refine zr_tabIn (tgt := 207) (off := 80) c20 dX4_step_127 (by decide) (by decide) (by decide) (by decide) ?_
                        refine zv_aload_n (n := 1) dX4_step_207 rfl rfl ?_
                        refine zr_cVi (ci := 4) (st := []) dX4_step_208 mw_X4_makeObject wd_1292 wd_1294 wd_39 rfl rfl [] rfl rfl (Nat.le_of_ble_eq_true rfl) (show d - 1 + 1 ≤ d by omega) h (fun o18 e19 => tX4_makeObject (d := d - 1) (by omega) e19) (fun o18 e19 h => ?_)
                        cases h
                        exact zv_iret dX4_step_211 rfl
                      rcases zif h with ⟨c27, h⟩ | ⟨c27, h⟩
                      · refine zr_tabIn (tgt := 212) (off := 85) c27 dX4_step_127 (by decide) (by decide) (by decide) (by decide) ?_
                        refine zv_aload_n (n := 1) dX4_step_212 rfl rfl ?_
                        refine zv_aload_n (n := 1) dX4_step_213 rfl rfl ?_
                        refine zr_gR dX4_step_214 fg_371 h (fun v21 e22 h => ?_)
                        refine zv_iconst (v := 1) dX4_step_217 (by decide) ?_
                        refine zr_cVi (ci := 1) (st := [.ref l0]) dX4_step_218 mw_X1_operand wd_1130 wd_1131 wd_1132 rfl rfl [.int (1 : Int32)] rfl rfl (Nat.le_of_ble_eq_true rfl) (show d - 1 + 1 ≤ d by omega) h (fun o23 e24 => tX1_operand (d := d - 1) (by omega) e24) (fun o23 e24 h => ?_)
                        refine zv_iconst (v := 2) dX4_step_221 (by decide) ?_
                        refine zr_cVi (ci := 4) (st := []) dX4_step_222 mw_X4_makeArray wd_1337 wd_1339 wd_43 rfl rfl [.int o23.2, .int (2 : Int32)] rfl rfl (Nat.le_of_ble_eq_true rfl) (show d - 1 + 1 ≤ d by omega) h (fun o25 e26 => tX4_makeArray (d := d - 1) (by omega) e26) (fun o25 e26 h => ?_)
                        cases h
                        exact zv_iret dX4_step_225 rfl
                      rcases zif h with ⟨c30, h⟩ | ⟨c30, h⟩
                      · refine zr_tabIn (tgt := 226) (off := 99) c30 dX4_step_127 (by decide) (by decide) (by decide) (by decide) ?_
                        refine zv_aload_n (n := 1) dX4_step_226 rfl rfl ?_
                        refine zv_bipush (v := 12) dX4_step_227 (by decide) ?_
                        refine zv_iconst (v := 1) dX4_step_229 (by decide) ?_
                        refine zr_cVi (ci := 4) (st := []) dX4_step_230 mw_X4_makeArray wd_1337 wd_1339 wd_43 rfl rfl [.int (12 : Int32), .int (1 : Int32)] rfl rfl (Nat.le_of_ble_eq_true rfl) (show d - 1 + 1 ≤ d by omega) h (fun o28 e29 => tX4_makeArray (d := d - 1) (by omega) e29) (fun o28 e29 h => ?_)
                        cases h
                        exact zv_iret dX4_step_233 rfl
                      rcases zif h with ⟨c33, h⟩ | ⟨c33, h⟩
                      · refine zr_tabIn (tgt := 234) (off := 107) c33 dX4_step_127 (by decide) (by decide) (by decide) (by decide) ?_
                        refine zv_aload_n (n := 1) dX4_step_234 rfl rfl ?_
                        refine zr_cVi (ci := 4) (st := []) dX4_step_235 mw_X4_tellLength wd_1347 wd_1349 wd_44 rfl rfl [] rfl rfl (Nat.le_of_ble_eq_true rfl) (show d - 1 + 1 ≤ d by omega) h (fun o31 e32 => tX4_tellLength (d := d - 1) (by omega) e32) (fun o31 e32 h => ?_)
                        cases h
                        exact zv_iret dX4_step_238 rfl
                      rcases zif h with ⟨c36, h⟩ | ⟨c36, h⟩
                      · refine zr_tabIn (tgt := 239) (off := 112) c36 dX4_step_127 (by decide) (by decide) (by decide) (by decide) ?_
                        refine zv_aload_n (n := 1) dX4_step_239 rfl rfl ?_
                        refine zr_cVi (ci := 4) (st := []) dX4_step_240 mw_X4_throwTop wd_1355 wd_1357 wd_45 rfl rfl [] rfl rfl (Nat.le_of_ble_eq_true rfl) (show d - 1 + 1 ≤ d by omega) h (fun o34 e35 => tX4_throwTop (d := d - 1) (by omega) e35) (fun o34 e35 h => ?_)
                        cases h
                        exact zv_iret dX4_step_243 rfl
                      rcases zif h with ⟨c39, h⟩ | ⟨c39, h⟩
                      · refine zr_tabIn (tgt := 244) (off := 117) c39 dX4_step_127 (by decide) (by decide) (by decide) (by decide) ?_
                        refine zv_aload_n (n := 1) dX4_step_244 rfl rfl ?_
                        refine zr_cVi (ci := 4) (st := []) dX4_step_245 mw_X4_cast wd_1377 wd_1379 wd_47 rfl rfl [] rfl rfl (Nat.le_of_ble_eq_true rfl) (show d - 1 + 1 ≤ d by omega) h (fun o37 e38 => tX4_cast (d := d - 1) (by omega) e38) (fun o37 e38 h => ?_)
                        cases h
                        exact zv_iret dX4_step_248 rfl
                      refine zv_tableOut (tgt := 249) dX4_step_127 (by have := lv_neT c7 (show (180 : Int32).toInt = 180 by decide); have := lv_neT c10 (show (181 : Int32).toInt = 181 by decide); have := lv_neT c11 (show (182 : Int32).toInt = 182 by decide); have := lv_neT c12 (show (183 : Int32).toInt = 183 by decide); have := lv_neT c15 (show (184 : Int32).toInt = 184 by decide); have := lv_neT c16 (show (185 : Int32).toInt = 185 by decide); have := lv_neT c17 (show (186 : Int32).toInt = 186 by decide); have := lv_neT c20 (show (187 : Int32).toInt = 187 by decide); have := lv_neT c27 (show (188 : Int32).toInt = 188 by decide); have := lv_neT c30 (show (189 : Int32).toInt = 189 by decide); have := lv_neT c33 (show (190 : Int32).toInt = 190 by decide); have := lv_neT c36 (show (191 : Int32).toInt = 191 by decide); have := lv_neT c39 (show (192 : Int32).toInt = 192 by decide); omega) (by decide) ?_
                      exact zv_fewer [1] rfl (kX4_step_249 hd _ _ h)
                    · refine zv_aload_n (n := 1) dX4_step_120 rfl rfl ?_
                      refine zv_iload_n (n := 0) dX4_step_121 rfl rfl ?_
                      refine zr_cVi (ci := 4) (st := []) dX4_step_122 mw_X4_leave wd_1249 wd_1251 wd_33 rfl rfl [.int o3.2] rfl rfl (Nat.le_of_ble_eq_true rfl) (show d - 1 + 1 ≤ d by omega) h (fun o40 e41 => tX4_leave (d := d - 1) (by omega) e41) (fun o40 e41 h => ?_)
                      cases h
                      exact zv_iret dX4_step_125 rfl
                  · exact zv_fewer [1, 0] rfl (kX4_step_107 hd _ _ _ h)
              · refine zv_aload_n (n := 1) dX4_step_87 rfl rfl ?_
                refine zv_iload_n (n := 0) dX4_step_88 rfl rfl ?_
                refine zr_cVi (ci := 4) (st := []) dX4_step_89 mw_X4_convert wd_1228 wd_1230 wd_31 rfl rfl [.int o3.2] rfl rfl (Nat.le_of_ble_eq_true rfl) (show d - 1 + 1 ≤ d by omega) h (fun o45 e46 => tX4_convert (d := d - 1) (by omega) e46) (fun o45 e46 h => ?_)
                cases h
                exact zv_iret dX4_step_92 rfl
            · refine zv_aload_n (n := 1) dX4_step_74 rfl rfl ?_
              refine zv_iload_n (n := 0) dX4_step_75 rfl rfl ?_
              refine zr_cVi (ci := 4) (st := []) dX4_step_76 mw_X4_reckon wd_1217 wd_1219 wd_30 rfl rfl [.int o3.2] rfl rfl (Nat.le_of_ble_eq_true rfl) (show d - 1 + 1 ≤ d by omega) h (fun o48 e49 => tX4_reckon (d := d - 1) (by omega) e49) (fun o48 e49 h => ?_)
              cases h
              exact zv_iret dX4_step_79 rfl
          · refine zv_aload_n (n := 1) dX4_step_61 rfl rfl ?_
            refine zv_iload_n (n := 0) dX4_step_62 rfl rfl ?_
            refine zr_cVi (ci := 4) (st := []) dX4_step_63 mw_X4_shuffle wd_1205 wd_1207 wd_29 rfl rfl [.int o3.2] rfl rfl (Nat.le_of_ble_eq_true rfl) (show d - 1 + 1 ≤ d by omega) h (fun o51 e52 => tX4_shuffle (d := d - 1) (by omega) e52) (fun o51 e52 h => ?_)
            cases h
            exact zv_iret dX4_step_66 rfl
        · refine zv_aload_n (n := 1) dX4_step_49 rfl rfl ?_
          refine zv_iload_n (n := 0) dX4_step_50 rfl rfl ?_
          refine zr_cVi (ci := 4) (st := []) dX4_step_51 mw_X4_storeElement wd_1192 wd_1194 wd_27 rfl rfl [.int o3.2] rfl rfl (Nat.le_of_ble_eq_true rfl) (show d - 1 + 1 ≤ d by omega) h (fun o54 e55 => tX4_storeElement (d := d - 1) (by omega) e55) (fun o54 e55 h => ?_)
          cases h
          exact zv_iret dX4_step_54 rfl
      · refine zv_aload_n (n := 1) dX4_step_38 rfl rfl ?_
        refine zr_cVi (ci := 4) (st := []) dX4_step_39 mw_X4_storeLocal wd_1184 wd_1186 wd_26 rfl rfl [] rfl rfl (Nat.le_of_ble_eq_true rfl) (show d - 1 + 1 ≤ d by omega) h (fun o57 e58 => tX4_storeLocal (d := d - 1) (by omega) e58) (fun o57 e58 h => ?_)
        cases h
        exact zv_iret dX4_step_42 rfl
    · refine zv_aload_n (n := 1) dX4_step_26 rfl rfl ?_
      refine zv_iload_n (n := 0) dX4_step_27 rfl rfl ?_
      refine zr_cVi (ci := 4) (st := []) dX4_step_28 mw_X4_loadElement wd_1147 wd_1149 wd_24 rfl rfl [.int o3.2] rfl rfl (Nat.le_of_ble_eq_true rfl) (show d - 1 + 1 ≤ d by omega) h (fun o60 e61 => tX4_loadElement (d := d - 1) (by omega) e61) (fun o60 e61 h => ?_)
      cases h
      exact zv_iret dX4_step_31 rfl
  · refine zv_aload_n (n := 1) dX4_step_14 rfl rfl ?_
    refine zv_iload_n (n := 0) dX4_step_15 rfl rfl ?_
    refine zr_cVi (ci := 4) (st := []) dX4_step_16 mw_X4_push wd_1113 wd_1115 wd_21 rfl rfl [.int o3.2] rfl rfl (Nat.le_of_ble_eq_true rfl) (show d - 1 + 1 ≤ d by omega) h (fun o63 e64 => tX4_push (d := d - 1) (by omega) e64) (fun o63 e64 h => ?_)
    cases h
    exact zv_iret dX4_step_19 rfl
def mX4_step (N : Nat) (a0 : Nat) (x : zv_X) : Option (zv_X × Int32) := mX4_step_0 N a0 x
theorem tX4_step {d : Nat} (hd : 5 ≤ d) {N : Nat} {x : zv_X} {a0 : Nat} {o : (zv_X × Int32)} (h : mX4_step N a0 x = some o) : zv_T d yX4_step cX4_step 2 ((some .int)) [.ref a0] x o.1 (some (.int o.2)) := by
  unfold mX4_step at h
  exact zv_enter (by decide) (Nat.le_of_ble_eq_true rfl) (kX4_step_0 hd _ _ h)

abbrev fX4_perform (d : Nat) (x0 : zv_X) (o : (zv_X × Int32)) : zv_G := (d, RX4, cX4_perform, 8, (some .int), ("perform", []), x0, o.1, zv_fin x0 o.1 (some (.int o.2)))
def mX4_perform_100 (N : Nat) (l0 : Nat) (x : zv_X) : Option (zv_X × Int32) := (zm_I x l0 4 7).bind fun v1 => some (x, v1)
theorem kX4_perform_100 {d : Nat} {x0 : zv_X} {o : (zv_X × Int32)} (hd : 6 ≤ d) {N : Nat} (l0 : Nat) (x : zv_X) (h : mX4_perform_100 N l0 x = some o) : zv_V (fX4_perform d x0 o) 100 [(0, .ref l0)] [] x := by
  unfold mX4_perform_100 at h
  refine zv_aload_n (n := 0) dX4_perform_100 rfl rfl ?_
  refine zr_gI dX4_perform_101 fg_373 h (fun v1 e2 h => ?_)
  cases h
  exact zv_iret dX4_perform_104 rfl
def mX4_perform_87 (N : Nat) (l0 : Nat) (x : zv_X) : Option (zv_X × Int32) := (zm_I x l0 4 7).bind fun v1 => if v1 = (-1 : Int32) then ((zm_p x l0 4 7 (.int (2 : Int32))).bind fun x3 => mX4_perform_100 N l0 x3) else (mX4_perform_100 N l0 x)
theorem kX4_perform_87 {d : Nat} {x0 : zv_X} {o : (zv_X × Int32)} (hd : 6 ≤ d) {N : Nat} (l0 : Nat) (x : zv_X) (h : mX4_perform_87 N l0 x = some o) : zv_V (fX4_perform d x0 o) 87 [(0, .ref l0)] [] x := by
  unfold mX4_perform_87 at h
  refine zv_aload_n (n := 0) dX4_perform_87 rfl rfl ?_
  refine zr_gI dX4_perform_88 fg_373 h (fun v1 e2 h => ?_)
  refine zv_iconst (v := -1) dX4_perform_91 (by decide) ?_
  refine zr_icmp_ne (tgt := 100) dX4_perform_92 (by decide) h (fun c5 h => ?_) (fun c5 h => ?_)
  · exact kX4_perform_100 hd _ _ h
  · refine zv_aload_n (n := 0) dX4_perform_95 rfl rfl ?_
    refine zv_iconst (v := 2) dX4_perform_96 (by decide) ?_
    refine zr_p dX4_perform_97 fl_373 (fun q => nomatch q) rfl rfl h (fun x3 e4 h => ?_)
    exact kX4_perform_100 hd _ _ h
def mX4_perform_84 (K40 : Nat → Int32 → zv_X → Option (zv_X × Int32)) (N : Nat) (l0 : Nat) (l6 : Int32) (x : zv_X) : Option (zv_X × Int32) := K40 l0 l6 x
theorem kX4_perform_84 {d : Nat} {x0 : zv_X} {o : (zv_X × Int32)} (hd : 6 ≤ d) {K40 : Nat → Int32 → zv_X → Option (zv_X × Int32)} (hK40 : ∀ (l0 : Nat) (l6 : Int32) (x : zv_X), K40 l0 l6 x = some o → zv_V (fX4_perform d x0 o) 40 [(0, .ref l0), (6, .int l6)] [] x) {N : Nat} (l0 : Nat) (l6 : Int32) (x : zv_X) (h : mX4_perform_84 K40 N l0 l6 x = some o) : zv_V (fX4_perform d x0 o) 84 [(0, .ref l0), (6, .int l6)] [] x := by
  unfold mX4_perform_84 at h
  refine zv_goto (tgt := 40) dX4_perform_84 (by decide) ?_
  exact hK40 _ _ _ h
def mX4_perform_40 (N : Nat) : Nat → Nat → Int32 → zv_X → Option (zv_X × Int32)
  | 0, _, _, _ => none
  | n + 1, l0, l6, x => (zm_I x l0 4 9).bind fun v1 => if l6 ≤ v1 then (mX4_perform_87 N l0 x) else ((zm_I x l0 4 7).bind fun v3 => if v3 = (-1 : Int32) then ((zm_I x l0 4 9).bind fun v5 => (zm_p x l0 4 9 (.int (v5 + (1 : Int32)))).bind fun x7 => if zm_k x7 l0 4 = true then ((mX4_step N l0 x7).bind fun o9 => if o9.2 = 0 then (mX4_perform_84 (mX4_perform_40 N n) N l0 l6 o9.1) else (if zm_k o9.1 l0 4 = true then ((mX4_raise N l0 o9.2 o9.1).bind fun o11 => mX4_perform_84 (mX4_perform_40 N n) N l0 l6 o11) else none)) else none) else (mX4_perform_87 N l0 x))
theorem kX4_perform_40 {d : Nat} {x0 : zv_X} {o : (zv_X × Int32)} (hd : 6 ≤ d) {N : Nat} : ∀ (n : Nat) (l0 : Nat) (l6 : Int32) (x : zv_X), mX4_perform_40 N n l0 l6 x = some o → zv_V (fX4_perform d x0 o) 40 [(0, .ref l0), (6, .int l6)] [] x := by
  intro n
  induction n with
  | zero => intro l0 l6 x h; cases h
  | succ n ih =>
    intro l0 l6 x h
    unfold mX4_perform_40 at h
    refine zv_aload_n (n := 0) dX4_perform_40 rfl rfl ?_
    refine zr_gI dX4_perform_41 fg_376 h (fun v1 e2 h => ?_)
    refine zv_iload (n := 1) dX4_perform_44 rfl ?_
    refine zr_icmp_ge (tgt := 87) dX4_perform_46 (by decide) h (fun c15 h => ?_) (fun c15 h => ?_)
    · exact zv_fewer [0] rfl (kX4_perform_87 hd _ _ h)
    · refine zv_aload_n (n := 0) dX4_perform_49 rfl rfl ?_
      refine zr_gI dX4_perform_50 fg_373 h (fun v3 e4 h => ?_)
      refine zv_iconst (v := -1) dX4_perform_53 (by decide) ?_
      refine zr_icmp_ne (tgt := 87) dX4_perform_54 (by decide) h (fun c14 h => ?_) (fun c14 h => ?_)
      · exact zv_fewer [0] rfl (kX4_perform_87 hd _ _ h)
      · refine zv_aload_n (n := 0) dX4_perform_57 rfl rfl ?_
        refine zv_dup dX4_perform_58 rfl ?_
        refine zr_gI dX4_perform_59 fg_376 h (fun v5 e6 h => ?_)
        refine zv_iconst (v := 1) dX4_perform_62 (by decide) ?_
        refine zv_iadd dX4_perform_63 ?_
        refine zr_p dX4_perform_64 fl_376 (fun q => nomatch q) rfl rfl h (fun x7 e8 h => ?_)
        refine zv_aload_n (n := 0) dX4_perform_67 rfl rfl ?_
        refine zr_cVi (ci := 4) (st := []) dX4_perform_68 mw_X4_step wd_1104 wd_1106 wd_20 rfl rfl [] rfl rfl (Nat.le_of_ble_eq_true rfl) (show d - 1 + 1 ≤ d by omega) h (fun o9 e10 => tX4_step (d := d - 1) (by omega) e10) (fun o9 e10 h => ?_)
        refine zv_istore (L' := [(7, .int o9.2), (0, .ref l0), (6, .int l6)]) dX4_perform_71 (Nat.le_of_ble_eq_true rfl) rfl ?_
        refine zv_iload (n := 0) dX4_perform_73 rfl ?_
        refine zr_if_eq (tgt := 84) dX4_perform_75 (by decide) h (fun c13 h => ?_) (fun c13 h => ?_)
        · exact zv_fewer [1, 2] rfl (kX4_perform_84 hd ih _ _ _ h)
        · refine zv_aload_n (n := 1) dX4_perform_78 rfl rfl ?_
          refine zv_iload (n := 0) dX4_perform_79 rfl ?_
          refine zr_cVv (ci := 4) (st := []) dX4_perform_81 mw_X4_raise wd_1385 wd_1387 wd_49 rfl rfl [.int o9.2] rfl rfl (Nat.le_of_ble_eq_true rfl) (show d - 1 + 1 ≤ d by omega) h (fun o11 e12 => tX4_raise (d := d - 1) (by omega) e12) (fun o11 e12 h => ?_)
          exact zv_fewer [1, 2] rfl (kX4_perform_84 hd ih _ _ _ h)
def mX4_perform_0 (N : Nat) (l0 : Nat) (l1 : Nat) (l2 : Int64) (l4 : Int64) (l6 : Int32) (x : zv_X) : Option (zv_X × Int32) := (zm_R x l0 4 2).bind fun v1 => if zm_k x v1 2 = true then ((mX2_empty N v1 x).bind fun o3 => (zm_p o3 l0 4 8 (.long (0 : Int64))).bind fun x5 => (zm_p x5 l0 4 9 (.int (0 : Int32))).bind fun x7 => (zm_p x7 l0 4 10 (.int (0 : Int32))).bind fun x9 => (zm_p x9 l0 4 11 (.int (0 : Int32))).bind fun x11 => (zm_p x11 l0 4 7 (.int (-1 : Int32))).bind fun x13 => if zm_k x13 l0 4 = true then ((mX4_beginFirst N l0 l1 l2 l4 x13).bind fun o15 => mX4_perform_40 N N l0 l6 o15) else none) else none
theorem kX4_perform_0 {d : Nat} {x0 : zv_X} {o : (zv_X × Int32)} (hd : 6 ≤ d) {N : Nat} (l0 : Nat) (l1 : Nat) (l2 : Int64) (l4 : Int64) (l6 : Int32) (x : zv_X) (h : mX4_perform_0 N l0 l1 l2 l4 l6 x = some o) : zv_V (fX4_perform d x0 o) 0 [(0, .ref l0), (1, .ref l1), (2, .long l2), (4, .long l4), (6, .int l6)] [] x := by
  unfold mX4_perform_0 at h
  refine zv_aload_n (n := 0) dX4_perform_0 rfl rfl ?_
  refine zr_gR dX4_perform_1 fg_368 h (fun v1 e2 h => ?_)
  refine zr_cVv (ci := 2) (st := []) dX4_perform_4 mw_X2_empty wd_844 wd_845 wd_846 rfl rfl [] rfl rfl (Nat.le_of_ble_eq_true rfl) (show d - 1 + 1 ≤ d by omega) h (fun o3 e4 => tX2_empty (d := d - 1) (by omega) e4) (fun o3 e4 h => ?_)
  refine zv_aload_n (n := 0) dX4_perform_7 rfl rfl ?_
  refine zv_lconst (v := 0) dX4_perform_8 (by decide) ?_
  refine zr_p dX4_perform_9 fl_374 (fun q => nomatch q) rfl rfl h (fun x5 e6 h => ?_)
  refine zv_aload_n (n := 0) dX4_perform_12 rfl rfl ?_
  refine zv_iconst (v := 0) dX4_perform_13 (by decide) ?_
  refine zr_p dX4_perform_14 fl_376 (fun q => nomatch q) rfl rfl h (fun x7 e8 h => ?_)
  refine zv_aload_n (n := 0) dX4_perform_17 rfl rfl ?_
  refine zv_iconst (v := 0) dX4_perform_18 (by decide) ?_
  refine zr_p dX4_perform_19 fl_378 (fun q => nomatch q) rfl rfl h (fun x9 e10 h => ?_)
  refine zv_aload_n (n := 0) dX4_perform_22 rfl rfl ?_
  refine zv_iconst (v := 0) dX4_perform_23 (by decide) ?_
  refine zr_p dX4_perform_24 fl_380 (fun q => nomatch q) rfl rfl h (fun x11 e12 h => ?_)
  refine zv_aload_n (n := 0) dX4_perform_27 rfl rfl ?_
  refine zv_iconst (v := -1) dX4_perform_28 (by decide) ?_
  refine zr_p dX4_perform_29 fl_373 (fun q => nomatch q) rfl rfl h (fun x13 e14 h => ?_)
  refine zv_aload_n (n := 0) dX4_perform_32 rfl rfl ?_
  refine zv_aload_n (n := 1) dX4_perform_33 rfl rfl ?_
  refine zv_lload_n (n := 2) dX4_perform_34 rfl rfl ?_
  refine zv_lload (n := 3) dX4_perform_35 rfl ?_
  refine zr_cVv (ci := 4) (st := []) dX4_perform_37 mw_X4_beginFirst wd_848 wd_850 wd_19 rfl rfl [.ref l1, .long l2, .long l4] rfl rfl (Nat.le_of_ble_eq_true rfl) (show d - 1 + 1 ≤ d by omega) h (fun o15 e16 => tX4_beginFirst (d := d - 1) (by omega) e16) (fun o15 e16 h => ?_)
  exact zv_fewer [0, 4] rfl (kX4_perform_40 hd N _ _ _ h)
def mX4_perform (N : Nat) (a0 : Nat) (a1 : Nat) (a2 : Int64) (a3 : Int64) (a4 : Int32) (x : zv_X) : Option (zv_X × Int32) := mX4_perform_0 N a0 a1 a2 a3 a4 x
theorem tX4_perform {d : Nat} (hd : 6 ≤ d) {N : Nat} {x : zv_X} {a0 : Nat} {a1 : Nat} {a2 : Int64} {a3 : Int64} {a4 : Int32} {o : (zv_X × Int32)} (h : mX4_perform N a0 a1 a2 a3 a4 x = some o) : zv_T d yX4_perform cX4_perform 8 ((some .int)) [.ref a0, .ref a1, .long a2, .long a3, .int a4] x o.1 (some (.int o.2)) := by
  unfold mX4_perform at h
  exact zv_enter (by decide) (Nat.le_of_ble_eq_true rfl) (kX4_perform_0 hd _ _ _ _ _ _ h)

abbrev fX8_run (d : Nat) (x0 : zv_X) (o : (zv_X × (Int32 ⊕ String))) : zv_G := (d, RX8, cX8_run, 7, (some .int), ("run", []), x0, o.1, zv_finX x0 o)
def mX8_run_15 (N : Nat)  (x : zv_X) : Option (zv_X × (Int32 ⊕ String)) := some (zv_pad x, .inr "java/lang/IndexOutOfBoundsException")
theorem kX8_run_15 {d : Nat} {x0 : zv_X} {o : (zv_X × (Int32 ⊕ String))} (hd : 7 ≤ d) {N : Nat}  (x : zv_X) (h : mX8_run_15 N  x = some o) : zv_V (fX8_run d x0 o) 15 [] [] x := by
  unfold mX8_run_15 at h
  cases h
  exact zx_throw (text := "no such method") tw_81 (by decide) dX8_run_15 dX8_run_18 dX8_run_19 dX8_run_21 dX8_run_24 (show 6 ≤ d by omega) (Nat.le_of_ble_eq_true rfl)
def mX8_run_38 (N : Nat)  (x : zv_X) : Option (zv_X × (Int32 ⊕ String)) := some (zv_pad x, .inr "java/lang/IllegalArgumentException")
theorem kX8_run_38 {d : Nat} {x0 : zv_X} {o : (zv_X × (Int32 ⊕ String))} (hd : 7 ≤ d) {N : Nat}  (x : zv_X) (h : mX8_run_38 N  x = some o) : zv_V (fX8_run d x0 o) 38 [] [] x := by
  unfold mX8_run_38 at h
  cases h
  exact zx_throw (text := "fuel is not 0 .. 20000") tw_57 (by decide) dX8_run_38 dX8_run_41 dX8_run_42 dX8_run_44 dX8_run_47 (show 6 ≤ d by omega) (Nat.le_of_ble_eq_true rfl)
def mX8_run_0 (N : Nat) (l0 : Nat) (l1 : Int32) (l2 : Int64) (l4 : Int64) (l6 : Int32) (x : zv_X) : Option (zv_X × (Int32 ⊕ String)) := if l1 < 0 then (mX8_run_15 N x) else ((zm_R x l0 8 2).bind fun v1 => if zm_k x v1 5 = true then ((mJx4a65c_size_8abf5 N v1 x).bind fun o3 => if l1 < o3.2 then (if l6 < 0 then (mX8_run_38 N o3.1) else (if l6 ≤ (20000 : Int32) then ((zm_R o3.1 l0 8 4).bind fun v5 => (zm_R o3.1 l0 8 2).bind fun v7 => if zm_k o3.1 v7 5 = true then ((mJx4a65c_get_915e3 N v7 l1 o3.1).bind fun o9 => if zm_k o9.1 o9.2 6 = true then (if zm_k o9.1 v5 4 = true then ((mX4_perform N v5 o9.2 l2 l4 l6 o9.1).bind fun o11 => some (o11.1, .inl o11.2)) else none) else none) else none) else (mX8_run_38 N o3.1))) else (mX8_run_15 N o3.1)) else none)
theorem kX8_run_0 {d : Nat} {x0 : zv_X} {o : (zv_X × (Int32 ⊕ String))} (hd : 7 ≤ d) {N : Nat} (l0 : Nat) (l1 : Int32) (l2 : Int64) (l4 : Int64) (l6 : Int32) (x : zv_X) (h : mX8_run_0 N l0 l1 l2 l4 l6 x = some o) : zv_V (fX8_run d x0 o) 0 [(0, .ref l0), (1, .int l1), (2, .long l2), (4, .long l4), (6, .int l6)] [] x := by
  unfold mX8_run_0 at h
  refine zv_iload_n (n := 1) dX8_run_0 rfl rfl ?_
  refine zr_if_lt (tgt := 15) dX8_run_1 (by decide) h (fun c16 h => ?_) (fun c16 h => ?_)
  · exact zv_fewer [] rfl (kX8_run_15 hd _ h)
  · refine zv_iload_n (n := 1) dX8_run_4 rfl rfl ?_
    refine zv_aload_n (n := 0) dX8_run_5 rfl rfl ?_
    refine zr_gR dX8_run_6 fg_409 h (fun v1 e2 h => ?_)
    refine zr_cVi (ci := 5) (st := [.int l1]) dX8_run_9 mw_Jx4a65c_size_8abf5 wd_593 wd_594 wd_595 rfl rfl [] rfl rfl (Nat.le_of_ble_eq_true rfl) (show d - 1 + 1 ≤ d by omega) h (fun o3 e4 => tJx4a65c_size_8abf5 (d := d - 1) (by omega) e4) (fun o3 e4 h => ?_)
    refine zr_icmp_lt (tgt := 25) dX8_run_12 (by decide) h (fun c15 h => ?_) (fun c15 h => ?_)
    · refine zv_iload (n := 4) dX8_run_25 rfl ?_
      refine zr_if_lt (tgt := 38) dX8_run_27 (by decide) h (fun c14 h => ?_) (fun c14 h => ?_)
      · exact zv_fewer [] rfl (kX8_run_38 hd _ h)
      · refine zv_iload (n := 4) dX8_run_30 rfl ?_
        refine zv_sipush (v := 20000) dX8_run_32 (by decide) ?_
        refine zr_icmp_le (tgt := 48) dX8_run_35 (by decide) h (fun c13 h => ?_) (fun c13 h => ?_)
        · refine zv_aload_n (n := 0) dX8_run_48 rfl rfl ?_
          refine zr_gR dX8_run_49 fg_411 h (fun v5 e6 h => ?_)
          refine zv_aload_n (n := 0) dX8_run_52 rfl rfl ?_
          refine zr_gR dX8_run_53 fg_409 h (fun v7 e8 h => ?_)
          refine zv_iload_n (n := 1) dX8_run_56 rfl rfl ?_
          refine zr_cVr (ci := 5) (st := [.ref v5]) dX8_run_57 mw_Jx4a65c_get_915e3 wd_839 wd_744 wd_745 rfl rfl [.int l1] rfl rfl (Nat.le_of_ble_eq_true rfl) (show d - 1 + 1 ≤ d by omega) h (fun o9 e10 => tJx4a65c_get_915e3 (d := d - 1) (by omega) e10) (fun o9 e10 h => ?_)
          refine zr_cast (ci := 6) dX8_run_60 wd_598 rfl (by decide) h (fun h => ?_)
          refine zv_lload_n (n := 2) dX8_run_63 rfl rfl ?_
          refine zv_lload (n := 3) dX8_run_64 rfl ?_
          refine zv_iload (n := 4) dX8_run_66 rfl ?_
          refine zr_cVi (ci := 4) (st := []) dX8_run_68 mw_X4_perform wd_840 wd_841 wd_842 rfl rfl [.ref o9.2, .long l2, .long l4, .int l6] rfl rfl (Nat.le_of_ble_eq_true rfl) (show d - 1 + 1 ≤ d by omega) h (fun o11 e12 => tX4_perform (d := d - 1) (by omega) e12) (fun o11 e12 h => ?_)
          cases h
          exact zx_iret dX8_run_71 rfl
        · exact zv_fewer [] rfl (kX8_run_38 hd _ h)
    · exact zv_fewer [] rfl (kX8_run_15 hd _ h)
def mX8_run (N : Nat) (a0 : Nat) (a1 : Int32) (a2 : Int64) (a3 : Int64) (a4 : Int32) (x : zv_X) : Option (zv_X × (Int32 ⊕ String)) := mX8_run_0 N a0 a1 a2 a3 a4 x
theorem tX8_run {d : Nat} (hd : 7 ≤ d) {N : Nat} {x : zv_X} {a0 : Nat} {a1 : Int32} {a2 : Int64} {a3 : Int64} {a4 : Int32} {o : (zv_X × (Int32 ⊕ String))} (h : mX8_run N a0 a1 a2 a3 a4 x = some o) : zv_TX d yX8_run cX8_run 7 ((some .int)) [.ref a0, .int a1, .long a2, .long a3, .int a4] x o := by
  unfold mX8_run at h
  exact zx_enter (by decide) (Nat.le_of_ble_eq_true rfl) (kX8_run_0 hd _ _ _ _ _ _ h)

abbrev fX8_result (d : Nat) (x0 : zv_X) (o : (zv_X × Int64)) : zv_G := (d, RX8, cX8_result, 1, (some .long), ("result", []), x0, o.1, zv_fin x0 o.1 (some (.long o.2)))
def mX8_result_0 (N : Nat) (l0 : Nat) (x : zv_X) : Option (zv_X × Int64) := (zm_R x l0 8 4).bind fun v1 => (zm_L x v1 4 8).bind fun v3 => some (x, v3)
theorem kX8_result_0 {d : Nat} {x0 : zv_X} {o : (zv_X × Int64)} (hd : 0 ≤ d) {N : Nat} (l0 : Nat) (x : zv_X) (h : mX8_result_0 N l0 x = some o) : zv_V (fX8_result d x0 o) 0 [(0, .ref l0)] [] x := by
  unfold mX8_result_0 at h
  refine zv_aload_n (n := 0) dX8_result_0 rfl rfl ?_
  refine zr_gR dX8_result_1 fg_411 h (fun v1 e2 h => ?_)
  refine zr_gL dX8_result_4 fg_375 h (fun v3 e4 h => ?_)
  cases h
  exact zv_lret dX8_result_7 rfl
def mX8_result (N : Nat) (a0 : Nat) (x : zv_X) : Option (zv_X × Int64) := mX8_result_0 N a0 x
theorem tX8_result {d : Nat} (hd : 0 ≤ d) {N : Nat} {x : zv_X} {a0 : Nat} {o : (zv_X × Int64)} (h : mX8_result N a0 x = some o) : zv_T d yX8_result cX8_result 1 ((some .long)) [.ref a0] x o.1 (some (.long o.2)) := by
  unfold mX8_result at h
  exact zv_enter (by decide) (Nat.le_of_ble_eq_true rfl) (kX8_result_0 hd _ _ h)

abbrev fX8_steps (d : Nat) (x0 : zv_X) (o : (zv_X × Int32)) : zv_G := (d, RX8, cX8_steps, 1, (some .int), ("steps", []), x0, o.1, zv_fin x0 o.1 (some (.int o.2)))
def mX8_steps_0 (N : Nat) (l0 : Nat) (x : zv_X) : Option (zv_X × Int32) := (zm_R x l0 8 4).bind fun v1 => (zm_I x v1 4 9).bind fun v3 => some (x, v3)
theorem kX8_steps_0 {d : Nat} {x0 : zv_X} {o : (zv_X × Int32)} (hd : 0 ≤ d) {N : Nat} (l0 : Nat) (x : zv_X) (h : mX8_steps_0 N l0 x = some o) : zv_V (fX8_steps d x0 o) 0 [(0, .ref l0)] [] x := by
  unfold mX8_steps_0 at h
  refine zv_aload_n (n := 0) dX8_steps_0 rfl rfl ?_
  refine zr_gR dX8_steps_1 fg_411 h (fun v1 e2 h => ?_)
  refine zr_gI dX8_steps_4 fg_377 h (fun v3 e4 h => ?_)
  cases h
  exact zv_iret dX8_steps_7 rfl
def mX8_steps (N : Nat) (a0 : Nat) (x : zv_X) : Option (zv_X × Int32) := mX8_steps_0 N a0 x
theorem tX8_steps {d : Nat} (hd : 0 ≤ d) {N : Nat} {x : zv_X} {a0 : Nat} {o : (zv_X × Int32)} (h : mX8_steps N a0 x = some o) : zv_T d yX8_steps cX8_steps 1 ((some .int)) [.ref a0] x o.1 (some (.int o.2)) := by
  unfold mX8_steps at h
  exact zv_enter (by decide) (Nat.le_of_ble_eq_true rfl) (kX8_steps_0 hd _ _ h)

abbrev fX8_count (d : Nat) (x0 : zv_X) (o : (zv_X × (Int32 ⊕ String))) : zv_G := (d, RX8, cX8_count, 2, (some .int), ("count", []), x0, o.1, zv_finX x0 o)
def mX8_count_0 (N : Nat) (l0 : Nat) (l1 : Int32) (x : zv_X) : Option (zv_X × (Int32 ⊕ String)) := if l1 = (0 : Int32) then ((zm_R x l0 8 0).bind fun v1 => (zm_I x v1 7 3).bind fun v3 => some (x, .inl v3)) else if l1 = (1 : Int32) then ((zm_R x l0 8 2).bind fun v6 => if zm_k x v6 5 = true then ((mJx4a65c_size_8abf5 N v6 x).bind fun o8 => some (o8.1, .inl o8.2)) else none) else if l1 = (2 : Int32) then ((zm_R x l0 8 1).bind fun v11 => (zm_I x v11 0 2).bind fun v13 => some (x, .inl v13)) else if l1 = (3 : Int32) then ((zm_R x l0 8 4).bind fun v16 => (zm_I x v16 4 10).bind fun v18 => some (x, .inl v18)) else if l1 = (4 : Int32) then ((zm_R x l0 8 4).bind fun v21 => (zm_I x v21 4 11).bind fun v23 => some (x, .inl v23)) else (some (zv_pad x, .inr "java/lang/IndexOutOfBoundsException"))
theorem kX8_count_0 {d : Nat} {x0 : zv_X} {o : (zv_X × (Int32 ⊕ String))} (hd : 6 ≤ d) {N : Nat} (l0 : Nat) (l1 : Int32) (x : zv_X) (h : mX8_count_0 N l0 l1 x = some o) : zv_V (fX8_count d x0 o) 0 [(0, .ref l0), (1, .int l1)] [] x := by
  unfold mX8_count_0 at h
  refine zv_iload_n (n := 1) dX8_count_0 rfl rfl ?_
  rcases zif h with ⟨c5, h⟩ | ⟨c5, h⟩
  · refine zr_tabIn (tgt := 36) (off := 35) c5 dX8_count_1 (by decide) (by decide) (by decide) (by decide) ?_
    refine zv_aload_n (n := 0) dX8_count_36 rfl rfl ?_
    refine zr_gR dX8_count_37 fg_407 h (fun v1 e2 h => ?_)
    refine zr_gI dX8_count_40 fg_146 h (fun v3 e4 h => ?_)
    cases h
    exact zx_iret dX8_count_43 rfl
  rcases zif h with ⟨c10, h⟩ | ⟨c10, h⟩
  · refine zr_tabIn (tgt := 44) (off := 43) c10 dX8_count_1 (by decide) (by decide) (by decide) (by decide) ?_
    refine zv_aload_n (n := 0) dX8_count_44 rfl rfl ?_
    refine zr_gR dX8_count_45 fg_409 h (fun v6 e7 h => ?_)
    refine zr_cVi (ci := 5) (st := []) dX8_count_48 mw_Jx4a65c_size_8abf5 wd_593 wd_594 wd_595 rfl rfl [] rfl rfl (Nat.le_of_ble_eq_true rfl) (show d - 1 + 1 ≤ d by omega) h (fun o8 e9 => tJx4a65c_size_8abf5 (d := d - 1) (by omega) e9) (fun o8 e9 h => ?_)
    cases h
    exact zx_iret dX8_count_51 rfl
  rcases zif h with ⟨c15, h⟩ | ⟨c15, h⟩
  · refine zr_tabIn (tgt := 52) (off := 51) c15 dX8_count_1 (by decide) (by decide) (by decide) (by decide) ?_
    refine zv_aload_n (n := 0) dX8_count_52 rfl rfl ?_
    refine zr_gR dX8_count_53 fg_408 h (fun v11 e12 h => ?_)
    refine zr_gI dX8_count_56 fg_166 h (fun v13 e14 h => ?_)
    cases h
    exact zx_iret dX8_count_59 rfl
  rcases zif h with ⟨c20, h⟩ | ⟨c20, h⟩
  · refine zr_tabIn (tgt := 60) (off := 59) c20 dX8_count_1 (by decide) (by decide) (by decide) (by decide) ?_
    refine zv_aload_n (n := 0) dX8_count_60 rfl rfl ?_
    refine zr_gR dX8_count_61 fg_411 h (fun v16 e17 h => ?_)
    refine zr_gI dX8_count_64 fg_379 h (fun v18 e19 h => ?_)
    cases h
    exact zx_iret dX8_count_67 rfl
  rcases zif h with ⟨c25, h⟩ | ⟨c25, h⟩
  · refine zr_tabIn (tgt := 68) (off := 67) c25 dX8_count_1 (by decide) (by decide) (by decide) (by decide) ?_
    refine zv_aload_n (n := 0) dX8_count_68 rfl rfl ?_
    refine zr_gR dX8_count_69 fg_411 h (fun v21 e22 h => ?_)
    refine zr_gI dX8_count_72 fg_381 h (fun v23 e24 h => ?_)
    cases h
    exact zx_iret dX8_count_75 rfl
  refine zv_tableOut (tgt := 76) dX8_count_1 (by have := lv_neT c5 (show (0 : Int32).toInt = 0 by decide); have := lv_neT c10 (show (1 : Int32).toInt = 1 by decide); have := lv_neT c15 (show (2 : Int32).toInt = 2 by decide); have := lv_neT c20 (show (3 : Int32).toInt = 3 by decide); have := lv_neT c25 (show (4 : Int32).toInt = 4 by decide); omega) (by decide) ?_
  cases h
  exact zx_throw (text := "there is no such what") tw_81 (by decide) dX8_count_76 dX8_count_79 dX8_count_80 dX8_count_82 dX8_count_85 (show 6 ≤ d by omega) (Nat.le_of_ble_eq_true rfl)
def mX8_count (N : Nat) (a0 : Nat) (a1 : Int32) (x : zv_X) : Option (zv_X × (Int32 ⊕ String)) := mX8_count_0 N a0 a1 x
theorem tX8_count {d : Nat} (hd : 6 ≤ d) {N : Nat} {x : zv_X} {a0 : Nat} {a1 : Int32} {o : (zv_X × (Int32 ⊕ String))} (h : mX8_count N a0 a1 x = some o) : zv_TX d yX8_count cX8_count 2 ((some .int)) [.ref a0, .int a1] x o := by
  unfold mX8_count at h
  exact zx_enter (by decide) (Nat.le_of_ble_eq_true rfl) (kX8_count_0 hd _ _ _ h)

abbrev fL_cell (d : Nat) (x0 : zv_X) (o : (zv_X × Int32)) : zv_G := (d, RL, cL_cell, 2, (some .int), ("cell", []), x0, o.1, zv_fin x0 o.1 (some (.int o.2)))
def mL_cell_13 (N : Nat) (s0 : Int32) (x : zv_X) : Option (zv_X × Int32) := some (x, s0)
theorem kL_cell_13 {d : Nat} {x0 : zv_X} {o : (zv_X × Int32)} (hd : 0 ≤ d) {N : Nat} (s0 : Int32) (x : zv_X) (h : mL_cell_13 N s0 x = some o) : zv_V (fL_cell d x0 o) 13 [] [.int s0] x := by
  unfold mL_cell_13 at h
  cases h
  exact zv_iret dL_cell_13 rfl
def mL_cell_0 (N : Nat) (l0 : Nat) (l1 : Int32) (x : zv_X) : Option (zv_X × Int32) := (zm_n x l0).bind fun v1 => if v1 ≤ l1 then (mL_cell_13 N (0 : Int32) x) else ((zm_aI x l0 l1).bind fun v3 => mL_cell_13 N v3 x)
theorem kL_cell_0 {d : Nat} {x0 : zv_X} {o : (zv_X × Int32)} (hd : 0 ≤ d) {N : Nat} (l0 : Nat) (l1 : Int32) (x : zv_X) (h : mL_cell_0 N l0 l1 x = some o) : zv_V (fL_cell d x0 o) 0 [(0, .ref l0), (1, .int l1)] [] x := by
  unfold mL_cell_0 at h
  refine zv_iload_n (n := 1) dL_cell_0 rfl rfl ?_
  refine zv_aload_n (n := 0) dL_cell_1 rfl rfl ?_
  refine zr_n dL_cell_2 h (fun v1 e2 h => ?_)
  refine zr_icmp_ge (tgt := 12) dL_cell_3 (by decide) h (fun c5 h => ?_) (fun c5 h => ?_)
  · refine zv_iconst (v := 0) dL_cell_12 (by decide) ?_
    exact zv_fewer [] rfl (kL_cell_13 hd _ _ h)
  · refine zv_aload_n (n := 0) dL_cell_6 rfl rfl ?_
    refine zv_iload_n (n := 1) dL_cell_7 rfl rfl ?_
    refine zr_aI dL_cell_8 h (fun v3 e4 h => ?_)
    refine zv_goto (tgt := 13) dL_cell_9 (by decide) ?_
    exact zv_fewer [] rfl (kL_cell_13 hd _ _ h)
def mL_cell (N : Nat) (a0 : Nat) (a1 : Int32) (x : zv_X) : Option (zv_X × Int32) := mL_cell_0 N a0 a1 x
theorem tL_cell {d : Nat} (hd : 0 ≤ d) {N : Nat} {x : zv_X} {a0 : Nat} {a1 : Int32} {o : (zv_X × Int32)} (h : mL_cell N a0 a1 x = some o) : zv_T d yL_cell cL_cell 2 ((some .int)) [.ref a0, .int a1] x o.1 (some (.int o.2)) := by
  unfold mL_cell at h
  exact zv_enter (by decide) (Nat.le_of_ble_eq_true rfl) (kL_cell_0 hd _ _ _ h)
