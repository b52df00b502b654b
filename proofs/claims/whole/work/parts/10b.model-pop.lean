abbrev fX9_thrown (d : Nat) (x0 : zv_X) (o : (zv_X × Int32)) : zv_G := (d, RX9, cX9_thrown, 1, (some .int), ("thrown", []), x0, o.1, zv_fin x0 o.1 (some (.int o.2)))
def mX9_thrown_0 (N : Nat) (l0 : Nat) (x : zv_X) : Option (zv_X × Int32) := (zm_I x l0 9 0).bind fun v1 => some (x, v1)
theorem kX9_thrown_0 {d : Nat} {x0 : zv_X} {o : (zv_X × Int32)} (hd : 0 ≤ d) {N : Nat} (l0 : Nat) (x : zv_X) (h : mX9_thrown_0 N l0 x = some o) : zv_V (fX9_thrown d x0 o) 0 [(0, .ref l0)] [] x := by
  unfold mX9_thrown_0 at h
  refine zv_aload_n (n := 0) dX9_thrown_0 rfl rfl ?_
  refine zr_gI dX9_thrown_1 fg_1403 h (fun v1 e2 h => ?_)
  cases h
  exact zv_iret dX9_thrown_4 rfl
def mX9_thrown (N : Nat) (a0 : Nat) (x : zv_X) : Option (zv_X × Int32) := mX9_thrown_0 N a0 x
theorem tX9_thrown {d : Nat} (hd : 0 ≤ d) {N : Nat} {x : zv_X} {a0 : Nat} {o : (zv_X × Int32)} (h : mX9_thrown N a0 x = some o) : zv_T d yX9_thrown cX9_thrown 1 ((some .int)) [.ref a0] x o.1 (some (.int o.2)) := by
  unfold mX9_thrown at h
  exact zv_enter (by decide) (Nat.le_of_ble_eq_true rfl) (kX9_thrown_0 hd _ _ h)

abbrev fX9_init (d : Nat) (x0 : zv_X) (o : zv_X) : zv_G := (d, RX9, cX9_init, 2, none, ("<init>", []), x0, o, zv_fin x0 o none)
def mX9_init_339 (N : Nat) (l0 : Nat) (s0 : Int32) (s1 : Nat) (x : zv_X) : Option zv_X := (zm_p x s1 9 1 (.int s0)).bind fun x1 => (zm_p x1 l0 9 5 (.int (7 : Int32))).bind fun x3 => (zm_R x3 l0 9 2).bind fun v5 => (zm_sI x3 v5 (0 : Int32) (-1 : Int32)).bind fun x7 => some x7
theorem kX9_init_339 {d : Nat} {x0 : zv_X} {o : zv_X} (hd : 1 ≤ d) {N : Nat} (l0 : Nat) (s0 : Int32) (s1 : Nat) (x : zv_X) (h : mX9_init_339 N l0 s0 s1 x = some o) : zv_V (fX9_init d x0 o) 339 [(0, .ref l0)] [.int s0, .ref s1] x := by
  unfold mX9_init_339 at h
  refine zr_p dX9_init_339 fl_1404 (fun _ => rfl) rfl rfl h (fun x1 e2 h => ?_)
  refine zv_aload_n (n := 0) dX9_init_342 rfl rfl ?_
  refine zv_bipush (v := 7) dX9_init_343 (by decide) ?_
  refine zr_p dX9_init_345 fl_1408 (fun q => nomatch q) rfl rfl h (fun x3 e4 h => ?_)
  refine zv_aload_n (n := 0) dX9_init_348 rfl rfl ?_
  refine zr_gR dX9_init_349 fg_1405 h (fun v5 e6 h => ?_)
  refine zv_iconst (v := 0) dX9_init_352 (by decide) ?_
  refine zv_iconst (v := -1) dX9_init_353 (by decide) ?_
  refine zr_sI dX9_init_354 h (fun x7 e8 h => ?_)
  cases h
  exact zv_vret dX9_init_355 rfl
def mX9_init_0 (N : Nat) (l0 : Nat) (l1 : Int32) (x : zv_X) : Option zv_X := (zm_na 0 x (30 : Int32)).bind fun x1 => (zm_p x1 l0 9 2 (.ref x.2.1)).bind fun x3 => (zm_na 0 x3 (30 : Int32)).bind fun x5 => (zm_p x5 l0 9 3 (.ref x3.2.1)).bind fun x7 => (zm_na 0 x7 (240 : Int32)).bind fun x9 => (zm_p x9 l0 9 4 (.ref x7.2.1)).bind fun x11 => (zm_na 0 x11 (200 : Int32)).bind fun x13 => (zm_p x13 l0 9 6 (.ref x11.2.1)).bind fun x15 => (zm_na 0 x15 (32 : Int32)).bind fun x17 => (zm_p x17 l0 9 8 (.ref x15.2.1)).bind fun x19 => (zm_na 0 x19 (640 : Int32)).bind fun x21 => (zm_p x21 l0 9 10 (.ref x19.2.1)).bind fun x23 => (zm_na 0 x23 (20 : Int32)).bind fun x25 => (zm_p x25 l0 9 11 (.ref x23.2.1)).bind fun x27 => (zm_na 0 x27 (20 : Int32)).bind fun x29 => (zm_p x29 l0 9 12 (.ref x27.2.1)).bind fun x31 => (zm_na 0 x31 (80 : Int32)).bind fun x33 => (zm_p x33 l0 9 13 (.ref x31.2.1)).bind fun x35 => (zm_na 0 x35 (20 : Int32)).bind fun x37 => (zm_p x37 l0 9 14 (.ref x35.2.1)).bind fun x39 => (zm_na 0 x39 (20 : Int32)).bind fun x41 => (zm_p x41 l0 9 15 (.ref x39.2.1)).bind fun x43 => (zm_na 0 x43 (20 : Int32)).bind fun x45 => (zm_p x45 l0 9 16 (.ref x43.2.1)).bind fun x47 => (zm_na 0 x47 (4000 : Int32)).bind fun x49 => (zm_p x49 l0 9 17 (.ref x47.2.1)).bind fun x51 => (zm_na 0 x51 (20 : Int32)).bind fun x53 => (zm_p x53 l0 9 18 (.ref x51.2.1)).bind fun x55 => (zm_na 3 x55 (200 : Int32)).bind fun x57 => (zm_p x57 l0 9 20 (.ref x55.2.1)).bind fun x59 => (zm_na 0 x59 (200 : Int32)).bind fun x61 => (zm_p x61 l0 9 21 (.ref x59.2.1)).bind fun x63 => (zm_na 0 x63 (2400 : Int32)).bind fun x65 => (zm_p x65 l0 9 22 (.ref x63.2.1)).bind fun x67 => (zm_na 0 x67 (3200 : Int32)).bind fun x69 => (zm_p x69 l0 9 23 (.ref x67.2.1)).bind fun x71 => (zm_na 0 x71 (16 : Int32)).bind fun x73 => (zm_p x73 l0 9 24 (.ref x71.2.1)).bind fun x75 => (zm_na 0 x75 (16 : Int32)).bind fun x77 => (zm_p x77 l0 9 26 (.ref x75.2.1)).bind fun x79 => (zm_na 3 x79 (201 : Int32)).bind fun x81 => (zm_p x81 l0 9 29 (.ref x79.2.1)).bind fun x83 => (zm_na 3 x83 (201 : Int32)).bind fun x85 => (zm_p x85 l0 9 30 (.ref x83.2.1)).bind fun x87 => (zm_na 0 x87 (201 : Int32)).bind fun x89 => (zm_p x89 l0 9 31 (.ref x87.2.1)).bind fun x91 => (zm_na 0 x91 (201 : Int32)).bind fun x93 => (zm_p x93 l0 9 32 (.ref x91.2.1)).bind fun x95 => (zm_na 0 x95 (201 : Int32)).bind fun x97 => (zm_p x97 l0 9 33 (.ref x95.2.1)).bind fun x99 => (zm_na 0 x99 (201 : Int32)).bind fun x101 => (zm_p x101 l0 9 34 (.ref x99.2.1)).bind fun x103 => (zm_na 0 x103 (201 : Int32)).bind fun x105 => (zm_p x105 l0 9 35 (.ref x103.2.1)).bind fun x107 => (zm_nL x107 (1700 : Int32)).bind fun x109 => (zm_p x109 l0 9 37 (.ref x107.2.1)).bind fun x111 => (zm_na 0 x111 (202 : Int32)).bind fun x113 => (zm_p x113 l0 9 39 (.ref x111.2.1)).bind fun x115 => (zm_na 0 x115 (16 : Int32)).bind fun x117 => (zm_p x117 l0 9 40 (.ref x115.2.1)).bind fun x119 => (zm_na 0 x119 (16 : Int32)).bind fun x121 => (zm_p x121 l0 9 41 (.ref x119.2.1)).bind fun x123 => (zm_na 0 x123 (16 : Int32)).bind fun x125 => (zm_p x125 l0 9 42 (.ref x123.2.1)).bind fun x127 => (zm_nL x127 (256 : Int32)).bind fun x129 => (zm_p x129 l0 9 43 (.ref x127.2.1)).bind fun x131 => (zm_na 0 x131 (256 : Int32)).bind fun x133 => (zm_p x133 l0 9 44 (.ref x131.2.1)).bind fun x135 => (zm_nL x135 (192 : Int32)).bind fun x137 => (zm_p x137 l0 9 45 (.ref x135.2.1)).bind fun x139 => (zm_na 0 x139 (192 : Int32)).bind fun x141 => (zm_p x141 l0 9 46 (.ref x139.2.1)).bind fun x143 => if (16 : Int32) ≤ l1 then (if l1 ≤ (400 : Int32) then (mX9_init_339 N l0 l1 l0 x143) else (mX9_init_339 N l0 (400 : Int32) l0 x143)) else (mX9_init_339 N l0 (16 : Int32) l0 x143)
theorem kX9_init_0 {d : Nat} {x0 : zv_X} {o : zv_X} (hd : 1 ≤ d) {N : Nat} (l0 : Nat) (l1 : Int32) (x : zv_X) (h : mX9_init_0 N l0 l1 x = some o) : zv_V (fX9_init d x0 o) 0 [(0, .ref l0), (1, .int l1)] [] x := by
  unfold mX9_init_0 at h
  refine zv_aload_n (n := 0) dX9_init_0 rfl rfl ?_
  refine zv_obj dX9_init_1 wd_1402 wd_130 wd_131 (show 1 ≤ d by omega) (Nat.le_of_ble_eq_true rfl) ?_
  refine zv_aload_n (n := 0) dX9_init_4 rfl rfl ?_
  refine zv_bipush (v := 30) dX9_init_5 (by decide) ?_
  refine zr_nI dX9_init_7 wd_156 h (fun x1 e2 h => ?_)
  refine zr_p dX9_init_9 fl_1405 (fun _ => rfl) rfl rfl h (fun x3 e4 h => ?_)
  refine zv_aload_n (n := 0) dX9_init_12 rfl rfl ?_
  refine zv_bipush (v := 30) dX9_init_13 (by decide) ?_
  refine zr_nI dX9_init_15 wd_156 h (fun x5 e6 h => ?_)
  refine zr_p dX9_init_17 fl_1406 (fun _ => rfl) rfl rfl h (fun x7 e8 h => ?_)
  refine zv_aload_n (n := 0) dX9_init_20 rfl rfl ?_
  refine zv_sipush (v := 240) dX9_init_21 (by decide) ?_
  refine zr_nI dX9_init_24 wd_156 h (fun x9 e10 h => ?_)
  refine zr_p dX9_init_26 fl_1407 (fun _ => rfl) rfl rfl h (fun x11 e12 h => ?_)
  refine zv_aload_n (n := 0) dX9_init_29 rfl rfl ?_
  refine zv_sipush (v := 200) dX9_init_30 (by decide) ?_
  refine zr_nI dX9_init_33 wd_156 h (fun x13 e14 h => ?_)
  refine zr_p dX9_init_35 fl_1409 (fun _ => rfl) rfl rfl h (fun x15 e16 h => ?_)
  refine zv_aload_n (n := 0) dX9_init_38 rfl rfl ?_
  refine zv_bipush (v := 32) dX9_init_39 (by decide) ?_
  refine zr_nI dX9_init_41 wd_156 h (fun x17 e18 h => ?_)
  refine zr_p dX9_init_43 fl_1411 (fun _ => rfl) rfl rfl h (fun x19 e20 h => ?_)
  refine zv_aload_n (n := 0) dX9_init_46 rfl rfl ?_
  refine zv_sipush (v := 640) dX9_init_47 (by decide) ?_
  refine zr_nI dX9_init_50 wd_156 h (fun x21 e22 h => ?_)
  refine zr_p dX9_init_52 fl_1413 (fun _ => rfl) rfl rfl h (fun x23 e24 h => ?_)
  refine zv_aload_n (n := 0) dX9_init_55 rfl rfl ?_
  refine zv_bipush (v := 20) dX9_init_56 (by decide) ?_
  refine zr_nI dX9_init_58 wd_156 h (fun x25 e26 h => ?_)
  refine zr_p dX9_init_60 fl_1414 (fun _ => rfl) rfl rfl h (fun x27 e28 h => ?_)
  refine zv_aload_n (n := 0) dX9_init_63 rfl rfl ?_
  refine zv_bipush (v := 20) dX9_init_64 (by decide) ?_
  refine zr_nI dX9_init_66 wd_156 h (fun x29 e30 h => ?_)
  refine zr_p dX9_init_68 fl_1415 (fun _ => rfl) rfl rfl h (fun x31 e32 h => ?_)
  refine zv_aload_n (n := 0) dX9_init_71 rfl rfl ?_
  refine zv_bipush (v := 80) dX9_init_72 (by decide) ?_
  refine zr_nI dX9_init_74 wd_156 h (fun x33 e34 h => ?_)
  refine zr_p dX9_init_76 fl_1416 (fun _ => rfl) rfl rfl h (fun x35 e36 h => ?_)
  refine zv_aload_n (n := 0) dX9_init_79 rfl rfl ?_
  refine zv_bipush (v := 20) dX9_init_80 (by decide) ?_
  refine zr_nI dX9_init_82 wd_156 h (fun x37 e38 h => ?_)
  refine zr_p dX9_init_84 fl_1417 (fun _ => rfl) rfl rfl h (fun x39 e40 h => ?_)
  refine zv_aload_n (n := 0) dX9_init_87 rfl rfl ?_
  refine zv_bipush (v := 20) dX9_init_88 (by decide) ?_
  refine zr_nI dX9_init_90 wd_156 h (fun x41 e42 h => ?_)
  refine zr_p dX9_init_92 fl_1418 (fun _ => rfl) rfl rfl h (fun x43 e44 h => ?_)
  refine zv_aload_n (n := 0) dX9_init_95 rfl rfl ?_
  refine zv_bipush (v := 20) dX9_init_96 (by decide) ?_
  refine zr_nI dX9_init_98 wd_156 h (fun x45 e46 h => ?_)
  refine zr_p dX9_init_100 fl_1419 (fun _ => rfl) rfl rfl h (fun x47 e48 h => ?_)
  refine zv_aload_n (n := 0) dX9_init_103 rfl rfl ?_
  refine zv_sipush (v := 4000) dX9_init_104 (by decide) ?_
  refine zr_nI dX9_init_107 wd_156 h (fun x49 e50 h => ?_)
  refine zr_p dX9_init_109 fl_1420 (fun _ => rfl) rfl rfl h (fun x51 e52 h => ?_)
  refine zv_aload_n (n := 0) dX9_init_112 rfl rfl ?_
  refine zv_bipush (v := 20) dX9_init_113 (by decide) ?_
  refine zr_nI dX9_init_115 wd_156 h (fun x53 e54 h => ?_)
  refine zr_p dX9_init_117 fl_1421 (fun _ => rfl) rfl rfl h (fun x55 e56 h => ?_)
  refine zv_aload_n (n := 0) dX9_init_120 rfl rfl ?_
  refine zv_sipush (v := 200) dX9_init_121 (by decide) ?_
  refine zr_nZ dX9_init_124 wd_248 h (fun x57 e58 h => ?_)
  refine zr_p dX9_init_126 fl_1423 (fun _ => rfl) rfl rfl h (fun x59 e60 h => ?_)
  refine zv_aload_n (n := 0) dX9_init_129 rfl rfl ?_
  refine zv_sipush (v := 200) dX9_init_130 (by decide) ?_
  refine zr_nI dX9_init_133 wd_156 h (fun x61 e62 h => ?_)
  refine zr_p dX9_init_135 fl_1424 (fun _ => rfl) rfl rfl h (fun x63 e64 h => ?_)
  refine zv_aload_n (n := 0) dX9_init_138 rfl rfl ?_
  refine zv_sipush (v := 2400) dX9_init_139 (by decide) ?_
  refine zr_nI dX9_init_142 wd_156 h (fun x65 e66 h => ?_)
  refine zr_p dX9_init_144 fl_1425 (fun _ => rfl) rfl rfl h (fun x67 e68 h => ?_)
  refine zv_aload_n (n := 0) dX9_init_147 rfl rfl ?_
  refine zv_sipush (v := 3200) dX9_init_148 (by decide) ?_
  refine zr_nI dX9_init_151 wd_156 h (fun x69 e70 h => ?_)
  refine zr_p dX9_init_153 fl_1426 (fun _ => rfl) rfl rfl h (fun x71 e72 h => ?_)
  refine zv_aload_n (n := 0) dX9_init_156 rfl rfl ?_
  refine zv_bipush (v := 16) dX9_init_157 (by decide) ?_
  refine zr_nI dX9_init_159 wd_156 h (fun x73 e74 h => ?_)
  refine zr_p dX9_init_161 fl_1427 (fun _ => rfl) rfl rfl h (fun x75 e76 h => ?_)
  refine zv_aload_n (n := 0) dX9_init_164 rfl rfl ?_
  refine zv_bipush (v := 16) dX9_init_165 (by decide) ?_
  refine zr_nI dX9_init_167 wd_156 h (fun x77 e78 h => ?_)
  refine zr_p dX9_init_169 fl_1429 (fun _ => rfl) rfl rfl h (fun x79 e80 h => ?_)
  refine zv_aload_n (n := 0) dX9_init_172 rfl rfl ?_
  refine zv_sipush (v := 201) dX9_init_173 (by decide) ?_
  refine zr_nZ dX9_init_176 wd_248 h (fun x81 e82 h => ?_)
  refine zr_p dX9_init_178 fl_1432 (fun _ => rfl) rfl rfl h (fun x83 e84 h => ?_)
  refine zv_aload_n (n := 0) dX9_init_181 rfl rfl ?_
  refine zv_sipush (v := 201) dX9_init_182 (by decide) ?_
  refine zr_nZ dX9_init_185 wd_248 h (fun x85 e86 h => ?_)
  refine zr_p dX9_init_187 fl_1433 (fun _ => rfl) rfl rfl h (fun x87 e88 h => ?_)
  refine zv_aload_n (n := 0) dX9_init_190 rfl rfl ?_
  refine zv_sipush (v := 201) dX9_init_191 (by decide) ?_
  refine zr_nI dX9_init_194 wd_156 h (fun x89 e90 h => ?_)
  refine zr_p dX9_init_196 fl_1434 (fun _ => rfl) rfl rfl h (fun x91 e92 h => ?_)
  refine zv_aload_n (n := 0) dX9_init_199 rfl rfl ?_
  refine zv_sipush (v := 201) dX9_init_200 (by decide) ?_
  refine zr_nI dX9_init_203 wd_156 h (fun x93 e94 h => ?_)
  refine zr_p dX9_init_205 fl_1435 (fun _ => rfl) rfl rfl h (fun x95 e96 h => ?_)
  refine zv_aload_n (n := 0) dX9_init_208 rfl rfl ?_
  refine zv_sipush (v := 201) dX9_init_209 (by decide) ?_
  refine zr_nI dX9_init_212 wd_156 h (fun x97 e98 h => ?_)
  refine zr_p dX9_init_214 fl_1436 (fun _ => rfl) rfl rfl h (fun x99 e100 h => ?_)
  refine zv_aload_n (n := 0) dX9_init_217 rfl rfl ?_
  refine zv_sipush (v := 201) dX9_init_218 (by decide) ?_
  refine zr_nI dX9_init_221 wd_156 h (fun x101 e102 h => ?_)
  refine zr_p dX9_init_223 fl_1437 (fun _ => rfl) rfl rfl h (fun x103 e104 h => ?_)
  refine zv_aload_n (n := 0) dX9_init_226 rfl rfl ?_
  refine zv_sipush (v := 201) dX9_init_227 (by decide) ?_
  refine zr_nI dX9_init_230 wd_156 h (fun x105 e106 h => ?_)
  refine zr_p dX9_init_232 fl_1438 (fun _ => rfl) rfl rfl h (fun x107 e108 h => ?_)
  refine zv_aload_n (n := 0) dX9_init_235 rfl rfl ?_
  refine zv_sipush (v := 1700) dX9_init_236 (by decide) ?_
  refine zr_nL dX9_init_239 wd_365 h (fun x109 e110 h => ?_)
  refine zr_p dX9_init_241 fl_1440 (fun _ => rfl) rfl rfl h (fun x111 e112 h => ?_)
  refine zv_aload_n (n := 0) dX9_init_244 rfl rfl ?_
  refine zv_sipush (v := 202) dX9_init_245 (by decide) ?_
  refine zr_nI dX9_init_248 wd_156 h (fun x113 e114 h => ?_)
  refine zr_p dX9_init_250 fl_1442 (fun _ => rfl) rfl rfl h (fun x115 e116 h => ?_)
  refine zv_aload_n (n := 0) dX9_init_253 rfl rfl ?_
  refine zv_bipush (v := 16) dX9_init_254 (by decide) ?_
  refine zr_nI dX9_init_256 wd_156 h (fun x117 e118 h => ?_)
  refine zr_p dX9_init_258 fl_1443 (fun _ => rfl) rfl rfl h (fun x119 e120 h => ?_)
  refine zv_aload_n (n := 0) dX9_init_261 rfl rfl ?_
  refine zv_bipush (v := 16) dX9_init_262 (by decide) ?_
  refine zr_nI dX9_init_264 wd_156 h (fun x121 e122 h => ?_)
  refine zr_p dX9_init_266 fl_1444 (fun _ => rfl) rfl rfl h (fun x123 e124 h => ?_)
  refine zv_aload_n (n := 0) dX9_init_269 rfl rfl ?_
  refine zv_bipush (v := 16) dX9_init_270 (by decide) ?_
  refine zr_nI dX9_init_272 wd_156 h (fun x125 e126 h => ?_)
  refine zr_p dX9_init_274 fl_1445 (fun _ => rfl) rfl rfl h (fun x127 e128 h => ?_)
  refine zv_aload_n (n := 0) dX9_init_277 rfl rfl ?_
  refine zv_sipush (v := 256) dX9_init_278 (by decide) ?_
  refine zr_nL dX9_init_281 wd_365 h (fun x129 e130 h => ?_)
  refine zr_p dX9_init_283 fl_1446 (fun _ => rfl) rfl rfl h (fun x131 e132 h => ?_)
  refine zv_aload_n (n := 0) dX9_init_286 rfl rfl ?_
  refine zv_sipush (v := 256) dX9_init_287 (by decide) ?_
  refine zr_nI dX9_init_290 wd_156 h (fun x133 e134 h => ?_)
  refine zr_p dX9_init_292 fl_1447 (fun _ => rfl) rfl rfl h (fun x135 e136 h => ?_)
  refine zv_aload_n (n := 0) dX9_init_295 rfl rfl ?_
  refine zv_sipush (v := 192) dX9_init_296 (by decide) ?_
  refine zr_nL dX9_init_299 wd_365 h (fun x137 e138 h => ?_)
  refine zr_p dX9_init_301 fl_1448 (fun _ => rfl) rfl rfl h (fun x139 e140 h => ?_)
  refine zv_aload_n (n := 0) dX9_init_304 rfl rfl ?_
  refine zv_sipush (v := 192) dX9_init_305 (by decide) ?_
  refine zr_nI dX9_init_308 wd_156 h (fun x141 e142 h => ?_)
  refine zr_p dX9_init_310 fl_1449 (fun _ => rfl) rfl rfl h (fun x143 e144 h => ?_)
  refine zv_aload_n (n := 0) dX9_init_313 rfl rfl ?_
  refine zv_iload_n (n := 1) dX9_init_314 rfl rfl ?_
  refine zv_bipush (v := 16) dX9_init_315 (by decide) ?_
  refine zr_icmp_ge (tgt := 325) dX9_init_317 (by decide) h (fun c146 h => ?_) (fun c146 h => ?_)
  · refine zv_iload_n (n := 1) dX9_init_325 rfl rfl ?_
    refine zv_sipush (v := 400) dX9_init_326 (by decide) ?_
    refine zr_icmp_le (tgt := 338) dX9_init_329 (by decide) h (fun c145 h => ?_) (fun c145 h => ?_)
    · refine zv_iload_n (n := 1) dX9_init_338 rfl rfl ?_
      exact zv_fewer [0] rfl (kX9_init_339 hd _ _ _ _ h)
    · refine zv_sipush (v := 400) dX9_init_332 (by decide) ?_
      refine zv_goto (tgt := 339) dX9_init_335 (by decide) ?_
      exact zv_fewer [0] rfl (kX9_init_339 hd _ _ _ _ h)
  · refine zv_bipush (v := 16) dX9_init_320 (by decide) ?_
    refine zv_goto (tgt := 339) dX9_init_322 (by decide) ?_
    exact zv_fewer [0] rfl (kX9_init_339 hd _ _ _ _ h)
def mX9_init (N : Nat) (a0 : Nat) (a1 : Int32) (x : zv_X) : Option zv_X := mX9_init_0 N a0 a1 x
theorem tX9_init {d : Nat} (hd : 1 ≤ d) {N : Nat} {x : zv_X} {a0 : Nat} {a1 : Int32} {o : zv_X} (h : mX9_init N a0 a1 x = some o) : zv_T d yX9_init cX9_init 2 (none) [.ref a0, .int a1] x o none := by
  unfold mX9_init at h
  exact zv_enter (by decide) (Nat.le_of_ble_eq_true rfl) (kX9_init_0 hd _ _ _ h)

abbrev fX9_feed (d : Nat) (x0 : zv_X) (o : (zv_X × Int32)) : zv_G := (d, RX9, cX9_feed, 9, (some .int), ("feed", []), x0, o.1, zv_fin x0 o.1 (some (.int o.2)))
def mX9_feed_104 (K51 : Nat → Int32 → Int32 → Int32 → Int32 → Int32 → Int32 → Int32 → zv_X → Option (zv_X × Int32)) (N : Nat) (l0 : Nat) (l1 : Int32) (l2 : Int32) (l3 : Int32) (l4 : Int32) (l5 : Int32) (l6 : Int32) (l7 : Int32) (s0 : Int32) (x : zv_X) : Option (zv_X × Int32) := (zm_R x l0 9 6).bind fun v1 => (zm_I x l0 9 7).bind fun v3 => (zm_sI x v1 v3 ((s0 >>> (((24 : Int32) - ((8 : Int32) * (l7 - l7 / (4 : Int32) * (4 : Int32)))) &&& 31)) &&& (255 : Int32))).bind fun x5 => (zm_I x5 l0 9 7).bind fun v7 => (zm_p x5 l0 9 7 (.int (v7 + (1 : Int32)))).bind fun x9 => K51 l0 l1 l2 l3 l4 l5 l6 (l7 + (1)) x9
theorem kX9_feed_104 {d : Nat} {x0 : zv_X} {o : (zv_X × Int32)} (hd : 0 ≤ d) {K51 : Nat → Int32 → Int32 → Int32 → Int32 → Int32 → Int32 → Int32 → zv_X → Option (zv_X × Int32)} (hK51 : ∀ (l0 : Nat) (l1 : Int32) (l2 : Int32) (l3 : Int32) (l4 : Int32) (l5 : Int32) (l6 : Int32) (l7 : Int32) (x : zv_X), K51 l0 l1 l2 l3 l4 l5 l6 l7 x = some o → zv_V (fX9_feed d x0 o) 51 [(0, .ref l0), (1, .int l1), (2, .int l2), (3, .int l3), (4, .int l4), (5, .int l5), (6, .int l6), (7, .int l7)] [] x) {N : Nat} (l0 : Nat) (l1 : Int32) (l2 : Int32) (l3 : Int32) (l4 : Int32) (l5 : Int32) (l6 : Int32) (l7 : Int32) (s0 : Int32) (x : zv_X) (h : mX9_feed_104 K51 N l0 l1 l2 l3 l4 l5 l6 l7 s0 x = some o) : zv_V (fX9_feed d x0 o) 104 [(0, .ref l0), (1, .int l1), (2, .int l2), (3, .int l3), (4, .int l4), (5, .int l5), (6, .int l6), (7, .int l7)] [.int s0] x := by
  unfold mX9_feed_104 at h
  refine zv_istore (L' := [(8, .int s0), (0, .ref l0), (1, .int l1), (2, .int l2), (3, .int l3), (4, .int l4), (5, .int l5), (6, .int l6), (7, .int l7)]) dX9_feed_104 (Nat.le_of_ble_eq_true rfl) rfl ?_
  refine zv_aload_n (n := 1) dX9_feed_106 rfl rfl ?_
  refine zr_gR dX9_feed_107 fg_1409 h (fun v1 e2 h => ?_)
  refine zv_aload_n (n := 1) dX9_feed_110 rfl rfl ?_
  refine zr_gI dX9_feed_111 fg_1410 h (fun v3 e4 h => ?_)
  refine zv_iload (n := 0) dX9_feed_114 rfl ?_
  refine zv_bipush (v := 24) dX9_feed_116 (by decide) ?_
  refine zv_bipush (v := 8) dX9_feed_118 (by decide) ?_
  refine zv_iload (n := 8) dX9_feed_120 rfl ?_
  refine zv_iconst (v := 4) dX9_feed_122 (by decide) ?_
  refine zv_irem dX9_feed_123 (by decide) ?_
  refine zv_imul dX9_feed_124 ?_
  refine zv_isub dX9_feed_125 ?_
  refine zv_ishr dX9_feed_126 ?_
  refine zv_sipush (v := 255) dX9_feed_127 (by decide) ?_
  refine zv_iand dX9_feed_130 ?_
  refine zr_sI dX9_feed_131 h (fun x5 e6 h => ?_)
  refine zv_aload_n (n := 1) dX9_feed_132 rfl rfl ?_
  refine zv_dup dX9_feed_133 rfl ?_
  refine zr_gI dX9_feed_134 fg_1410 h (fun v7 e8 h => ?_)
  refine zv_iconst (v := 1) dX9_feed_137 (by decide) ?_
  refine zv_iadd dX9_feed_138 ?_
  refine zr_p dX9_feed_139 fl_1410 (fun q => nomatch q) rfl rfl h (fun x9 e10 h => ?_)
  refine zv_iinc (n := 8) (v := l7 + (1)) (L' := [(7, .int (l7 + (1))), (8, .int s0), (0, .ref l0), (1, .int l1), (2, .int l2), (3, .int l3), (4, .int l4), (5, .int l5), (6, .int l6)]) dX9_feed_142 rfl rfl (Nat.le_of_ble_eq_true rfl) rfl ?_
  refine zv_goto (tgt := 51) dX9_feed_145 (by decide) ?_
  exact zv_fewer [2, 3, 4, 5, 6, 7, 8, 0] rfl (hK51 _ _ _ _ _ _ _ _ _ h)
def mX9_feed_51 (N : Nat) : Nat → Nat → Int32 → Int32 → Int32 → Int32 → Int32 → Int32 → Int32 → zv_X → Option (zv_X × Int32)
  | 0, _, _, _, _, _, _, _, _, _ => none
  | n + 1, l0, l1, l2, l3, l4, l5, l6, l7, x => if l6 ≤ l7 then ((zm_I x l0 9 7).bind fun v1 => some (x, v1)) else (if (4 : Int32) ≤ l7 then (if (8 : Int32) ≤ l7 then (if (12 : Int32) ≤ l7 then (if (16 : Int32) ≤ l7 then (mX9_feed_104 (mX9_feed_51 N n) N l0 l1 l2 l3 l4 l5 l6 l7 l5 x) else (mX9_feed_104 (mX9_feed_51 N n) N l0 l1 l2 l3 l4 l5 l6 l7 l4 x)) else (mX9_feed_104 (mX9_feed_51 N n) N l0 l1 l2 l3 l4 l5 l6 l7 l3 x)) else (mX9_feed_104 (mX9_feed_51 N n) N l0 l1 l2 l3 l4 l5 l6 l7 l2 x)) else (mX9_feed_104 (mX9_feed_51 N n) N l0 l1 l2 l3 l4 l5 l6 l7 l1 x))
theorem kX9_feed_51 {d : Nat} {x0 : zv_X} {o : (zv_X × Int32)} (hd : 0 ≤ d) {N : Nat} : ∀ (n : Nat) (l0 : Nat) (l1 : Int32) (l2 : Int32) (l3 : Int32) (l4 : Int32) (l5 : Int32) (l6 : Int32) (l7 : Int32) (x : zv_X), mX9_feed_51 N n l0 l1 l2 l3 l4 l5 l6 l7 x = some o → zv_V (fX9_feed d x0 o) 51 [(0, .ref l0), (1, .int l1), (2, .int l2), (3, .int l3), (4, .int l4), (5, .int l5), (6, .int l6), (7, .int l7)] [] x := by
  intro n
  induction n with
  | zero => intro l0 l1 l2 l3 l4 l5 l6 l7 x h; cases h
  | succ n ih =>
    intro l0 l1 l2 l3 l4 l5 l6 l7 x h
    unfold mX9_feed_51 at h
    refine zv_iload (n := 7) dX9_feed_51 rfl ?_
    refine zv_iload (n := 6) dX9_feed_53 rfl ?_
    refine zr_icmp_ge (tgt := 148) dX9_feed_55 (by decide) h (fun c7 h => ?_) (fun c7 h => ?_)
    · refine zv_aload_n (n := 0) dX9_feed_148 rfl rfl ?_
      refine zr_gI dX9_feed_149 fg_1410 h (fun v1 e2 h => ?_)
      cases h
      exact zv_iret dX9_feed_152 rfl
    · refine zv_iload (n := 7) dX9_feed_58 rfl ?_
      refine zv_iconst (v := 4) dX9_feed_60 (by decide) ?_
      refine zr_icmp_ge (tgt := 68) dX9_feed_61 (by decide) h (fun c6 h => ?_) (fun c6 h => ?_)
      · refine zv_iload (n := 7) dX9_feed_68 rfl ?_
        refine zv_bipush (v := 8) dX9_feed_70 (by decide) ?_
        refine zr_icmp_ge (tgt := 79) dX9_feed_72 (by decide) h (fun c5 h => ?_) (fun c5 h => ?_)
        · refine zv_iload (n := 7) dX9_feed_79 rfl ?_
          refine zv_bipush (v := 12) dX9_feed_81 (by decide) ?_
          refine zr_icmp_ge (tgt := 90) dX9_feed_83 (by decide) h (fun c4 h => ?_) (fun c4 h => ?_)
          · refine zv_iload (n := 7) dX9_feed_90 rfl ?_
            refine zv_bipush (v := 16) dX9_feed_92 (by decide) ?_
            refine zr_icmp_ge (tgt := 102) dX9_feed_94 (by decide) h (fun c3 h => ?_) (fun c3 h => ?_)
            · refine zv_iload (n := 5) dX9_feed_102 rfl ?_
              exact kX9_feed_104 hd ih _ _ _ _ _ _ _ _ _ _ h
            · refine zv_iload (n := 4) dX9_feed_97 rfl ?_
              refine zv_goto (tgt := 104) dX9_feed_99 (by decide) ?_
              exact kX9_feed_104 hd ih _ _ _ _ _ _ _ _ _ _ h
          · refine zv_iload_n (n := 3) dX9_feed_86 rfl rfl ?_
            refine zv_goto (tgt := 104) dX9_feed_87 (by decide) ?_
            exact kX9_feed_104 hd ih _ _ _ _ _ _ _ _ _ _ h
        · refine zv_iload_n (n := 2) dX9_feed_75 rfl rfl ?_
          refine zv_goto (tgt := 104) dX9_feed_76 (by decide) ?_
          exact kX9_feed_104 hd ih _ _ _ _ _ _ _ _ _ _ h
      · refine zv_iload_n (n := 1) dX9_feed_64 rfl rfl ?_
        refine zv_goto (tgt := 104) dX9_feed_65 (by decide) ?_
        exact kX9_feed_104 hd ih _ _ _ _ _ _ _ _ _ _ h
def mX9_feed_36 (N : Nat) (l0 : Nat) (l1 : Int32) (l2 : Int32) (l3 : Int32) (l4 : Int32) (l5 : Int32) (l6 : Int32) (s0 : Int32) (s1 : Nat) (x : zv_X) : Option (zv_X × Int32) := (zm_p x s1 9 0 (.int s0)).bind fun x1 => (zm_I x1 l0 9 0).bind fun v3 => if v3 ≤ 0 then (mX9_feed_51 N N l0 l1 l2 l3 l4 l5 l6 (0 : Int32) x1) else (some (x1, (0 : Int32)))
theorem kX9_feed_36 {d : Nat} {x0 : zv_X} {o : (zv_X × Int32)} (hd : 0 ≤ d) {N : Nat} (l0 : Nat) (l1 : Int32) (l2 : Int32) (l3 : Int32) (l4 : Int32) (l5 : Int32) (l6 : Int32) (s0 : Int32) (s1 : Nat) (x : zv_X) (h : mX9_feed_36 N l0 l1 l2 l3 l4 l5 l6 s0 s1 x = some o) : zv_V (fX9_feed d x0 o) 36 [(0, .ref l0), (1, .int l1), (2, .int l2), (3, .int l3), (4, .int l4), (5, .int l5), (6, .int l6)] [.int s0, .ref s1] x := by
  unfold mX9_feed_36 at h
  refine zr_p dX9_feed_36 fl_1403 (fun q => nomatch q) rfl rfl h (fun x1 e2 h => ?_)
  refine zv_aload_n (n := 0) dX9_feed_39 rfl rfl ?_
  refine zr_gI dX9_feed_40 fg_1403 h (fun v3 e4 h => ?_)
  refine zr_if_le (tgt := 48) dX9_feed_43 (by decide) h (fun c5 h => ?_) (fun c5 h => ?_)
  · refine zv_iconst (v := 0) dX9_feed_48 (by decide) ?_
    refine zv_istore (L' := [(7, .int (0 : Int32)), (0, .ref l0), (1, .int l1), (2, .int l2), (3, .int l3), (4, .int l4), (5, .int l5), (6, .int l6)]) dX9_feed_49 (Nat.le_of_ble_eq_true rfl) rfl ?_
    exact zv_fewer [1, 2, 3, 4, 5, 6, 7, 0] rfl (kX9_feed_51 hd N _ _ _ _ _ _ _ _ _ h)
  · refine zv_iconst (v := 0) dX9_feed_46 (by decide) ?_
    cases h
    exact zv_iret dX9_feed_47 rfl
def mX9_feed_14 (N : Nat) (l0 : Nat) (l1 : Int32) (l2 : Int32) (l3 : Int32) (l4 : Int32) (l5 : Int32) (l6 : Int32) (s0 : Nat) (x : zv_X) : Option (zv_X × Int32) := mX9_feed_36 N l0 l1 l2 l3 l4 l5 l6 (1 : Int32) s0 x
theorem kX9_feed_14 {d : Nat} {x0 : zv_X} {o : (zv_X × Int32)} (hd : 0 ≤ d) {N : Nat} (l0 : Nat) (l1 : Int32) (l2 : Int32) (l3 : Int32) (l4 : Int32) (l5 : Int32) (l6 : Int32) (s0 : Nat) (x : zv_X) (h : mX9_feed_14 N l0 l1 l2 l3 l4 l5 l6 s0 x = some o) : zv_V (fX9_feed d x0 o) 14 [(0, .ref l0), (1, .int l1), (2, .int l2), (3, .int l3), (4, .int l4), (5, .int l5), (6, .int l6)] [.ref s0] x := by
  unfold mX9_feed_14 at h
  refine zv_iconst (v := 1) dX9_feed_14 (by decide) ?_
  refine zv_goto (tgt := 36) dX9_feed_15 (by decide) ?_
  exact kX9_feed_36 hd _ _ _ _ _ _ _ _ _ _ h
def mX9_feed_0 (N : Nat) (l0 : Nat) (l1 : Int32) (l2 : Int32) (l3 : Int32) (l4 : Int32) (l5 : Int32) (l6 : Int32) (x : zv_X) : Option (zv_X × Int32) := if l6 < (1 : Int32) then (mX9_feed_14 N l0 l1 l2 l3 l4 l5 l6 l0 x) else (if l6 ≤ (20 : Int32) then ((zm_I x l0 9 7).bind fun v1 => if (v1 + l6) ≤ (200 : Int32) then (mX9_feed_36 N l0 l1 l2 l3 l4 l5 l6 (0 : Int32) l0 x) else (mX9_feed_36 N l0 l1 l2 l3 l4 l5 l6 (2 : Int32) l0 x)) else (mX9_feed_14 N l0 l1 l2 l3 l4 l5 l6 l0 x))
theorem kX9_feed_0 {d : Nat} {x0 : zv_X} {o : (zv_X × Int32)} (hd : 0 ≤ d) {N : Nat} (l0 : Nat) (l1 : Int32) (l2 : Int32) (l3 : Int32) (l4 : Int32) (l5 : Int32) (l6 : Int32) (x : zv_X) (h : mX9_feed_0 N l0 l1 l2 l3 l4 l5 l6 x = some o) : zv_V (fX9_feed d x0 o) 0 [(0, .ref l0), (1, .int l1), (2, .int l2), (3, .int l3), (4, .int l4), (5, .int l5), (6, .int l6)] [] x := by
  unfold mX9_feed_0 at h
  refine zv_aload_n (n := 0) dX9_feed_0 rfl rfl ?_
  refine zv_iload (n := 6) dX9_feed_1 rfl ?_
  refine zv_iconst (v := 1) dX9_feed_3 (by decide) ?_
  refine zr_icmp_lt (tgt := 14) dX9_feed_4 (by decide) h (fun c5 h => ?_) (fun c5 h => ?_)
  · exact kX9_feed_14 hd _ _ _ _ _ _ _ _ _ h
  · refine zv_iload (n := 6) dX9_feed_7 rfl ?_
    refine zv_bipush (v := 20) dX9_feed_9 (by decide) ?_
    refine zr_icmp_le (tgt := 18) dX9_feed_11 (by decide) h (fun c4 h => ?_) (fun c4 h => ?_)
    · refine zv_aload_n (n := 0) dX9_feed_18 rfl rfl ?_
      refine zr_gI dX9_feed_19 fg_1410 h (fun v1 e2 h => ?_)
      refine zv_iload (n := 6) dX9_feed_22 rfl ?_
      refine zv_iadd dX9_feed_24 ?_
      refine zv_sipush (v := 200) dX9_feed_25 (by decide) ?_
      refine zr_icmp_le (tgt := 35) dX9_feed_28 (by decide) h (fun c3 h => ?_) (fun c3 h => ?_)
      · refine zv_iconst (v := 0) dX9_feed_35 (by decide) ?_
        exact kX9_feed_36 hd _ _ _ _ _ _ _ _ _ _ h
      · refine zv_iconst (v := 2) dX9_feed_31 (by decide) ?_
        refine zv_goto (tgt := 36) dX9_feed_32 (by decide) ?_
        exact kX9_feed_36 hd _ _ _ _ _ _ _ _ _ _ h
    · exact kX9_feed_14 hd _ _ _ _ _ _ _ _ _ h
def mX9_feed (N : Nat) (a0 : Nat) (a1 : Int32) (a2 : Int32) (a3 : Int32) (a4 : Int32) (a5 : Int32) (a6 : Int32) (x : zv_X) : Option (zv_X × Int32) := mX9_feed_0 N a0 a1 a2 a3 a4 a5 a6 x
theorem tX9_feed {d : Nat} (hd : 0 ≤ d) {N : Nat} {x : zv_X} {a0 : Nat} {a1 : Int32} {a2 : Int32} {a3 : Int32} {a4 : Int32} {a5 : Int32} {a6 : Int32} {o : (zv_X × Int32)} (h : mX9_feed N a0 a1 a2 a3 a4 a5 a6 x = some o) : zv_T d yX9_feed cX9_feed 9 ((some .int)) [.ref a0, .int a1, .int a2, .int a3, .int a4, .int a5, .int a6] x o.1 (some (.int o.2)) := by
  unfold mX9_feed at h
  exact zv_enter (by decide) (Nat.le_of_ble_eq_true rfl) (kX9_feed_0 hd _ _ _ _ _ _ _ _ h)

abbrev fX9_type (d : Nat) (x0 : zv_X) (o : (zv_X × Int32)) : zv_G := (d, RX9, cX9_type, 7, (some .int), ("type", []), x0, o.1, zv_fin x0 o.1 (some (.int o.2)))
def mX9_type_178 (K140 : Nat → Int32 → Int32 → Int32 → Int32 → zv_X → Option (zv_X × Int32)) (N : Nat) (l0 : Nat) (l2 : Int32) (l3 : Int32) (l5 : Int32) (l6 : Int32) (s0 : Int32) (s1 : Int32) (s2 : Nat) (x : zv_X) : Option (zv_X × Int32) := (zm_sI x s2 s1 s0).bind fun x1 => K140 l0 l2 l3 l5 (l6 + (1)) x1
theorem kX9_type_178 {d : Nat} {x0 : zv_X} {o : (zv_X × Int32)} (hd : 0 ≤ d) {K140 : Nat → Int32 → Int32 → Int32 → Int32 → zv_X → Option (zv_X × Int32)} (hK140 : ∀ (l0 : Nat) (l2 : Int32) (l3 : Int32) (l5 : Int32) (l6 : Int32) (x : zv_X), K140 l0 l2 l3 l5 l6 x = some o → zv_V (fX9_type d x0 o) 140 [(0, .ref l0), (2, .int l2), (3, .int l3), (5, .int l5), (6, .int l6)] [] x) {N : Nat} (l0 : Nat) (l2 : Int32) (l3 : Int32) (l5 : Int32) (l6 : Int32) (s0 : Int32) (s1 : Int32) (s2 : Nat) (x : zv_X) (h : mX9_type_178 K140 N l0 l2 l3 l5 l6 s0 s1 s2 x = some o) : zv_V (fX9_type d x0 o) 178 [(0, .ref l0), (2, .int l2), (3, .int l3), (5, .int l5), (6, .int l6)] [.int s0, .int s1, .ref s2] x := by
  unfold mX9_type_178 at h
  refine zr_sI dX9_type_178 h (fun x1 e2 h => ?_)
  refine zv_iinc (n := 4) (v := l6 + (1)) (L' := [(6, .int (l6 + (1))), (0, .ref l0), (2, .int l2), (3, .int l3), (5, .int l5)]) dX9_type_179 rfl rfl (Nat.le_of_ble_eq_true rfl) rfl ?_
  refine zv_goto (tgt := 140) dX9_type_182 (by decide) ?_
  exact zv_fewer [1, 2, 3, 4, 0] rfl (hK140 _ _ _ _ _ _ h)
def mX9_type_140 (N : Nat) : Nat → Nat → Int32 → Int32 → Int32 → Int32 → zv_X → Option (zv_X × Int32)
  | 0, _, _, _, _, _, _ => none
  | n + 1, l0, l2, l3, l5, l6, x => if l2 ≤ l6 then ((zm_R x l0 9 3).bind fun v1 => (zm_I x l0 9 5).bind fun v3 => (zm_sI x v1 v3 (l5 + l2)).bind fun x5 => (zm_I x5 l0 9 5).bind fun v7 => (zm_p x5 l0 9 5 (.int (v7 + (1 : Int32)))).bind fun x9 => (zm_I x9 l0 9 5).bind fun v11 => some (x9, v11 - (1 : Int32))) else ((zm_R x l0 9 4).bind fun v13 => (zm_I x l0 9 5).bind fun v15 => if ((l3 >>> (l6 &&& 31)) &&& (1 : Int32)) = (1 : Int32) then (mX9_type_178 (mX9_type_140 N n) N l0 l2 l3 l5 l6 (3 : Int32) ((((8 : Int32) * v15) + l5) + l6) v13 x) else (mX9_type_178 (mX9_type_140 N n) N l0 l2 l3 l5 l6 (1 : Int32) ((((8 : Int32) * v15) + l5) + l6) v13 x))
theorem kX9_type_140 {d : Nat} {x0 : zv_X} {o : (zv_X × Int32)} (hd : 0 ≤ d) {N : Nat} : ∀ (n : Nat) (l0 : Nat) (l2 : Int32) (l3 : Int32) (l5 : Int32) (l6 : Int32) (x : zv_X), mX9_type_140 N n l0 l2 l3 l5 l6 x = some o → zv_V (fX9_type d x0 o) 140 [(0, .ref l0), (2, .int l2), (3, .int l3), (5, .int l5), (6, .int l6)] [] x := by
  intro n
  induction n with
  | zero => intro l0 l2 l3 l5 l6 x h; cases h
  | succ n ih =>
    intro l0 l2 l3 l5 l6 x h
    unfold mX9_type_140 at h
    refine zv_iload (n := 4) dX9_type_140 rfl ?_
    refine zv_iload_n (n := 1) dX9_type_142 rfl rfl ?_
    refine zr_icmp_ge (tgt := 185) dX9_type_143 (by decide) h (fun c18 h => ?_) (fun c18 h => ?_)
    · refine zv_aload_n (n := 0) dX9_type_185 rfl rfl ?_
      refine zr_gR dX9_type_186 fg_1406 h (fun v1 e2 h => ?_)
      refine zv_aload_n (n := 0) dX9_type_189 rfl rfl ?_
      refine zr_gI dX9_type_190 fg_1408 h (fun v3 e4 h => ?_)
      refine zv_iload (n := 3) dX9_type_193 rfl ?_
      refine zv_iload_n (n := 1) dX9_type_195 rfl rfl ?_
      refine zv_iadd dX9_type_196 ?_
      refine zr_sI dX9_type_197 h (fun x5 e6 h => ?_)
      refine zv_aload_n (n := 0) dX9_type_198 rfl rfl ?_
      refine zv_dup dX9_type_199 rfl ?_
      refine zr_gI dX9_type_200 fg_1408 h (fun v7 e8 h => ?_)
      refine zv_iconst (v := 1) dX9_type_203 (by decide) ?_
      refine zv_iadd dX9_type_204 ?_
      refine zr_p dX9_type_205 fl_1408 (fun q => nomatch q) rfl rfl h (fun x9 e10 h => ?_)
      refine zv_aload_n (n := 0) dX9_type_208 rfl rfl ?_
      refine zr_gI dX9_type_209 fg_1408 h (fun v11 e12 h => ?_)
      refine zv_iconst (v := 1) dX9_type_212 (by decide) ?_
      refine zv_isub dX9_type_213 ?_
      cases h
      exact zv_iret dX9_type_214 rfl
    · refine zv_aload_n (n := 0) dX9_type_146 rfl rfl ?_
      refine zr_gR dX9_type_147 fg_1407 h (fun v13 e14 h => ?_)
      refine zv_bipush (v := 8) dX9_type_150 (by decide) ?_
      refine zv_aload_n (n := 0) dX9_type_152 rfl rfl ?_
      refine zr_gI dX9_type_153 fg_1408 h (fun v15 e16 h => ?_)
      refine zv_imul dX9_type_156 ?_
      refine zv_iload (n := 3) dX9_type_157 rfl ?_
      refine zv_iadd dX9_type_159 ?_
      refine zv_iload (n := 4) dX9_type_160 rfl ?_
      refine zv_iadd dX9_type_162 ?_
      refine zv_iload_n (n := 2) dX9_type_163 rfl rfl ?_
      refine zv_iload (n := 4) dX9_type_164 rfl ?_
      refine zv_ishr dX9_type_166 ?_
      refine zv_iconst (v := 1) dX9_type_167 (by decide) ?_
      refine zv_iand dX9_type_168 ?_
      refine zv_iconst (v := 1) dX9_type_169 (by decide) ?_
      refine zr_icmp_ne (tgt := 177) dX9_type_170 (by decide) h (fun c17 h => ?_) (fun c17 h => ?_)
      · refine zv_iconst (v := 1) dX9_type_177 (by decide) ?_
        exact kX9_type_178 hd ih _ _ _ _ _ _ _ _ _ h
      · refine zv_iconst (v := 3) dX9_type_173 (by decide) ?_
        refine zv_goto (tgt := 178) dX9_type_174 (by decide) ?_
        exact kX9_type_178 hd ih _ _ _ _ _ _ _ _ _ h
def mX9_type_97 (N : Nat) : Nat → Nat → Int32 → Int32 → Int32 → Int32 → Int32 → zv_X → Option (zv_X × Int32)
  | 0, _, _, _, _, _, _, _ => none
  | n + 1, l0, l1, l2, l3, l5, l6, x => if l5 ≤ l6 then (mX9_type_140 N N l0 l2 l3 l5 (0 : Int32) x) else ((zm_R x l0 9 4).bind fun v1 => (zm_I x l0 9 5).bind fun v3 => (zm_R x l0 9 4).bind fun v5 => (zm_aI x v5 (((8 : Int32) * l1) + l6)).bind fun v7 => (zm_sI x v1 (((8 : Int32) * v3) + l6) v7).bind fun x9 => mX9_type_97 N n l0 l1 l2 l3 l5 (l6 + (1)) x9)
theorem kX9_type_97 {d : Nat} {x0 : zv_X} {o : (zv_X × Int32)} (hd : 0 ≤ d) {N : Nat} : ∀ (n : Nat) (l0 : Nat) (l1 : Int32) (l2 : Int32) (l3 : Int32) (l5 : Int32) (l6 : Int32) (x : zv_X), mX9_type_97 N n l0 l1 l2 l3 l5 l6 x = some o → zv_V (fX9_type d x0 o) 97 [(0, .ref l0), (1, .int l1), (2, .int l2), (3, .int l3), (5, .int l5), (6, .int l6)] [] x := by
  intro n
  induction n with
  | zero => intro l0 l1 l2 l3 l5 l6 x h; cases h
  | succ n ih =>
    intro l0 l1 l2 l3 l5 l6 x h
    unfold mX9_type_97 at h
    refine zv_iload (n := 5) dX9_type_97 rfl ?_
    refine zv_iload (n := 4) dX9_type_99 rfl ?_
    refine zr_icmp_ge (tgt := 137) dX9_type_101 (by decide) h (fun c11 h => ?_) (fun c11 h => ?_)
    · refine zv_iconst (v := 0) dX9_type_137 (by decide) ?_
      refine zv_istore (L' := [(6, .int (0 : Int32)), (0, .ref l0), (1, .int l1), (2, .int l2), (3, .int l3), (5, .int l5)]) dX9_type_138 (Nat.le_of_ble_eq_true rfl) rfl ?_
      exact zv_fewer [1, 3, 4, 5, 0] rfl (kX9_type_140 hd N _ _ _ _ _ _ h)
    · refine zv_aload_n (n := 0) dX9_type_104 rfl rfl ?_
      refine zr_gR dX9_type_105 fg_1407 h (fun v1 e2 h => ?_)
      refine zv_bipush (v := 8) dX9_type_108 (by decide) ?_
      refine zv_aload_n (n := 0) dX9_type_110 rfl rfl ?_
      refine zr_gI dX9_type_111 fg_1408 h (fun v3 e4 h => ?_)
      refine zv_imul dX9_type_114 ?_
      refine zv_iload (n := 5) dX9_type_115 rfl ?_
      refine zv_iadd dX9_type_117 ?_
      refine zv_aload_n (n := 0) dX9_type_118 rfl rfl ?_
      refine zr_gR dX9_type_119 fg_1407 h (fun v5 e6 h => ?_)
      refine zv_bipush (v := 8) dX9_type_122 (by decide) ?_
      refine zv_iload_n (n := 1) dX9_type_124 rfl rfl ?_
      refine zv_imul dX9_type_125 ?_
      refine zv_iload (n := 5) dX9_type_126 rfl ?_
      refine zv_iadd dX9_type_128 ?_
      refine zr_aI dX9_type_129 h (fun v7 e8 h => ?_)
      refine zr_sI dX9_type_130 h (fun x9 e10 h => ?_)
      refine zv_iinc (n := 5) (v := l6 + (1)) (L' := [(6, .int (l6 + (1))), (0, .ref l0), (1, .int l1), (2, .int l2), (3, .int l3), (5, .int l5)]) dX9_type_131 rfl rfl (Nat.le_of_ble_eq_true rfl) rfl ?_
      refine zv_goto (tgt := 97) dX9_type_134 (by decide) ?_
      exact zv_fewer [1, 2, 3, 4, 5, 0] rfl (ih _ _ _ _ _ _ _ h)
def mX9_type_64 (N : Nat) (l0 : Nat) (l1 : Int32) (l2 : Int32) (l3 : Int32) (s0 : Int32) (s1 : Nat) (x : zv_X) : Option (zv_X × Int32) := (zm_p x s1 9 0 (.int s0)).bind fun x1 => (zm_I x1 l0 9 0).bind fun v3 => if v3 ≤ 0 then ((zm_R x1 l0 9 2).bind fun v5 => (zm_I x1 l0 9 5).bind fun v7 => (zm_sI x1 v5 v7 l1).bind fun x9 => (zm_R x9 l0 9 3).bind fun v11 => (zm_aI x9 v11 l1).bind fun v13 => mX9_type_97 N N l0 l1 l2 l3 v13 (0 : Int32) x9) else (some (x1, (0 : Int32)))
theorem kX9_type_64 {d : Nat} {x0 : zv_X} {o : (zv_X × Int32)} (hd : 0 ≤ d) {N : Nat} (l0 : Nat) (l1 : Int32) (l2 : Int32) (l3 : Int32) (s0 : Int32) (s1 : Nat) (x : zv_X) (h : mX9_type_64 N l0 l1 l2 l3 s0 s1 x = some o) : zv_V (fX9_type d x0 o) 64 [(0, .ref l0), (1, .int l1), (2, .int l2), (3, .int l3)] [.int s0, .ref s1] x := by
  unfold mX9_type_64 at h
  refine zr_p dX9_type_64 fl_1403 (fun q => nomatch q) rfl rfl h (fun x1 e2 h => ?_)
  refine zv_aload_n (n := 0) dX9_type_67 rfl rfl ?_
  refine zr_gI dX9_type_68 fg_1403 h (fun v3 e4 h => ?_)
  refine zr_if_le (tgt := 76) dX9_type_71 (by decide) h (fun c15 h => ?_) (fun c15 h => ?_)
  · refine zv_aload_n (n := 0) dX9_type_76 rfl rfl ?_
    refine zr_gR dX9_type_77 fg_1405 h (fun v5 e6 h => ?_)
    refine zv_aload_n (n := 0) dX9_type_80 rfl rfl ?_
    refine zr_gI dX9_type_81 fg_1408 h (fun v7 e8 h => ?_)
    refine zv_iload_n (n := 1) dX9_type_84 rfl rfl ?_
    refine zr_sI dX9_type_85 h (fun x9 e10 h => ?_)
    refine zv_aload_n (n := 0) dX9_type_86 rfl rfl ?_
    refine zr_gR dX9_type_87 fg_1406 h (fun v11 e12 h => ?_)
    refine zv_iload_n (n := 1) dX9_type_90 rfl rfl ?_
    refine zr_aI dX9_type_91 h (fun v13 e14 h => ?_)
    refine zv_istore (L' := [(5, .int v13), (0, .ref l0), (1, .int l1), (2, .int l2), (3, .int l3)]) dX9_type_92 (Nat.le_of_ble_eq_true rfl) rfl ?_
    refine zv_iconst (v := 0) dX9_type_94 (by decide) ?_
    refine zv_istore (L' := [(6, .int (0 : Int32)), (5, .int v13), (0, .ref l0), (1, .int l1), (2, .int l2), (3, .int l3)]) dX9_type_95 (Nat.le_of_ble_eq_true rfl) rfl ?_
    exact zv_fewer [2, 3, 4, 5, 1, 0] rfl (kX9_type_97 hd N _ _ _ _ _ _ _ h)
  · refine zv_iconst (v := 0) dX9_type_74 (by decide) ?_
    cases h
    exact zv_iret dX9_type_75 rfl
def mX9_type_46 (N : Nat) (l0 : Nat) (l1 : Int32) (l2 : Int32) (l3 : Int32) (s0 : Nat) (x : zv_X) : Option (zv_X × Int32) := mX9_type_64 N l0 l1 l2 l3 (2 : Int32) s0 x
theorem kX9_type_46 {d : Nat} {x0 : zv_X} {o : (zv_X × Int32)} (hd : 0 ≤ d) {N : Nat} (l0 : Nat) (l1 : Int32) (l2 : Int32) (l3 : Int32) (s0 : Nat) (x : zv_X) (h : mX9_type_46 N l0 l1 l2 l3 s0 x = some o) : zv_V (fX9_type d x0 o) 46 [(0, .ref l0), (1, .int l1), (2, .int l2), (3, .int l3)] [.ref s0] x := by
  unfold mX9_type_46 at h
  refine zv_iconst (v := 2) dX9_type_46 (by decide) ?_
  refine zv_goto (tgt := 64) dX9_type_47 (by decide) ?_
  exact kX9_type_64 hd _ _ _ _ _ _ _ h
def mX9_type_17 (N : Nat) (l0 : Nat) (l1 : Int32) (l2 : Int32) (l3 : Int32) (s0 : Int32) (x : zv_X) : Option (zv_X × Int32) := if s0 = 0 then (mX9_type_64 N l0 l1 l2 l3 (1 : Int32) l0 x) else (if l2 < 0 then (mX9_type_46 N l0 l1 l2 l3 l0 x) else ((zm_R x l0 9 3).bind fun v1 => (zm_aI x v1 l1).bind fun v3 => if l2 ≤ ((8 : Int32) - v3) then ((zm_I x l0 9 5).bind fun v5 => if v5 = (30 : Int32) then (mX9_type_64 N l0 l1 l2 l3 (3 : Int32) l0 x) else (mX9_type_64 N l0 l1 l2 l3 (0 : Int32) l0 x)) else (mX9_type_46 N l0 l1 l2 l3 l0 x)))
theorem kX9_type_17 {d : Nat} {x0 : zv_X} {o : (zv_X × Int32)} (hd : 0 ≤ d) {N : Nat} (l0 : Nat) (l1 : Int32) (l2 : Int32) (l3 : Int32) (s0 : Int32) (x : zv_X) (h : mX9_type_17 N l0 l1 l2 l3 s0 x = some o) : zv_V (fX9_type d x0 o) 17 [(0, .ref l0), (1, .int l1), (2, .int l2), (3, .int l3)] [.int s0] x := by
  unfold mX9_type_17 at h
  refine zv_istore (L' := [(4, .int s0), (0, .ref l0), (1, .int l1), (2, .int l2), (3, .int l3)]) dX9_type_17 (Nat.le_of_ble_eq_true rfl) rfl ?_
  refine zv_aload_n (n := 1) dX9_type_19 rfl rfl ?_
  refine zv_iload (n := 0) dX9_type_20 rfl ?_
  refine zr_if_ne (tgt := 29) dX9_type_22 (by decide) h (fun c10 h => ?_) (fun c10 h => ?_)
  · refine zv_iload_n (n := 3) dX9_type_29 rfl rfl ?_
    refine zr_if_lt (tgt := 46) dX9_type_30 (by decide) h (fun c9 h => ?_) (fun c9 h => ?_)
    · exact zv_fewer [1, 2, 3, 4] rfl (kX9_type_46 hd _ _ _ _ _ _ h)
    · refine zv_iload_n (n := 3) dX9_type_33 rfl rfl ?_
      refine zv_bipush (v := 8) dX9_type_34 (by decide) ?_
      refine zv_aload_n (n := 1) dX9_type_36 rfl rfl ?_
      refine zr_gR dX9_type_37 fg_1406 h (fun v1 e2 h => ?_)
      refine zv_iload_n (n := 2) dX9_type_40 rfl rfl ?_
      refine zr_aI dX9_type_41 h (fun v3 e4 h => ?_)
      refine zv_isub dX9_type_42 ?_
      refine zr_icmp_le (tgt := 50) dX9_type_43 (by decide) h (fun c8 h => ?_) (fun c8 h => ?_)
      · refine zv_aload_n (n := 1) dX9_type_50 rfl rfl ?_
        refine zr_gI dX9_type_51 fg_1408 h (fun v5 e6 h => ?_)
        refine zv_bipush (v := 30) dX9_type_54 (by decide) ?_
        refine zr_icmp_ne (tgt := 63) dX9_type_56 (by decide) h (fun c7 h => ?_) (fun c7 h => ?_)
        · refine zv_iconst (v := 0) dX9_type_63 (by decide) ?_
          exact zv_fewer [1, 2, 3, 4] rfl (kX9_type_64 hd _ _ _ _ _ _ _ h)
        · refine zv_iconst (v := 3) dX9_type_59 (by decide) ?_
          refine zv_goto (tgt := 64) dX9_type_60 (by decide) ?_
          exact zv_fewer [1, 2, 3, 4] rfl (kX9_type_64 hd _ _ _ _ _ _ _ h)
      · exact zv_fewer [1, 2, 3, 4] rfl (kX9_type_46 hd _ _ _ _ _ _ h)
  · refine zv_iconst (v := 1) dX9_type_25 (by decide) ?_
    refine zv_goto (tgt := 64) dX9_type_26 (by decide) ?_
    exact zv_fewer [1, 2, 3, 4] rfl (kX9_type_64 hd _ _ _ _ _ _ _ h)
def mX9_type_16 (N : Nat) (l0 : Nat) (l1 : Int32) (l2 : Int32) (l3 : Int32) (x : zv_X) : Option (zv_X × Int32) := mX9_type_17 N l0 l1 l2 l3 (0 : Int32) x
theorem kX9_type_16 {d : Nat} {x0 : zv_X} {o : (zv_X × Int32)} (hd : 0 ≤ d) {N : Nat} (l0 : Nat) (l1 : Int32) (l2 : Int32) (l3 : Int32) (x : zv_X) (h : mX9_type_16 N l0 l1 l2 l3 x = some o) : zv_V (fX9_type d x0 o) 16 [(0, .ref l0), (1, .int l1), (2, .int l2), (3, .int l3)] [] x := by
  unfold mX9_type_16 at h
  refine zv_iconst (v := 0) dX9_type_16 (by decide) ?_
  exact kX9_type_17 hd _ _ _ _ _ _ h
def mX9_type_0 (N : Nat) (l0 : Nat) (l1 : Int32) (l2 : Int32) (l3 : Int32) (x : zv_X) : Option (zv_X × Int32) := if l1 < 0 then (mX9_type_16 N l0 l1 l2 l3 x) else ((zm_I x l0 9 5).bind fun v1 => if v1 ≤ l1 then (mX9_type_16 N l0 l1 l2 l3 x) else (mX9_type_17 N l0 l1 l2 l3 (1 : Int32) x))
theorem kX9_type_0 {d : Nat} {x0 : zv_X} {o : (zv_X × Int32)} (hd : 0 ≤ d) {N : Nat} (l0 : Nat) (l1 : Int32) (l2 : Int32) (l3 : Int32) (x : zv_X) (h : mX9_type_0 N l0 l1 l2 l3 x = some o) : zv_V (fX9_type d x0 o) 0 [(0, .ref l0), (1, .int l1), (2, .int l2), (3, .int l3)] [] x := by
  unfold mX9_type_0 at h
  refine zv_iload_n (n := 1) dX9_type_0 rfl rfl ?_
  refine zr_if_lt (tgt := 16) dX9_type_1 (by decide) h (fun c4 h => ?_) (fun c4 h => ?_)
  · exact kX9_type_16 hd _ _ _ _ _ h
  · refine zv_iload_n (n := 1) dX9_type_4 rfl rfl ?_
    refine zv_aload_n (n := 0) dX9_type_5 rfl rfl ?_
    refine zr_gI dX9_type_6 fg_1408 h (fun v1 e2 h => ?_)
    refine zr_icmp_ge (tgt := 16) dX9_type_9 (by decide) h (fun c3 h => ?_) (fun c3 h => ?_)
    · exact kX9_type_16 hd _ _ _ _ _ h
    · refine zv_iconst (v := 1) dX9_type_12 (by decide) ?_
      refine zv_goto (tgt := 17) dX9_type_13 (by decide) ?_
      exact kX9_type_17 hd _ _ _ _ _ _ h
def mX9_type (N : Nat) (a0 : Nat) (a1 : Int32) (a2 : Int32) (a3 : Int32) (x : zv_X) : Option (zv_X × Int32) := mX9_type_0 N a0 a1 a2 a3 x
theorem tX9_type {d : Nat} (hd : 0 ≤ d) {N : Nat} {x : zv_X} {a0 : Nat} {a1 : Int32} {a2 : Int32} {a3 : Int32} {o : (zv_X × Int32)} (h : mX9_type N a0 a1 a2 a3 x = some o) : zv_T d yX9_type cX9_type 7 ((some .int)) [.ref a0, .int a1, .int a2, .int a3] x o.1 (some (.int o.2)) := by
  unfold mX9_type at h
  exact zv_enter (by decide) (Nat.le_of_ble_eq_true rfl) (kX9_type_0 hd _ _ _ _ _ h)

abbrev fX9_handler (d : Nat) (x0 : zv_X) (o : (zv_X × Int32)) : zv_G := (d, RX9, cX9_handler, 6, (some .int), ("handler", []), x0, o.1, zv_fin x0 o.1 (some (.int o.2)))
def mX9_handler_79 (N : Nat) (l0 : Nat) (l1 : Int32) (l2 : Int32) (l3 : Int32) (l4 : Int32) (s0 : Int32) (s1 : Nat) (x : zv_X) : Option (zv_X × Int32) := (zm_p x s1 9 0 (.int s0)).bind fun x1 => (zm_I x1 l0 9 0).bind fun v3 => if v3 ≤ 0 then ((zm_R x1 l0 9 8).bind fun v5 => (zm_I x1 l0 9 9).bind fun v7 => (zm_sI x1 v5 ((4 : Int32) * v7) l1).bind fun x9 => (zm_R x9 l0 9 8).bind fun v11 => (zm_I x9 l0 9 9).bind fun v13 => (zm_sI x9 v11 (((4 : Int32) * v13) + (1 : Int32)) l2).bind fun x15 => (zm_R x15 l0 9 8).bind fun v17 => (zm_I x15 l0 9 9).bind fun v19 => (zm_sI x15 v17 (((4 : Int32) * v19) + (2 : Int32)) l3).bind fun x21 => (zm_R x21 l0 9 8).bind fun v23 => (zm_I x21 l0 9 9).bind fun v25 => (zm_sI x21 v23 (((4 : Int32) * v25) + (3 : Int32)) l4).bind fun x27 => (zm_I x27 l0 9 9).bind fun v29 => (zm_p x27 l0 9 9 (.int (v29 + (1 : Int32)))).bind fun x31 => (zm_I x31 l0 9 9).bind fun v33 => some (x31, v33)) else (some (x1, (0 : Int32)))
theorem kX9_handler_79 {d : Nat} {x0 : zv_X} {o : (zv_X × Int32)} (hd : 0 ≤ d) {N : Nat} (l0 : Nat) (l1 : Int32) (l2 : Int32) (l3 : Int32) (l4 : Int32) (s0 : Int32) (s1 : Nat) (x : zv_X) (h : mX9_handler_79 N l0 l1 l2 l3 l4 s0 s1 x = some o) : zv_V (fX9_handler d x0 o) 79 [(0, .ref l0), (1, .int l1), (2, .int l2), (3, .int l3), (4, .int l4)] [.int s0, .ref s1] x := by
  unfold mX9_handler_79 at h
  refine zr_p dX9_handler_79 fl_1403 (fun q => nomatch q) rfl rfl h (fun x1 e2 h => ?_)
  refine zv_aload_n (n := 0) dX9_handler_82 rfl rfl ?_
  refine zr_gI dX9_handler_83 fg_1403 h (fun v3 e4 h => ?_)
  refine zr_if_le (tgt := 91) dX9_handler_86 (by decide) h (fun c35 h => ?_) (fun c35 h => ?_)
  · refine zv_aload_n (n := 0) dX9_handler_91 rfl rfl ?_
    refine zr_gR dX9_handler_92 fg_1411 h (fun v5 e6 h => ?_)
    refine zv_iconst (v := 4) dX9_handler_95 (by decide) ?_
    refine zv_aload_n (n := 0) dX9_handler_96 rfl rfl ?_
    refine zr_gI dX9_handler_97 fg_1412 h (fun v7 e8 h => ?_)
    refine zv_imul dX9_handler_100 ?_
    refine zv_iload_n (n := 1) dX9_handler_101 rfl rfl ?_
    refine zr_sI dX9_handler_102 h (fun x9 e10 h => ?_)
    refine zv_aload_n (n := 0) dX9_handler_103 rfl rfl ?_
    refine zr_gR dX9_handler_104 fg_1411 h (fun v11 e12 h => ?_)
    refine zv_iconst (v := 4) dX9_handler_107 (by decide) ?_
    refine zv_aload_n (n := 0) dX9_handler_108 rfl rfl ?_
    refine zr_gI dX9_handler_109 fg_1412 h (fun v13 e14 h => ?_)
    refine zv_imul dX9_handler_112 ?_
    refine zv_iconst (v := 1) dX9_handler_113 (by decide) ?_
    refine zv_iadd dX9_handler_114 ?_
    refine zv_iload_n (n := 2) dX9_handler_115 rfl rfl ?_
    refine zr_sI dX9_handler_116 h (fun x15 e16 h => ?_)
    refine zv_aload_n (n := 0) dX9_handler_117 rfl rfl ?_
    refine zr_gR dX9_handler_118 fg_1411 h (fun v17 e18 h => ?_)
    refine zv_iconst (v := 4) dX9_handler_121 (by decide) ?_
    refine zv_aload_n (n := 0) dX9_handler_122 rfl rfl ?_
    refine zr_gI dX9_handler_123 fg_1412 h (fun v19 e20 h => ?_)
    refine zv_imul dX9_handler_126 ?_
    refine zv_iconst (v := 2) dX9_handler_127 (by decide) ?_
    refine zv_iadd dX9_handler_128 ?_
    refine zv_iload_n (n := 3) dX9_handler_129 rfl rfl ?_
    refine zr_sI dX9_handler_130 h (fun x21 e22 h => ?_)
    refine zv_aload_n (n := 0) dX9_handler_131 rfl rfl ?_
    refine zr_gR dX9_handler_132 fg_1411 h (fun v23 e24 h => ?_)
    refine zv_iconst (v := 4) dX9_handler_135 (by decide) ?_
    refine zv_aload_n (n := 0) dX9_handler_136 rfl rfl ?_
    refine zr_gI dX9_handler_137 fg_1412 h (fun v25 e26 h => ?_)
    refine zv_imul dX9_handler_140 ?_
    refine zv_iconst (v := 3) dX9_handler_141 (by decide) ?_
    refine zv_iadd dX9_handler_142 ?_
    refine zv_iload (n := 4) dX9_handler_143 rfl ?_
    refine zr_sI dX9_handler_145 h (fun x27 e28 h => ?_)
    refine zv_aload_n (n := 0) dX9_handler_146 rfl rfl ?_
    refine zv_dup dX9_handler_147 rfl ?_
    refine zr_gI dX9_handler_148 fg_1412 h (fun v29 e30 h => ?_)
    refine zv_iconst (v := 1) dX9_handler_151 (by decide) ?_
    refine zv_iadd dX9_handler_152 ?_
    refine zr_p dX9_handler_153 fl_1412 (fun q => nomatch q) rfl rfl h (fun x31 e32 h => ?_)
    refine zv_aload_n (n := 0) dX9_handler_156 rfl rfl ?_
    refine zr_gI dX9_handler_157 fg_1412 h (fun v33 e34 h => ?_)
    cases h
    exact zv_iret dX9_handler_160 rfl
  · refine zv_iconst (v := 0) dX9_handler_89 (by decide) ?_
    cases h
    exact zv_iret dX9_handler_90 rfl
def mX9_handler_53 (N : Nat) (l0 : Nat) (l1 : Int32) (l2 : Int32) (l3 : Int32) (l4 : Int32) (s0 : Int32) (x : zv_X) : Option (zv_X × Int32) := if s0 = 0 then (mX9_handler_79 N l0 l1 l2 l3 l4 (1 : Int32) l0 x) else ((zm_I x l0 9 9).bind fun v1 => if v1 = (8 : Int32) then (mX9_handler_79 N l0 l1 l2 l3 l4 (2 : Int32) l0 x) else (mX9_handler_79 N l0 l1 l2 l3 l4 (0 : Int32) l0 x))
theorem kX9_handler_53 {d : Nat} {x0 : zv_X} {o : (zv_X × Int32)} (hd : 0 ≤ d) {N : Nat} (l0 : Nat) (l1 : Int32) (l2 : Int32) (l3 : Int32) (l4 : Int32) (s0 : Int32) (x : zv_X) (h : mX9_handler_53 N l0 l1 l2 l3 l4 s0 x = some o) : zv_V (fX9_handler d x0 o) 53 [(0, .ref l0), (1, .int l1), (2, .int l2), (3, .int l3), (4, .int l4)] [.int s0] x := by
  unfold mX9_handler_53 at h
  refine zv_istore (L' := [(5, .int s0), (0, .ref l0), (1, .int l1), (2, .int l2), (3, .int l3), (4, .int l4)]) dX9_handler_53 (Nat.le_of_ble_eq_true rfl) rfl ?_
  refine zv_aload_n (n := 1) dX9_handler_55 rfl rfl ?_
  refine zv_iload (n := 0) dX9_handler_56 rfl ?_
  refine zr_if_ne (tgt := 65) dX9_handler_58 (by decide) h (fun c4 h => ?_) (fun c4 h => ?_)
  · refine zv_aload_n (n := 1) dX9_handler_65 rfl rfl ?_
    refine zr_gI dX9_handler_66 fg_1412 h (fun v1 e2 h => ?_)
    refine zv_bipush (v := 8) dX9_handler_69 (by decide) ?_
    refine zr_icmp_ne (tgt := 78) dX9_handler_71 (by decide) h (fun c3 h => ?_) (fun c3 h => ?_)
    · refine zv_iconst (v := 0) dX9_handler_78 (by decide) ?_
      exact zv_fewer [1, 2, 3, 4, 5] rfl (kX9_handler_79 hd _ _ _ _ _ _ _ _ h)
    · refine zv_iconst (v := 2) dX9_handler_74 (by decide) ?_
      refine zv_goto (tgt := 79) dX9_handler_75 (by decide) ?_
      exact zv_fewer [1, 2, 3, 4, 5] rfl (kX9_handler_79 hd _ _ _ _ _ _ _ _ h)
  · refine zv_iconst (v := 1) dX9_handler_61 (by decide) ?_
    refine zv_goto (tgt := 79) dX9_handler_62 (by decide) ?_
    exact zv_fewer [1, 2, 3, 4, 5] rfl (kX9_handler_79 hd _ _ _ _ _ _ _ _ h)
def mX9_handler_52 (N : Nat) (l0 : Nat) (l1 : Int32) (l2 : Int32) (l3 : Int32) (l4 : Int32) (x : zv_X) : Option (zv_X × Int32) := mX9_handler_53 N l0 l1 l2 l3 l4 (0 : Int32) x
theorem kX9_handler_52 {d : Nat} {x0 : zv_X} {o : (zv_X × Int32)} (hd : 0 ≤ d) {N : Nat} (l0 : Nat) (l1 : Int32) (l2 : Int32) (l3 : Int32) (l4 : Int32) (x : zv_X) (h : mX9_handler_52 N l0 l1 l2 l3 l4 x = some o) : zv_V (fX9_handler d x0 o) 52 [(0, .ref l0), (1, .int l1), (2, .int l2), (3, .int l3), (4, .int l4)] [] x := by
  unfold mX9_handler_52 at h
  refine zv_iconst (v := 0) dX9_handler_52 (by decide) ?_
  exact kX9_handler_53 hd _ _ _ _ _ _ _ h
def mX9_handler_0 (N : Nat) (l0 : Nat) (l1 : Int32) (l2 : Int32) (l3 : Int32) (l4 : Int32) (x : zv_X) : Option (zv_X × Int32) := if l1 < 0 then (mX9_handler_52 N l0 l1 l2 l3 l4 x) else (if (200 : Int32) < l1 then (mX9_handler_52 N l0 l1 l2 l3 l4 x) else (if l2 ≤ l1 then (mX9_handler_52 N l0 l1 l2 l3 l4 x) else (if (200 : Int32) < l2 then (mX9_handler_52 N l0 l1 l2 l3 l4 x) else (if l3 < 0 then (mX9_handler_52 N l0 l1 l2 l3 l4 x) else (if (200 : Int32) < l3 then (mX9_handler_52 N l0 l1 l2 l3 l4 x) else (if l4 < 0 then (mX9_handler_52 N l0 l1 l2 l3 l4 x) else ((zm_I x l0 9 5).bind fun v1 => if v1 ≤ l4 then (mX9_handler_52 N l0 l1 l2 l3 l4 x) else (mX9_handler_53 N l0 l1 l2 l3 l4 (1 : Int32) x))))))))
theorem kX9_handler_0 {d : Nat} {x0 : zv_X} {o : (zv_X × Int32)} (hd : 0 ≤ d) {N : Nat} (l0 : Nat) (l1 : Int32) (l2 : Int32) (l3 : Int32) (l4 : Int32) (x : zv_X) (h : mX9_handler_0 N l0 l1 l2 l3 l4 x = some o) : zv_V (fX9_handler d x0 o) 0 [(0, .ref l0), (1, .int l1), (2, .int l2), (3, .int l3), (4, .int l4)] [] x := by
  unfold mX9_handler_0 at h
  refine zv_iload_n (n := 1) dX9_handler_0 rfl rfl ?_
  refine zr_if_lt (tgt := 52) dX9_handler_1 (by decide) h (fun c10 h => ?_) (fun c10 h => ?_)
  · exact kX9_handler_52 hd _ _ _ _ _ _ h
  · refine zv_iload_n (n := 1) dX9_handler_4 rfl rfl ?_
    refine zv_sipush (v := 200) dX9_handler_5 (by decide) ?_
    refine zr_icmp_gt (tgt := 52) dX9_handler_8 (by decide) h (fun c9 h => ?_) (fun c9 h => ?_)
    · exact kX9_handler_52 hd _ _ _ _ _ _ h
    · refine zv_iload_n (n := 2) dX9_handler_11 rfl rfl ?_
      refine zv_iload_n (n := 1) dX9_handler_12 rfl rfl ?_
      refine zr_icmp_le (tgt := 52) dX9_handler_13 (by decide) h (fun c8 h => ?_) (fun c8 h => ?_)
      · exact kX9_handler_52 hd _ _ _ _ _ _ h
      · refine zv_iload_n (n := 2) dX9_handler_16 rfl rfl ?_
        refine zv_sipush (v := 200) dX9_handler_17 (by decide) ?_
        refine zr_icmp_gt (tgt := 52) dX9_handler_20 (by decide) h (fun c7 h => ?_) (fun c7 h => ?_)
        · exact kX9_handler_52 hd _ _ _ _ _ _ h
        · refine zv_iload_n (n := 3) dX9_handler_23 rfl rfl ?_
          refine zr_if_lt (tgt := 52) dX9_handler_24 (by decide) h (fun c6 h => ?_) (fun c6 h => ?_)
          · exact kX9_handler_52 hd _ _ _ _ _ _ h
          · refine zv_iload_n (n := 3) dX9_handler_27 rfl rfl ?_
            refine zv_sipush (v := 200) dX9_handler_28 (by decide) ?_
            refine zr_icmp_gt (tgt := 52) dX9_handler_31 (by decide) h (fun c5 h => ?_) (fun c5 h => ?_)
            · exact kX9_handler_52 hd _ _ _ _ _ _ h
            · refine zv_iload (n := 4) dX9_handler_34 rfl ?_
              refine zr_if_lt (tgt := 52) dX9_handler_36 (by decide) h (fun c4 h => ?_) (fun c4 h => ?_)
              · exact kX9_handler_52 hd _ _ _ _ _ _ h
              · refine zv_iload (n := 4) dX9_handler_39 rfl ?_
                refine zv_aload_n (n := 0) dX9_handler_41 rfl rfl ?_
                refine zr_gI dX9_handler_42 fg_1408 h (fun v1 e2 h => ?_)
                refine zr_icmp_ge (tgt := 52) dX9_handler_45 (by decide) h (fun c3 h => ?_) (fun c3 h => ?_)
                · exact kX9_handler_52 hd _ _ _ _ _ _ h
                · refine zv_iconst (v := 1) dX9_handler_48 (by decide) ?_
                  refine zv_goto (tgt := 53) dX9_handler_49 (by decide) ?_
                  exact kX9_handler_53 hd _ _ _ _ _ _ _ h
def mX9_handler (N : Nat) (a0 : Nat) (a1 : Int32) (a2 : Int32) (a3 : Int32) (a4 : Int32) (x : zv_X) : Option (zv_X × Int32) := mX9_handler_0 N a0 a1 a2 a3 a4 x
theorem tX9_handler {d : Nat} (hd : 0 ≤ d) {N : Nat} {x : zv_X} {a0 : Nat} {a1 : Int32} {a2 : Int32} {a3 : Int32} {a4 : Int32} {o : (zv_X × Int32)} (h : mX9_handler N a0 a1 a2 a3 a4 x = some o) : zv_T d yX9_handler cX9_handler 6 ((some .int)) [.ref a0, .int a1, .int a2, .int a3, .int a4] x o.1 (some (.int o.2)) := by
  unfold mX9_handler at h
  exact zv_enter (by decide) (Nat.le_of_ble_eq_true rfl) (kX9_handler_0 hd _ _ _ _ _ _ h)

abbrev fX9_arrayKind (d : Nat) (x0 : zv_X) (o : (zv_X × Int32)) : zv_G := (d, RX9, cX9_arrayKind, 2, (some .int), ("arrayKind", []), x0, o.1, zv_fin x0 o.1 (some (.int o.2)))
def mX9_arrayKind_37 (N : Nat) (s0 : Int32) (x : zv_X) : Option (zv_X × Int32) := some (x, s0)
theorem kX9_arrayKind_37 {d : Nat} {x0 : zv_X} {o : (zv_X × Int32)} (hd : 0 ≤ d) {N : Nat} (s0 : Int32) (x : zv_X) (h : mX9_arrayKind_37 N s0 x = some o) : zv_V (fX9_arrayKind d x0 o) 37 [] [.int s0] x := by
  unfold mX9_arrayKind_37 at h
  cases h
  exact zv_iret dX9_arrayKind_37 rfl
def mX9_arrayKind_17 (N : Nat) (s0 : Int32) (x : zv_X) : Option (zv_X × Int32) := if s0 = (1 : Int32) then (mX9_arrayKind_37 N (2 : Int32) x) else (if s0 = (4 : Int32) then (mX9_arrayKind_37 N (3 : Int32) x) else (mX9_arrayKind_37 N (1 : Int32) x))
theorem kX9_arrayKind_17 {d : Nat} {x0 : zv_X} {o : (zv_X × Int32)} (hd : 0 ≤ d) {N : Nat} (s0 : Int32) (x : zv_X) (h : mX9_arrayKind_17 N s0 x = some o) : zv_V (fX9_arrayKind d x0 o) 17 [] [.int s0] x := by
  unfold mX9_arrayKind_17 at h
  refine zv_istore_n (L' := [(1, .int s0)]) dX9_arrayKind_17 rfl (Nat.le_of_ble_eq_true rfl) rfl ?_
  refine zv_iload_n (n := 0) dX9_arrayKind_18 rfl rfl ?_
  refine zv_iconst (v := 1) dX9_arrayKind_19 (by decide) ?_
  refine zr_icmp_ne (tgt := 27) dX9_arrayKind_20 (by decide) h (fun c2 h => ?_) (fun c2 h => ?_)
  · refine zv_iload_n (n := 0) dX9_arrayKind_27 rfl rfl ?_
    refine zv_iconst (v := 4) dX9_arrayKind_28 (by decide) ?_
    refine zr_icmp_ne (tgt := 36) dX9_arrayKind_29 (by decide) h (fun c1 h => ?_) (fun c1 h => ?_)
    · refine zv_iconst (v := 1) dX9_arrayKind_36 (by decide) ?_
      exact zv_fewer [] rfl (kX9_arrayKind_37 hd _ _ h)
    · refine zv_iconst (v := 3) dX9_arrayKind_32 (by decide) ?_
      refine zv_goto (tgt := 37) dX9_arrayKind_33 (by decide) ?_
      exact zv_fewer [] rfl (kX9_arrayKind_37 hd _ _ h)
  · refine zv_iconst (v := 2) dX9_arrayKind_23 (by decide) ?_
    refine zv_goto (tgt := 37) dX9_arrayKind_24 (by decide) ?_
    exact zv_fewer [] rfl (kX9_arrayKind_37 hd _ _ h)
def mX9_arrayKind_0 (N : Nat) (l0 : Int32) (x : zv_X) : Option (zv_X × Int32) := if (60 : Int32) ≤ l0 then (mX9_arrayKind_17 N (l0 - (79 : Int32)) x) else (mX9_arrayKind_17 N (l0 - (46 : Int32)) x)
theorem kX9_arrayKind_0 {d : Nat} {x0 : zv_X} {o : (zv_X × Int32)} (hd : 0 ≤ d) {N : Nat} (l0 : Int32) (x : zv_X) (h : mX9_arrayKind_0 N l0 x = some o) : zv_V (fX9_arrayKind d x0 o) 0 [(0, .int l0)] [] x := by
  unfold mX9_arrayKind_0 at h
  refine zv_iload_n (n := 0) dX9_arrayKind_0 rfl rfl ?_
  refine zv_bipush (v := 60) dX9_arrayKind_1 (by decide) ?_
  refine zr_icmp_ge (tgt := 13) dX9_arrayKind_3 (by decide) h (fun c1 h => ?_) (fun c1 h => ?_)
  · refine zv_iload_n (n := 0) dX9_arrayKind_13 rfl rfl ?_
    refine zv_bipush (v := 79) dX9_arrayKind_14 (by decide) ?_
    refine zv_isub dX9_arrayKind_16 ?_
    exact zv_fewer [] rfl (kX9_arrayKind_17 hd _ _ h)
  · refine zv_iload_n (n := 0) dX9_arrayKind_6 rfl rfl ?_
    refine zv_bipush (v := 46) dX9_arrayKind_7 (by decide) ?_
    refine zv_isub dX9_arrayKind_9 ?_
    refine zv_goto (tgt := 17) dX9_arrayKind_10 (by decide) ?_
    exact zv_fewer [] rfl (kX9_arrayKind_17 hd _ _ h)
def mX9_arrayKind (N : Nat) (a0 : Int32) (x : zv_X) : Option (zv_X × Int32) := mX9_arrayKind_0 N a0 x
theorem tX9_arrayKind {d : Nat} (hd : 0 ≤ d) {N : Nat} {x : zv_X} {a0 : Int32} {o : (zv_X × Int32)} (h : mX9_arrayKind N a0 x = some o) : zv_T d yX9_arrayKind cX9_arrayKind 2 ((some .int)) [.int a0] x o.1 (some (.int o.2)) := by
  unfold mX9_arrayKind at h
  exact zv_enter (by decide) (Nat.le_of_ble_eq_true rfl) (kX9_arrayKind_0 hd _ _ h)

abbrev fX9_code (d : Nat) (x0 : zv_X) (o : (zv_X × Int32)) : zv_G := (d, RX9, cX9_code, 3, (some .int), ("code", []), x0, o.1, zv_fin x0 o.1 (some (.int o.2)))
def mX9_code_0 (N : Nat) (l0 : Nat) (l1 : Int32) (l2 : Int32) (x : zv_X) : Option (zv_X × Int32) := (zm_R x l0 9 17).bind fun v1 => (zm_aI x v1 (((200 : Int32) * l1) + l2)).bind fun v3 => some (x, v3)
theorem kX9_code_0 {d : Nat} {x0 : zv_X} {o : (zv_X × Int32)} (hd : 0 ≤ d) {N : Nat} (l0 : Nat) (l1 : Int32) (l2 : Int32) (x : zv_X) (h : mX9_code_0 N l0 l1 l2 x = some o) : zv_V (fX9_code d x0 o) 0 [(0, .ref l0), (1, .int l1), (2, .int l2)] [] x := by
  unfold mX9_code_0 at h
  refine zv_aload_n (n := 0) dX9_code_0 rfl rfl ?_
  refine zr_gR dX9_code_1 fg_1420 h (fun v1 e2 h => ?_)
  refine zv_sipush (v := 200) dX9_code_4 (by decide) ?_
  refine zv_iload_n (n := 1) dX9_code_7 rfl rfl ?_
  refine zv_imul dX9_code_8 ?_
  refine zv_iload_n (n := 2) dX9_code_9 rfl rfl ?_
  refine zv_iadd dX9_code_10 ?_
  refine zr_aI dX9_code_11 h (fun v3 e4 h => ?_)
  cases h
  exact zv_iret dX9_code_12 rfl
def mX9_code (N : Nat) (a0 : Nat) (a1 : Int32) (a2 : Int32) (x : zv_X) : Option (zv_X × Int32) := mX9_code_0 N a0 a1 a2 x
theorem tX9_code {d : Nat} (hd : 0 ≤ d) {N : Nat} {x : zv_X} {a0 : Nat} {a1 : Int32} {a2 : Int32} {o : (zv_X × Int32)} (h : mX9_code N a0 a1 a2 x = some o) : zv_T d yX9_code cX9_code 3 ((some .int)) [.ref a0, .int a1, .int a2] x o.1 (some (.int o.2)) := by
  unfold mX9_code at h
  exact zv_enter (by decide) (Nat.le_of_ble_eq_true rfl) (kX9_code_0 hd _ _ _ _ h)

abbrev fX9_pop (d : Nat) (x0 : zv_X) (o : zv_X) : zv_G := (d, RX9, cX9_pop, 2, none, ("pop", []), x0, o, zv_fin x0 o none)
def mX9_pop_62 (N : Nat) (s0 : Int32) (s1 : Nat) (x : zv_X) : Option zv_X := (zm_p x s1 9 25 (.int s0)).bind fun x1 => some x1
theorem kX9_pop_62 {d : Nat} {x0 : zv_X} {o : zv_X} (hd : 0 ≤ d) {N : Nat} (s0 : Int32) (s1 : Nat) (x : zv_X) (h : mX9_pop_62 N s0 s1 x = some o) : zv_V (fX9_pop d x0 o) 62 [] [.int s0, .ref s1] x := by
  unfold mX9_pop_62 at h
  refine zr_p dX9_pop_62 fl_1428 (fun q => nomatch q) rfl rfl h (fun x1 e2 h => ?_)
  cases h
  exact zv_vret dX9_pop_65 rfl
def mX9_pop_43 (N : Nat) (l0 : Nat) (s0 : Int32) (s1 : Nat) (x : zv_X) : Option zv_X := if s0 = 0 ∨ s0 = 1 then ((zm_p x s1 9 27 (.int s0)).bind fun x1 => (zm_I x1 l0 9 25).bind fun v3 => if 0 ≤ v3 then ((zm_I x1 l0 9 25).bind fun v5 => mX9_pop_62 N v5 l0 x1) else (mX9_pop_62 N (0 : Int32) l0 x1)) else none
theorem kX9_pop_43 {d : Nat} {x0 : zv_X} {o : zv_X} (hd : 0 ≤ d) {N : Nat} (l0 : Nat) (s0 : Int32) (s1 : Nat) (x : zv_X) (h : mX9_pop_43 N l0 s0 s1 x = some o) : zv_V (fX9_pop d x0 o) 43 [(0, .ref l0)] [.int s0, .ref s1] x := by
  unfold mX9_pop_43 at h
  refine zr_pZ dX9_pop_43 fl_1430 (fun q => nomatch q) h (fun x1 e2 h => ?_)
  refine zv_aload_n (n := 0) dX9_pop_46 rfl rfl ?_
  refine zv_aload_n (n := 0) dX9_pop_47 rfl rfl ?_
  refine zr_gI dX9_pop_48 fg_1428 h (fun v3 e4 h => ?_)
  refine zr_if_ge (tgt := 58) dX9_pop_51 (by decide) h (fun c7 h => ?_) (fun c7 h => ?_)
  · refine zv_aload_n (n := 0) dX9_pop_58 rfl rfl ?_
    refine zr_gI dX9_pop_59 fg_1428 h (fun v5 e6 h => ?_)
    exact zv_fewer [] rfl (kX9_pop_62 hd _ _ _ h)
  · refine zv_iconst (v := 0) dX9_pop_54 (by decide) ?_
    refine zv_goto (tgt := 62) dX9_pop_55 (by decide) ?_
    exact zv_fewer [] rfl (kX9_pop_62 hd _ _ _ h)
def mX9_pop_42 (N : Nat) (l0 : Nat) (s0 : Nat) (x : zv_X) : Option zv_X := mX9_pop_43 N l0 (0 : Int32) s0 x
theorem kX9_pop_42 {d : Nat} {x0 : zv_X} {o : zv_X} (hd : 0 ≤ d) {N : Nat} (l0 : Nat) (s0 : Nat) (x : zv_X) (h : mX9_pop_42 N l0 s0 x = some o) : zv_V (fX9_pop d x0 o) 42 [(0, .ref l0)] [.ref s0] x := by
  unfold mX9_pop_42 at h
  refine zv_iconst (v := 0) dX9_pop_42 (by decide) ?_
  exact kX9_pop_43 hd _ _ _ _ h
def mX9_pop_0 (N : Nat) (l0 : Nat) (l1 : Int32) (x : zv_X) : Option zv_X := (zm_I x l0 9 25).bind fun v1 => (zm_p x l0 9 25 (.int (v1 - (1 : Int32)))).bind fun x3 => (zm_I x3 l0 9 27).bind fun v5 => if v5 = 0 then (mX9_pop_42 N l0 l0 x3) else ((zm_I x3 l0 9 25).bind fun v7 => if v7 < 0 then (mX9_pop_42 N l0 l0 x3) else ((zm_R x3 l0 9 24).bind fun v9 => (zm_I x3 l0 9 25).bind fun v11 => (zm_aI x3 v9 v11).bind fun v13 => if v13 = l1 then (mX9_pop_43 N l0 (1 : Int32) l0 x3) else (mX9_pop_42 N l0 l0 x3)))
theorem kX9_pop_0 {d : Nat} {x0 : zv_X} {o : zv_X} (hd : 0 ≤ d) {N : Nat} (l0 : Nat) (l1 : Int32) (x : zv_X) (h : mX9_pop_0 N l0 l1 x = some o) : zv_V (fX9_pop d x0 o) 0 [(0, .ref l0), (1, .int l1)] [] x := by
  unfold mX9_pop_0 at h
  refine zv_aload_n (n := 0) dX9_pop_0 rfl rfl ?_
  refine zv_dup dX9_pop_1 rfl ?_
  refine zr_gI dX9_pop_2 fg_1428 h (fun v1 e2 h => ?_)
  refine zv_iconst (v := 1) dX9_pop_5 (by decide) ?_
  refine zv_isub dX9_pop_6 ?_
  refine zr_p dX9_pop_7 fl_1428 (fun q => nomatch q) rfl rfl h (fun x3 e4 h => ?_)
  refine zv_aload_n (n := 0) dX9_pop_10 rfl rfl ?_
  refine zv_aload_n (n := 0) dX9_pop_11 rfl rfl ?_
  refine zr_gI dX9_pop_12 fg_1430 h (fun v5 e6 h => ?_)
  refine zr_if_eq (tgt := 42) dX9_pop_15 (by decide) h (fun c17 h => ?_) (fun c17 h => ?_)
  · exact zv_fewer [0] rfl (kX9_pop_42 hd _ _ _ h)
  · refine zv_aload_n (n := 0) dX9_pop_18 rfl rfl ?_
    refine zr_gI dX9_pop_19 fg_1428 h (fun v7 e8 h => ?_)
    refine zr_if_lt (tgt := 42) dX9_pop_22 (by decide) h (fun c16 h => ?_) (fun c16 h => ?_)
    · exact zv_fewer [0] rfl (kX9_pop_42 hd _ _ _ h)
    · refine zv_aload_n (n := 0) dX9_pop_25 rfl rfl ?_
      refine zr_gR dX9_pop_26 fg_1427 h (fun v9 e10 h => ?_)
      refine zv_aload_n (n := 0) dX9_pop_29 rfl rfl ?_
      refine zr_gI dX9_pop_30 fg_1428 h (fun v11 e12 h => ?_)
      refine zr_aI dX9_pop_33 h (fun v13 e14 h => ?_)
      refine zv_iload_n (n := 1) dX9_pop_34 rfl rfl ?_
      refine zr_icmp_ne (tgt := 42) dX9_pop_35 (by decide) h (fun c15 h => ?_) (fun c15 h => ?_)
      · exact zv_fewer [0] rfl (kX9_pop_42 hd _ _ _ h)
      · refine zv_iconst (v := 1) dX9_pop_38 (by decide) ?_
        refine zv_goto (tgt := 43) dX9_pop_39 (by decide) ?_
        exact zv_fewer [0] rfl (kX9_pop_43 hd _ _ _ _ h)
def mX9_pop (N : Nat) (a0 : Nat) (a1 : Int32) (x : zv_X) : Option zv_X := mX9_pop_0 N a0 a1 x
theorem tX9_pop {d : Nat} (hd : 0 ≤ d) {N : Nat} {x : zv_X} {a0 : Nat} {a1 : Int32} {o : zv_X} (h : mX9_pop N a0 a1 x = some o) : zv_T d yX9_pop cX9_pop 2 (none) [.ref a0, .int a1] x o none := by
  unfold mX9_pop at h
  exact zv_enter (by decide) (Nat.le_of_ble_eq_true rfl) (kX9_pop_0 hd _ _ _ h)
