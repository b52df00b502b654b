abbrev fX9_method (d : Nat) (x0 : zv_X) (o : (zv_X × Int32)) : zv_G := (d, RX9, cX9_method, 10, (some .int), ("method", []), x0, o.1, zv_fin x0 o.1 (some (.int o.2)))
def mX9_method_328 (N : Nat)  (x : zv_X) : Option (zv_X × Int32) := some (x, (-1 : Int32))
theorem kX9_method_328 {d : Nat} {x0 : zv_X} {o : (zv_X × Int32)} (hd : 4 ≤ d) {N : Nat}  (x : zv_X) (h : mX9_method_328 N  x = some o) : zv_V (fX9_method d x0 o) 328 [] [] x := by
  unfold mX9_method_328 at h
  refine zv_iconst (v := -1) dX9_method_328 (by decide) ?_
  cases h
  exact zv_iret dX9_method_329 rfl
def mX9_method_262 (N : Nat) : Nat → Nat → Int32 → Int32 → zv_X → Option (zv_X × Int32)
  | 0, _, _, _, _ => none
  | n + 1, l0, l8, l9, x => (zm_I x l0 9 9).bind fun v1 => if ((4 : Int32) * v1) ≤ l9 then ((zm_p x l0 9 7 (.int (0 : Int32))).bind fun x3 => (zm_p x3 l0 9 9 (.int (0 : Int32))).bind fun x5 => (zm_R x5 l0 9 18).bind fun v7 => (zm_aI x5 v7 l8).bind fun v9 => if v9 = 0 then (mX9_method_328 N x5) else (if zm_k x5 l0 9 = true then ((mX9_isGood N l0 l8 x5).bind fun o11 => if o11.2 = 0 then (mX9_method_328 N o11.1) else ((zm_I o11.1 l0 9 19).bind fun v13 => (zm_p o11.1 l0 9 19 (.int (v13 + (1 : Int32)))).bind fun x15 => some (x15, l8))) else none)) else ((zm_R x l0 9 10).bind fun v19 => (zm_R x l0 9 8).bind fun v21 => (zm_aI x v21 l9).bind fun v23 => (zm_sI x v19 (((32 : Int32) * l8) + l9) v23).bind fun x25 => mX9_method_262 N n l0 l8 (l9 + (1)) x25)
theorem kX9_method_262 {d : Nat} {x0 : zv_X} {o : (zv_X × Int32)} (hd : 4 ≤ d) {N : Nat} : ∀ (n : Nat) (l0 : Nat) (l8 : Int32) (l9 : Int32) (x : zv_X), mX9_method_262 N n l0 l8 l9 x = some o → zv_V (fX9_method d x0 o) 262 [(0, .ref l0), (8, .int l8), (9, .int l9)] [] x := by
  intro n
  induction n with
  | zero => intro l0 l8 l9 x h; cases h
  | succ n ih =>
    intro l0 l8 l9 x h
    unfold mX9_method_262 at h
    refine zv_iload (n := 2) dX9_method_262 rfl ?_
    refine zv_iconst (v := 4) dX9_method_264 (by decide) ?_
    refine zv_aload_n (n := 0) dX9_method_265 rfl rfl ?_
    refine zr_gI dX9_method_266 fg_1412 h (fun v1 e2 h => ?_)
    refine zv_imul dX9_method_269 ?_
    refine zr_icmp_ge (tgt := 299) dX9_method_270 (by decide) h (fun c27 h => ?_) (fun c27 h => ?_)
    · refine zv_aload_n (n := 0) dX9_method_299 rfl rfl ?_
      refine zv_iconst (v := 0) dX9_method_300 (by decide) ?_
      refine zr_p dX9_method_301 fl_1410 (fun q => nomatch q) rfl rfl h (fun x3 e4 h => ?_)
      refine zv_aload_n (n := 0) dX9_method_304 rfl rfl ?_
      refine zv_iconst (v := 0) dX9_method_305 (by decide) ?_
      refine zr_p dX9_method_306 fl_1412 (fun q => nomatch q) rfl rfl h (fun x5 e6 h => ?_)
      refine zv_aload_n (n := 0) dX9_method_309 rfl rfl ?_
      refine zr_gR dX9_method_310 fg_1421 h (fun v7 e8 h => ?_)
      refine zv_iload (n := 1) dX9_method_313 rfl ?_
      refine zr_aI dX9_method_315 h (fun v9 e10 h => ?_)
      refine zr_if_eq (tgt := 328) dX9_method_316 (by decide) h (fun c18 h => ?_) (fun c18 h => ?_)
      · exact zv_fewer [] rfl (kX9_method_328 hd _ h)
      · refine zv_aload_n (n := 0) dX9_method_319 rfl rfl ?_
        refine zv_iload (n := 1) dX9_method_320 rfl ?_
        refine zr_cVi (ci := 9) (st := []) dX9_method_322 mw_X9_isGood wd_1589 wd_1591 wd_50 rfl rfl [.int l8] rfl rfl (Nat.le_of_ble_eq_true rfl) (show d - 1 + 1 ≤ d by omega) h (fun o11 e12 => tX9_isGood (d := d - 1) (by omega) e12) (fun o11 e12 h => ?_)
        refine zr_if_ne (tgt := 330) dX9_method_325 (by decide) h (fun c17 h => ?_) (fun c17 h => ?_)
        · refine zv_aload_n (n := 0) dX9_method_330 rfl rfl ?_
          refine zv_dup dX9_method_331 rfl ?_
          refine zr_gI dX9_method_332 fg_1422 h (fun v13 e14 h => ?_)
          refine zv_iconst (v := 1) dX9_method_335 (by decide) ?_
          refine zv_iadd dX9_method_336 ?_
          refine zr_p dX9_method_337 fl_1422 (fun q => nomatch q) rfl rfl h (fun x15 e16 h => ?_)
          refine zv_iload (n := 1) dX9_method_340 rfl ?_
          cases h
          exact zv_iret dX9_method_342 rfl
        · exact zv_fewer [] rfl (kX9_method_328 hd _ h)
    · refine zv_aload_n (n := 0) dX9_method_273 rfl rfl ?_
      refine zr_gR dX9_method_274 fg_1413 h (fun v19 e20 h => ?_)
      refine zv_bipush (v := 32) dX9_method_277 (by decide) ?_
      refine zv_iload (n := 1) dX9_method_279 rfl ?_
      refine zv_imul dX9_method_281 ?_
      refine zv_iload (n := 2) dX9_method_282 rfl ?_
      refine zv_iadd dX9_method_284 ?_
      refine zv_aload_n (n := 0) dX9_method_285 rfl rfl ?_
      refine zr_gR dX9_method_286 fg_1411 h (fun v21 e22 h => ?_)
      refine zv_iload (n := 2) dX9_method_289 rfl ?_
      refine zr_aI dX9_method_291 h (fun v23 e24 h => ?_)
      refine zr_sI dX9_method_292 h (fun x25 e26 h => ?_)
      refine zv_iinc (n := 2) (v := l9 + (1)) (L' := [(9, .int (l9 + (1))), (0, .ref l0), (8, .int l8)]) dX9_method_293 rfl rfl (Nat.le_of_ble_eq_true rfl) rfl ?_
      refine zv_goto (tgt := 262) dX9_method_296 (by decide) ?_
      exact zv_fewer [1, 2, 0] rfl (ih _ _ _ _ h)
def mX9_method_212 (N : Nat) : Nat → Nat → Int32 → Int32 → zv_X → Option (zv_X × Int32)
  | 0, _, _, _, _ => none
  | n + 1, l0, l8, l9, x => (zm_I x l0 9 7).bind fun v1 => if v1 ≤ l9 then ((zm_R x l0 9 11).bind fun v3 => (zm_I x l0 9 9).bind fun v5 => (zm_sI x v3 l8 v5).bind fun x7 => mX9_method_262 N N l0 l8 (0 : Int32) x7) else ((zm_R x l0 9 17).bind fun v9 => (zm_R x l0 9 6).bind fun v11 => (zm_aI x v11 l9).bind fun v13 => (zm_sI x v9 (((200 : Int32) * l8) + l9) v13).bind fun x15 => mX9_method_212 N n l0 l8 (l9 + (1)) x15)
theorem kX9_method_212 {d : Nat} {x0 : zv_X} {o : (zv_X × Int32)} (hd : 4 ≤ d) {N : Nat} : ∀ (n : Nat) (l0 : Nat) (l8 : Int32) (l9 : Int32) (x : zv_X), mX9_method_212 N n l0 l8 l9 x = some o → zv_V (fX9_method d x0 o) 212 [(0, .ref l0), (8, .int l8), (9, .int l9)] [] x := by
  intro n
  induction n with
  | zero => intro l0 l8 l9 x h; cases h
  | succ n ih =>
    intro l0 l8 l9 x h
    unfold mX9_method_212 at h
    refine zv_iload (n := 2) dX9_method_212 rfl ?_
    refine zv_aload_n (n := 0) dX9_method_214 rfl rfl ?_
    refine zr_gI dX9_method_215 fg_1410 h (fun v1 e2 h => ?_)
    refine zr_icmp_ge (tgt := 248) dX9_method_218 (by decide) h (fun c17 h => ?_) (fun c17 h => ?_)
    · refine zv_aload_n (n := 0) dX9_method_248 rfl rfl ?_
      refine zr_gR dX9_method_249 fg_1414 h (fun v3 e4 h => ?_)
      refine zv_iload (n := 1) dX9_method_252 rfl ?_
      refine zv_aload_n (n := 0) dX9_method_254 rfl rfl ?_
      refine zr_gI dX9_method_255 fg_1412 h (fun v5 e6 h => ?_)
      refine zr_sI dX9_method_258 h (fun x7 e8 h => ?_)
      refine zv_iconst (v := 0) dX9_method_259 (by decide) ?_
      refine zv_istore (L' := [(9, .int (0 : Int32)), (0, .ref l0), (8, .int l8)]) dX9_method_260 (Nat.le_of_ble_eq_true rfl) rfl ?_
      exact zv_fewer [1, 2, 0] rfl (kX9_method_262 hd N _ _ _ _ h)
    · refine zv_aload_n (n := 0) dX9_method_221 rfl rfl ?_
      refine zr_gR dX9_method_222 fg_1420 h (fun v9 e10 h => ?_)
      refine zv_sipush (v := 200) dX9_method_225 (by decide) ?_
      refine zv_iload (n := 1) dX9_method_228 rfl ?_
      refine zv_imul dX9_method_230 ?_
      refine zv_iload (n := 2) dX9_method_231 rfl ?_
      refine zv_iadd dX9_method_233 ?_
      refine zv_aload_n (n := 0) dX9_method_234 rfl rfl ?_
      refine zr_gR dX9_method_235 fg_1409 h (fun v11 e12 h => ?_)
      refine zv_iload (n := 2) dX9_method_238 rfl ?_
      refine zr_aI dX9_method_240 h (fun v13 e14 h => ?_)
      refine zr_sI dX9_method_241 h (fun x15 e16 h => ?_)
      refine zv_iinc (n := 2) (v := l9 + (1)) (L' := [(9, .int (l9 + (1))), (0, .ref l0), (8, .int l8)]) dX9_method_242 rfl rfl (Nat.le_of_ble_eq_true rfl) rfl ?_
      refine zv_goto (tgt := 212) dX9_method_245 (by decide) ?_
      exact zv_fewer [1, 2, 0] rfl (ih _ _ _ _ h)
def mX9_method_138 (N : Nat) : Nat → Nat → Int32 → Int32 → Int32 → Int32 → Int32 → Int32 → Int32 → zv_X → Option (zv_X × Int32)
  | 0, _, _, _, _, _, _, _, _, _ => none
  | n + 1, l0, l2, l3, l4, l5, l6, l8, l9, x => if l5 ≤ l9 then ((zm_R x l0 9 14).bind fun v1 => (zm_sI x v1 l8 l2).bind fun x3 => (zm_R x3 l0 9 15).bind fun v5 => (zm_sI x3 v5 l8 l3).bind fun x7 => (zm_R x7 l0 9 16).bind fun v9 => (zm_sI x7 v9 l8 l4).bind fun x11 => (zm_R x11 l0 9 18).bind fun v13 => (zm_I x11 l0 9 7).bind fun v15 => (zm_sI x11 v13 l8 v15).bind fun x17 => mX9_method_212 N N l0 l8 (0 : Int32) x17) else ((zm_R x l0 9 13).bind fun v19 => (zm_sI x v19 (((4 : Int32) * l8) + l9) (l6 - l6 / (4 : Int32) * (4 : Int32))).bind fun x21 => mX9_method_138 N n l0 l2 l3 l4 l5 (l6 / (4 : Int32)) l8 (l9 + (1)) x21)
theorem kX9_method_138 {d : Nat} {x0 : zv_X} {o : (zv_X × Int32)} (hd : 4 ≤ d) {N : Nat} : ∀ (n : Nat) (l0 : Nat) (l2 : Int32) (l3 : Int32) (l4 : Int32) (l5 : Int32) (l6 : Int32) (l8 : Int32) (l9 : Int32) (x : zv_X), mX9_method_138 N n l0 l2 l3 l4 l5 l6 l8 l9 x = some o → zv_V (fX9_method d x0 o) 138 [(0, .ref l0), (2, .int l2), (3, .int l3), (4, .int l4), (5, .int l5), (6, .int l6), (8, .int l8), (9, .int l9)] [] x := by
  intro n
  induction n with
  | zero => intro l0 l2 l3 l4 l5 l6 l8 l9 x h; cases h
  | succ n ih =>
    intro l0 l2 l3 l4 l5 l6 l8 l9 x h
    unfold mX9_method_138 at h
    refine zv_iload (n := 7) dX9_method_138 rfl ?_
    refine zv_iload (n := 4) dX9_method_140 rfl ?_
    refine zr_icmp_ge (tgt := 173) dX9_method_142 (by decide) h (fun c23 h => ?_) (fun c23 h => ?_)
    · refine zv_aload_n (n := 0) dX9_method_173 rfl rfl ?_
      refine zr_gR dX9_method_174 fg_1417 h (fun v1 e2 h => ?_)
      refine zv_iload (n := 6) dX9_method_177 rfl ?_
      refine zv_iload_n (n := 1) dX9_method_179 rfl rfl ?_
      refine zr_sI dX9_method_180 h (fun x3 e4 h => ?_)
      refine zv_aload_n (n := 0) dX9_method_181 rfl rfl ?_
      refine zr_gR dX9_method_182 fg_1418 h (fun v5 e6 h => ?_)
      refine zv_iload (n := 6) dX9_method_185 rfl ?_
      refine zv_iload_n (n := 2) dX9_method_187 rfl rfl ?_
      refine zr_sI dX9_method_188 h (fun x7 e8 h => ?_)
      refine zv_aload_n (n := 0) dX9_method_189 rfl rfl ?_
      refine zr_gR dX9_method_190 fg_1419 h (fun v9 e10 h => ?_)
      refine zv_iload (n := 6) dX9_method_193 rfl ?_
      refine zv_iload (n := 3) dX9_method_195 rfl ?_
      refine zr_sI dX9_method_197 h (fun x11 e12 h => ?_)
      refine zv_aload_n (n := 0) dX9_method_198 rfl rfl ?_
      refine zr_gR dX9_method_199 fg_1421 h (fun v13 e14 h => ?_)
      refine zv_iload (n := 6) dX9_method_202 rfl ?_
      refine zv_aload_n (n := 0) dX9_method_204 rfl rfl ?_
      refine zr_gI dX9_method_205 fg_1410 h (fun v15 e16 h => ?_)
      refine zr_sI dX9_method_208 h (fun x17 e18 h => ?_)
      refine zv_iconst (v := 0) dX9_method_209 (by decide) ?_
      refine zv_istore (L' := [(9, .int (0 : Int32)), (0, .ref l0), (2, .int l2), (3, .int l3), (4, .int l4), (5, .int l5), (6, .int l6), (8, .int l8)]) dX9_method_210 (Nat.le_of_ble_eq_true rfl) rfl ?_
      exact zv_fewer [1, 7, 0] rfl (kX9_method_212 hd N _ _ _ _ h)
    · refine zv_aload_n (n := 0) dX9_method_145 rfl rfl ?_
      refine zr_gR dX9_method_146 fg_1416 h (fun v19 e20 h => ?_)
      refine zv_iconst (v := 4) dX9_method_149 (by decide) ?_
      refine zv_iload (n := 6) dX9_method_150 rfl ?_
      refine zv_imul dX9_method_152 ?_
      refine zv_iload (n := 7) dX9_method_153 rfl ?_
      refine zv_iadd dX9_method_155 ?_
      refine zv_iload (n := 5) dX9_method_156 rfl ?_
      refine zv_iconst (v := 4) dX9_method_158 (by decide) ?_
      refine zv_irem dX9_method_159 (by decide) ?_
      refine zr_sI dX9_method_160 h (fun x21 e22 h => ?_)
      refine zv_iload (n := 5) dX9_method_161 rfl ?_
      refine zv_iconst (v := 4) dX9_method_163 (by decide) ?_
      refine zv_idiv dX9_method_164 (by decide) ?_
      refine zv_istore (L' := [(6, .int (l6 / (4 : Int32))), (0, .ref l0), (2, .int l2), (3, .int l3), (4, .int l4), (5, .int l5), (8, .int l8), (9, .int l9)]) dX9_method_165 (Nat.le_of_ble_eq_true rfl) rfl ?_
      refine zv_iinc (n := 7) (v := l9 + (1)) (L' := [(9, .int (l9 + (1))), (6, .int (l6 / (4 : Int32))), (0, .ref l0), (2, .int l2), (3, .int l3), (4, .int l4), (5, .int l5), (8, .int l8)]) dX9_method_167 rfl rfl (Nat.le_of_ble_eq_true rfl) rfl ?_
      refine zv_goto (tgt := 138) dX9_method_170 (by decide) ?_
      exact zv_fewer [2, 3, 4, 5, 6, 1, 7, 0] rfl (ih _ _ _ _ _ _ _ _ _ h)
def mX9_method_105 (N : Nat) (l0 : Nat) (l1 : Int32) (l2 : Int32) (l3 : Int32) (l4 : Int32) (l5 : Int32) (s0 : Int32) (s1 : Nat) (x : zv_X) : Option (zv_X × Int32) := (zm_p x s1 9 0 (.int s0)).bind fun x1 => (zm_I x1 l0 9 0).bind fun v3 => if v3 ≤ 0 then ((zm_I x1 l0 9 19).bind fun v5 => (zm_R x1 l0 9 12).bind fun v7 => (zm_sI x1 v7 v5 l5).bind fun x9 => mX9_method_138 N N l0 l2 l3 l4 l5 l1 v5 (0 : Int32) x9) else (some (x1, (0 : Int32)))
theorem kX9_method_105 {d : Nat} {x0 : zv_X} {o : (zv_X × Int32)} (hd : 4 ≤ d) {N : Nat} (l0 : Nat) (l1 : Int32) (l2 : Int32) (l3 : Int32) (l4 : Int32) (l5 : Int32) (s0 : Int32) (s1 : Nat) (x : zv_X) (h : mX9_method_105 N l0 l1 l2 l3 l4 l5 s0 s1 x = some o) : zv_V (fX9_method d x0 o) 105 [(0, .ref l0), (1, .int l1), (2, .int l2), (3, .int l3), (4, .int l4), (5, .int l5)] [.int s0, .ref s1] x := by
  unfold mX9_method_105 at h
  refine zr_p dX9_method_105 fl_1403 (fun q => nomatch q) rfl rfl h (fun x1 e2 h => ?_)
  refine zv_aload_n (n := 0) dX9_method_108 rfl rfl ?_
  refine zr_gI dX9_method_109 fg_1403 h (fun v3 e4 h => ?_)
  refine zr_if_le (tgt := 117) dX9_method_112 (by decide) h (fun c11 h => ?_) (fun c11 h => ?_)
  · refine zv_aload_n (n := 0) dX9_method_117 rfl rfl ?_
    refine zr_gI dX9_method_118 fg_1422 h (fun v5 e6 h => ?_)
    refine zv_istore (L' := [(8, .int v5), (0, .ref l0), (1, .int l1), (2, .int l2), (3, .int l3), (4, .int l4), (5, .int l5)]) dX9_method_121 (Nat.le_of_ble_eq_true rfl) rfl ?_
    refine zv_aload_n (n := 1) dX9_method_123 rfl rfl ?_
    refine zr_gR dX9_method_124 fg_1415 h (fun v7 e8 h => ?_)
    refine zv_iload (n := 0) dX9_method_127 rfl ?_
    refine zv_iload (n := 6) dX9_method_129 rfl ?_
    refine zr_sI dX9_method_131 h (fun x9 e10 h => ?_)
    refine zv_iload_n (n := 2) dX9_method_132 rfl rfl ?_
    refine zv_istore (L' := [(6, .int l1), (8, .int v5), (0, .ref l0), (1, .int l1), (2, .int l2), (3, .int l3), (4, .int l4), (5, .int l5)]) dX9_method_133 (Nat.le_of_ble_eq_true rfl) rfl ?_
    refine zv_iconst (v := 0) dX9_method_135 (by decide) ?_
    refine zv_istore (L' := [(9, .int (0 : Int32)), (6, .int l1), (8, .int v5), (0, .ref l0), (1, .int l1), (2, .int l2), (3, .int l3), (4, .int l4), (5, .int l5)]) dX9_method_136 (Nat.le_of_ble_eq_true rfl) rfl ?_
    exact zv_fewer [3, 5, 6, 7, 8, 1, 2, 0] rfl (kX9_method_138 hd N _ _ _ _ _ _ _ _ _ h)
  · refine zv_iconst (v := 0) dX9_method_115 (by decide) ?_
    cases h
    exact zv_iret dX9_method_116 rfl
def mX9_method_87 (N : Nat) (l0 : Nat) (l1 : Int32) (l2 : Int32) (l3 : Int32) (l4 : Int32) (l5 : Int32) (s0 : Nat) (x : zv_X) : Option (zv_X × Int32) := mX9_method_105 N l0 l1 l2 l3 l4 l5 (1 : Int32) s0 x
theorem kX9_method_87 {d : Nat} {x0 : zv_X} {o : (zv_X × Int32)} (hd : 4 ≤ d) {N : Nat} (l0 : Nat) (l1 : Int32) (l2 : Int32) (l3 : Int32) (l4 : Int32) (l5 : Int32) (s0 : Nat) (x : zv_X) (h : mX9_method_87 N l0 l1 l2 l3 l4 l5 s0 x = some o) : zv_V (fX9_method d x0 o) 87 [(0, .ref l0), (1, .int l1), (2, .int l2), (3, .int l3), (4, .int l4), (5, .int l5)] [.ref s0] x := by
  unfold mX9_method_87 at h
  refine zv_iconst (v := 1) dX9_method_87 (by decide) ?_
  refine zv_goto (tgt := 105) dX9_method_88 (by decide) ?_
  exact kX9_method_105 hd _ _ _ _ _ _ _ _ _ h
def mX9_method_69 (N : Nat) (l0 : Nat) (l1 : Int32) (l2 : Int32) (l3 : Int32) (l4 : Int32) (l5 : Int32) (l7 : Int32) (x : zv_X) : Option (zv_X × Int32) := if l7 = 0 then (mX9_method_87 N l0 l1 l2 l3 l4 l5 l0 x) else (if l2 < l5 then (mX9_method_87 N l0 l1 l2 l3 l4 l5 l0 x) else (if l2 ≤ (16 : Int32) then ((zm_I x l0 9 19).bind fun v1 => if v1 = (20 : Int32) then (mX9_method_105 N l0 l1 l2 l3 l4 l5 (2 : Int32) l0 x) else (mX9_method_105 N l0 l1 l2 l3 l4 l5 (0 : Int32) l0 x)) else (mX9_method_87 N l0 l1 l2 l3 l4 l5 l0 x)))
theorem kX9_method_69 {d : Nat} {x0 : zv_X} {o : (zv_X × Int32)} (hd : 4 ≤ d) {N : Nat} (l0 : Nat) (l1 : Int32) (l2 : Int32) (l3 : Int32) (l4 : Int32) (l5 : Int32) (l7 : Int32) (x : zv_X) (h : mX9_method_69 N l0 l1 l2 l3 l4 l5 l7 x = some o) : zv_V (fX9_method d x0 o) 69 [(0, .ref l0), (1, .int l1), (2, .int l2), (3, .int l3), (4, .int l4), (5, .int l5), (7, .int l7)] [] x := by
  unfold mX9_method_69 at h
  refine zv_aload_n (n := 0) dX9_method_69 rfl rfl ?_
  refine zv_iload (n := 6) dX9_method_70 rfl ?_
  refine zr_if_eq (tgt := 87) dX9_method_72 (by decide) h (fun c6 h => ?_) (fun c6 h => ?_)
  · exact zv_fewer [0, 1, 2, 3, 4, 5] rfl (kX9_method_87 hd _ _ _ _ _ _ _ _ h)
  · refine zv_iload_n (n := 2) dX9_method_75 rfl rfl ?_
    refine zv_iload (n := 5) dX9_method_76 rfl ?_
    refine zr_icmp_lt (tgt := 87) dX9_method_78 (by decide) h (fun c5 h => ?_) (fun c5 h => ?_)
    · exact zv_fewer [0, 1, 2, 3, 4, 5] rfl (kX9_method_87 hd _ _ _ _ _ _ _ _ h)
    · refine zv_iload_n (n := 2) dX9_method_81 rfl rfl ?_
      refine zv_bipush (v := 16) dX9_method_82 (by decide) ?_
      refine zr_icmp_le (tgt := 91) dX9_method_84 (by decide) h (fun c4 h => ?_) (fun c4 h => ?_)
      · refine zv_aload_n (n := 0) dX9_method_91 rfl rfl ?_
        refine zr_gI dX9_method_92 fg_1422 h (fun v1 e2 h => ?_)
        refine zv_bipush (v := 20) dX9_method_95 (by decide) ?_
        refine zr_icmp_ne (tgt := 104) dX9_method_97 (by decide) h (fun c3 h => ?_) (fun c3 h => ?_)
        · refine zv_iconst (v := 0) dX9_method_104 (by decide) ?_
          exact zv_fewer [0, 1, 2, 3, 4, 5] rfl (kX9_method_105 hd _ _ _ _ _ _ _ _ _ h)
        · refine zv_iconst (v := 2) dX9_method_100 (by decide) ?_
          refine zv_goto (tgt := 105) dX9_method_101 (by decide) ?_
          exact zv_fewer [0, 1, 2, 3, 4, 5] rfl (kX9_method_105 hd _ _ _ _ _ _ _ _ _ h)
      · exact zv_fewer [0, 1, 2, 3, 4, 5] rfl (kX9_method_87 hd _ _ _ _ _ _ _ _ h)
def mX9_method_45 (N : Nat) : Nat → Nat → Int32 → Int32 → Int32 → Int32 → Int32 → Int32 → Int32 → zv_X → Option (zv_X × Int32)
  | 0, _, _, _, _, _, _, _, _, _ => none
  | n + 1, l0, l1, l2, l3, l4, l5, l6, l7, x => if l7 = 0 then (mX9_method_69 N l0 l1 l2 l3 l4 l5 l7 x) else (if (l6 - l6 / (4 : Int32) * (4 : Int32)) ≤ 0 then (mX9_method_69 N l0 l1 l2 l3 l4 l5 l7 x) else (mX9_method_45 N n l0 l1 l2 l3 l4 (l5 + (1)) (l6 / (4 : Int32)) l7 x))
theorem kX9_method_45 {d : Nat} {x0 : zv_X} {o : (zv_X × Int32)} (hd : 4 ≤ d) {N : Nat} : ∀ (n : Nat) (l0 : Nat) (l1 : Int32) (l2 : Int32) (l3 : Int32) (l4 : Int32) (l5 : Int32) (l6 : Int32) (l7 : Int32) (x : zv_X), mX9_method_45 N n l0 l1 l2 l3 l4 l5 l6 l7 x = some o → zv_V (fX9_method d x0 o) 45 [(0, .ref l0), (1, .int l1), (2, .int l2), (3, .int l3), (4, .int l4), (5, .int l5), (6, .int l6), (7, .int l7)] [] x := by
  intro n
  induction n with
  | zero => intro l0 l1 l2 l3 l4 l5 l6 l7 x h; cases h
  | succ n ih =>
    intro l0 l1 l2 l3 l4 l5 l6 l7 x h
    unfold mX9_method_45 at h
    refine zv_iload (n := 7) dX9_method_45 rfl ?_
    refine zr_if_eq (tgt := 69) dX9_method_47 (by decide) h (fun c2 h => ?_) (fun c2 h => ?_)
    · exact zv_fewer [0, 1, 2, 3, 4, 5, 7] rfl (kX9_method_69 hd _ _ _ _ _ _ _ _ h)
    · refine zv_iload (n := 6) dX9_method_50 rfl ?_
      refine zv_iconst (v := 4) dX9_method_52 (by decide) ?_
      refine zv_irem dX9_method_53 (by decide) ?_
      refine zr_if_le (tgt := 69) dX9_method_54 (by decide) h (fun c1 h => ?_) (fun c1 h => ?_)
      · exact zv_fewer [0, 1, 2, 3, 4, 5, 7] rfl (kX9_method_69 hd _ _ _ _ _ _ _ _ h)
      · refine zv_iinc (n := 5) (v := l5 + (1)) (L' := [(5, .int (l5 + (1))), (0, .ref l0), (1, .int l1), (2, .int l2), (3, .int l3), (4, .int l4), (6, .int l6), (7, .int l7)]) dX9_method_57 rfl rfl (Nat.le_of_ble_eq_true rfl) rfl ?_
        refine zv_iload (n := 6) dX9_method_60 rfl ?_
        refine zv_iconst (v := 4) dX9_method_62 (by decide) ?_
        refine zv_idiv dX9_method_63 (by decide) ?_
        refine zv_istore (L' := [(6, .int (l6 / (4 : Int32))), (5, .int (l5 + (1))), (0, .ref l0), (1, .int l1), (2, .int l2), (3, .int l3), (4, .int l4), (7, .int l7)]) dX9_method_64 (Nat.le_of_ble_eq_true rfl) rfl ?_
        refine zv_goto (tgt := 45) dX9_method_66 (by decide) ?_
        exact zv_fewer [2, 3, 4, 5, 6, 1, 0, 7] rfl (ih _ _ _ _ _ _ _ _ _ h)
def mX9_method_43 (N : Nat) (l0 : Nat) (l1 : Int32) (l2 : Int32) (l3 : Int32) (l4 : Int32) (l5 : Int32) (l6 : Int32) (s0 : Int32) (x : zv_X) : Option (zv_X × Int32) := mX9_method_45 N N l0 l1 l2 l3 l4 l5 l6 s0 x
theorem kX9_method_43 {d : Nat} {x0 : zv_X} {o : (zv_X × Int32)} (hd : 4 ≤ d) {N : Nat} (l0 : Nat) (l1 : Int32) (l2 : Int32) (l3 : Int32) (l4 : Int32) (l5 : Int32) (l6 : Int32) (s0 : Int32) (x : zv_X) (h : mX9_method_43 N l0 l1 l2 l3 l4 l5 l6 s0 x = some o) : zv_V (fX9_method d x0 o) 43 [(0, .ref l0), (1, .int l1), (2, .int l2), (3, .int l3), (4, .int l4), (5, .int l5), (6, .int l6)] [.int s0] x := by
  unfold mX9_method_43 at h
  refine zv_istore (L' := [(7, .int s0), (0, .ref l0), (1, .int l1), (2, .int l2), (3, .int l3), (4, .int l4), (5, .int l5), (6, .int l6)]) dX9_method_43 (Nat.le_of_ble_eq_true rfl) rfl ?_
  exact zv_fewer [1, 2, 3, 4, 5, 6, 7, 0] rfl (kX9_method_45 hd N _ _ _ _ _ _ _ _ _ h)
def mX9_method_42 (N : Nat) (l0 : Nat) (l1 : Int32) (l2 : Int32) (l3 : Int32) (l4 : Int32) (l5 : Int32) (l6 : Int32) (x : zv_X) : Option (zv_X × Int32) := mX9_method_43 N l0 l1 l2 l3 l4 l5 l6 (0 : Int32) x
theorem kX9_method_42 {d : Nat} {x0 : zv_X} {o : (zv_X × Int32)} (hd : 4 ≤ d) {N : Nat} (l0 : Nat) (l1 : Int32) (l2 : Int32) (l3 : Int32) (l4 : Int32) (l5 : Int32) (l6 : Int32) (x : zv_X) (h : mX9_method_42 N l0 l1 l2 l3 l4 l5 l6 x = some o) : zv_V (fX9_method d x0 o) 42 [(0, .ref l0), (1, .int l1), (2, .int l2), (3, .int l3), (4, .int l4), (5, .int l5), (6, .int l6)] [] x := by
  unfold mX9_method_42 at h
  refine zv_iconst (v := 0) dX9_method_42 (by decide) ?_
  exact kX9_method_43 hd _ _ _ _ _ _ _ _ _ h
def mX9_method_0 (N : Nat) (l0 : Nat) (l1 : Int32) (l2 : Int32) (l3 : Int32) (l4 : Int32) (x : zv_X) : Option (zv_X × Int32) := if l1 < 0 then (mX9_method_42 N l0 l1 l2 l3 l4 (0 : Int32) l1 x) else (if (255 : Int32) < l1 then (mX9_method_42 N l0 l1 l2 l3 l4 (0 : Int32) l1 x) else (if l3 < 0 then (mX9_method_42 N l0 l1 l2 l3 l4 (0 : Int32) l1 x) else (if (12 : Int32) < l3 then (mX9_method_42 N l0 l1 l2 l3 l4 (0 : Int32) l1 x) else (if l4 < 0 then (mX9_method_42 N l0 l1 l2 l3 l4 (0 : Int32) l1 x) else (if (3 : Int32) < l4 then (mX9_method_42 N l0 l1 l2 l3 l4 (0 : Int32) l1 x) else (mX9_method_43 N l0 l1 l2 l3 l4 (0 : Int32) l1 (1 : Int32) x))))))
theorem kX9_method_0 {d : Nat} {x0 : zv_X} {o : (zv_X × Int32)} (hd : 4 ≤ d) {N : Nat} (l0 : Nat) (l1 : Int32) (l2 : Int32) (l3 : Int32) (l4 : Int32) (x : zv_X) (h : mX9_method_0 N l0 l1 l2 l3 l4 x = some o) : zv_V (fX9_method d x0 o) 0 [(0, .ref l0), (1, .int l1), (2, .int l2), (3, .int l3), (4, .int l4)] [] x := by
  unfold mX9_method_0 at h
  refine zv_iconst (v := 0) dX9_method_0 (by decide) ?_
  refine zv_istore (L' := [(5, .int (0 : Int32)), (0, .ref l0), (1, .int l1), (2, .int l2), (3, .int l3), (4, .int l4)]) dX9_method_1 (Nat.le_of_ble_eq_true rfl) rfl ?_
  refine zv_iload_n (n := 2) dX9_method_3 rfl rfl ?_
  refine zv_istore (L' := [(6, .int l1), (5, .int (0 : Int32)), (0, .ref l0), (1, .int l1), (2, .int l2), (3, .int l3), (4, .int l4)]) dX9_method_4 (Nat.le_of_ble_eq_true rfl) rfl ?_
  refine zv_iload_n (n := 3) dX9_method_6 rfl rfl ?_
  refine zr_if_lt (tgt := 42) dX9_method_7 (by decide) h (fun c6 h => ?_) (fun c6 h => ?_)
  · exact zv_fewer [2, 3, 4, 5, 6, 1, 0] rfl (kX9_method_42 hd _ _ _ _ _ _ _ _ h)
  · refine zv_iload_n (n := 3) dX9_method_10 rfl rfl ?_
    refine zv_sipush (v := 255) dX9_method_11 (by decide) ?_
    refine zr_icmp_gt (tgt := 42) dX9_method_14 (by decide) h (fun c5 h => ?_) (fun c5 h => ?_)
    · exact zv_fewer [2, 3, 4, 5, 6, 1, 0] rfl (kX9_method_42 hd _ _ _ _ _ _ _ _ h)
    · refine zv_iload_n (n := 5) dX9_method_17 rfl rfl ?_
      refine zr_if_lt (tgt := 42) dX9_method_18 (by decide) h (fun c4 h => ?_) (fun c4 h => ?_)
      · exact zv_fewer [2, 3, 4, 5, 6, 1, 0] rfl (kX9_method_42 hd _ _ _ _ _ _ _ _ h)
      · refine zv_iload_n (n := 5) dX9_method_21 rfl rfl ?_
        refine zv_bipush (v := 12) dX9_method_22 (by decide) ?_
        refine zr_icmp_gt (tgt := 42) dX9_method_24 (by decide) h (fun c3 h => ?_) (fun c3 h => ?_)
        · exact zv_fewer [2, 3, 4, 5, 6, 1, 0] rfl (kX9_method_42 hd _ _ _ _ _ _ _ _ h)
        · refine zv_iload (n := 6) dX9_method_27 rfl ?_
          refine zr_if_lt (tgt := 42) dX9_method_29 (by decide) h (fun c2 h => ?_) (fun c2 h => ?_)
          · exact zv_fewer [2, 3, 4, 5, 6, 1, 0] rfl (kX9_method_42 hd _ _ _ _ _ _ _ _ h)
          · refine zv_iload (n := 6) dX9_method_32 rfl ?_
            refine zv_iconst (v := 3) dX9_method_34 (by decide) ?_
            refine zr_icmp_gt (tgt := 42) dX9_method_35 (by decide) h (fun c1 h => ?_) (fun c1 h => ?_)
            · exact zv_fewer [2, 3, 4, 5, 6, 1, 0] rfl (kX9_method_42 hd _ _ _ _ _ _ _ _ h)
            · refine zv_iconst (v := 1) dX9_method_38 (by decide) ?_
              refine zv_goto (tgt := 43) dX9_method_39 (by decide) ?_
              exact zv_fewer [2, 3, 4, 5, 6, 1, 0] rfl (kX9_method_43 hd _ _ _ _ _ _ _ _ _ h)
def mX9_method (N : Nat) (a0 : Nat) (a1 : Int32) (a2 : Int32) (a3 : Int32) (a4 : Int32) (x : zv_X) : Option (zv_X × Int32) := mX9_method_0 N a0 a1 a2 a3 a4 x
theorem tX9_method {d : Nat} (hd : 4 ≤ d) {N : Nat} {x : zv_X} {a0 : Nat} {a1 : Int32} {a2 : Int32} {a3 : Int32} {a4 : Int32} {o : (zv_X × Int32)} (h : mX9_method N a0 a1 a2 a3 a4 x = some o) : zv_T d yX9_method cX9_method 10 ((some .int)) [.ref a0, .int a1, .int a2, .int a3, .int a4] x o.1 (some (.int o.2)) := by
  unfold mX9_method at h
  exact zv_enter (by decide) (Nat.le_of_ble_eq_true rfl) (kX9_method_0 hd _ _ _ _ _ _ h)

abbrev fX9_open (d : Nat) (x0 : zv_X) (o : zv_X) : zv_G := (d, RX9, cX9_open, 3, none, ("open", []), x0, o, zv_fin x0 o none)
def mX9_open_32 (N : Nat) : Nat → Nat → Int32 → zv_X → Option zv_X
  | 0, _, _, _ => none
  | n + 1, l0, l2, x => if (16 : Int32) ≤ l2 then (some x) else ((zm_R x l0 9 44).bind fun v1 => (zm_I x l0 9 47).bind fun v3 => (zm_sI x v1 (((16 : Int32) * v3) + l2) (0 : Int32)).bind fun x5 => (zm_R x5 l0 9 43).bind fun v7 => (zm_I x5 l0 9 47).bind fun v9 => (zm_sL x5 v7 (((16 : Int32) * v9) + l2) (0 : Int64)).bind fun x11 => mX9_open_32 N n l0 (l2 + (1)) x11)
theorem kX9_open_32 {d : Nat} {x0 : zv_X} {o : zv_X} (hd : 0 ≤ d) {N : Nat} : ∀ (n : Nat) (l0 : Nat) (l2 : Int32) (x : zv_X), mX9_open_32 N n l0 l2 x = some o → zv_V (fX9_open d x0 o) 32 [(0, .ref l0), (2, .int l2)] [] x := by
  intro n
  induction n with
  | zero => intro l0 l2 x h; cases h
  | succ n ih =>
    intro l0 l2 x h
    unfold mX9_open_32 at h
    refine zv_iload_n (n := 1) dX9_open_32 rfl rfl ?_
    refine zv_bipush (v := 16) dX9_open_33 (by decide) ?_
    refine zr_icmp_ge (tgt := 74) dX9_open_35 (by decide) h (fun c13 h => ?_) (fun c13 h => ?_)
    · cases h
      exact zv_vret dX9_open_74 rfl
    · refine zv_aload_n (n := 0) dX9_open_38 rfl rfl ?_
      refine zr_gR dX9_open_39 fg_1447 h (fun v1 e2 h => ?_)
      refine zv_bipush (v := 16) dX9_open_42 (by decide) ?_
      refine zv_aload_n (n := 0) dX9_open_44 rfl rfl ?_
      refine zr_gI dX9_open_45 fg_1450 h (fun v3 e4 h => ?_)
      refine zv_imul dX9_open_48 ?_
      refine zv_iload_n (n := 1) dX9_open_49 rfl rfl ?_
      refine zv_iadd dX9_open_50 ?_
      refine zv_iconst (v := 0) dX9_open_51 (by decide) ?_
      refine zr_sI dX9_open_52 h (fun x5 e6 h => ?_)
      refine zv_aload_n (n := 0) dX9_open_53 rfl rfl ?_
      refine zr_gR dX9_open_54 fg_1446 h (fun v7 e8 h => ?_)
      refine zv_bipush (v := 16) dX9_open_57 (by decide) ?_
      refine zv_aload_n (n := 0) dX9_open_59 rfl rfl ?_
      refine zr_gI dX9_open_60 fg_1450 h (fun v9 e10 h => ?_)
      refine zv_imul dX9_open_63 ?_
      refine zv_iload_n (n := 1) dX9_open_64 rfl rfl ?_
      refine zv_iadd dX9_open_65 ?_
      refine zv_lconst (v := 0) dX9_open_66 (by decide) ?_
      refine zr_sL dX9_open_67 h (fun x11 e12 h => ?_)
      refine zv_iinc (n := 1) (v := l2 + (1)) (L' := [(2, .int (l2 + (1))), (0, .ref l0)]) dX9_open_68 rfl rfl (Nat.le_of_ble_eq_true rfl) rfl ?_
      refine zv_goto (tgt := 32) dX9_open_71 (by decide) ?_
      exact zv_fewer [1, 0] rfl (ih _ _ _ h)
def mX9_open_0 (N : Nat) (l0 : Nat) (l1 : Int32) (x : zv_X) : Option zv_X := (zm_R x l0 9 40).bind fun v1 => (zm_I x l0 9 47).bind fun v3 => (zm_sI x v1 v3 l1).bind fun x5 => (zm_R x5 l0 9 41).bind fun v7 => (zm_I x5 l0 9 47).bind fun v9 => (zm_sI x5 v7 v9 (0 : Int32)).bind fun x11 => (zm_R x11 l0 9 42).bind fun v13 => (zm_I x11 l0 9 47).bind fun v15 => (zm_sI x11 v13 v15 (0 : Int32)).bind fun x17 => mX9_open_32 N N l0 (0 : Int32) x17
theorem kX9_open_0 {d : Nat} {x0 : zv_X} {o : zv_X} (hd : 0 ≤ d) {N : Nat} (l0 : Nat) (l1 : Int32) (x : zv_X) (h : mX9_open_0 N l0 l1 x = some o) : zv_V (fX9_open d x0 o) 0 [(0, .ref l0), (1, .int l1)] [] x := by
  unfold mX9_open_0 at h
  refine zv_aload_n (n := 0) dX9_open_0 rfl rfl ?_
  refine zr_gR dX9_open_1 fg_1443 h (fun v1 e2 h => ?_)
  refine zv_aload_n (n := 0) dX9_open_4 rfl rfl ?_
  refine zr_gI dX9_open_5 fg_1450 h (fun v3 e4 h => ?_)
  refine zv_iload_n (n := 1) dX9_open_8 rfl rfl ?_
  refine zr_sI dX9_open_9 h (fun x5 e6 h => ?_)
  refine zv_aload_n (n := 0) dX9_open_10 rfl rfl ?_
  refine zr_gR dX9_open_11 fg_1444 h (fun v7 e8 h => ?_)
  refine zv_aload_n (n := 0) dX9_open_14 rfl rfl ?_
  refine zr_gI dX9_open_15 fg_1450 h (fun v9 e10 h => ?_)
  refine zv_iconst (v := 0) dX9_open_18 (by decide) ?_
  refine zr_sI dX9_open_19 h (fun x11 e12 h => ?_)
  refine zv_aload_n (n := 0) dX9_open_20 rfl rfl ?_
  refine zr_gR dX9_open_21 fg_1445 h (fun v13 e14 h => ?_)
  refine zv_aload_n (n := 0) dX9_open_24 rfl rfl ?_
  refine zr_gI dX9_open_25 fg_1450 h (fun v15 e16 h => ?_)
  refine zv_iconst (v := 0) dX9_open_28 (by decide) ?_
  refine zr_sI dX9_open_29 h (fun x17 e18 h => ?_)
  refine zv_iconst (v := 0) dX9_open_30 (by decide) ?_
  refine zv_istore_n (L' := [(2, .int (0 : Int32)), (0, .ref l0), (1, .int l1)]) dX9_open_31 rfl (Nat.le_of_ble_eq_true rfl) rfl ?_
  exact zv_fewer [1, 0] rfl (kX9_open_32 hd N _ _ _ h)
def mX9_open (N : Nat) (a0 : Nat) (a1 : Int32) (x : zv_X) : Option zv_X := mX9_open_0 N a0 a1 x
theorem tX9_open {d : Nat} (hd : 0 ≤ d) {N : Nat} {x : zv_X} {a0 : Nat} {a1 : Int32} {o : zv_X} (h : mX9_open N a0 a1 x = some o) : zv_T d yX9_open cX9_open 3 (none) [.ref a0, .int a1] x o none := by
  unfold mX9_open at h
  exact zv_enter (by decide) (Nat.le_of_ble_eq_true rfl) (kX9_open_0 hd _ _ _ h)

abbrev fX9_popValue (d : Nat) (x0 : zv_X) (o : (zv_X × Int64)) : zv_G := (d, RX9, cX9_popValue, 2, (some .long), ("popValue", []), x0, o.1, zv_fin x0 o.1 (some (.long o.2)))
def mX9_popValue_0 (N : Nat) (l0 : Nat) (x : zv_X) : Option (zv_X × Int64) := (zm_I x l0 9 47).bind fun v1 => (zm_R x l0 9 42).bind fun v3 => (zm_aI x v3 (v1 - (1 : Int32))).bind fun v5 => (zm_sI x v3 (v1 - (1 : Int32)) (v5 - (1 : Int32))).bind fun x7 => (zm_R x7 l0 9 45).bind fun v9 => (zm_R x7 l0 9 42).bind fun v11 => (zm_aI x7 v11 (v1 - (1 : Int32))).bind fun v13 => (zm_aL x7 v9 (((12 : Int32) * (v1 - (1 : Int32))) + v13)).bind fun v15 => some (x7, v15)
theorem kX9_popValue_0 {d : Nat} {x0 : zv_X} {o : (zv_X × Int64)} (hd : 0 ≤ d) {N : Nat} (l0 : Nat) (x : zv_X) (h : mX9_popValue_0 N l0 x = some o) : zv_V (fX9_popValue d x0 o) 0 [(0, .ref l0)] [] x := by
  unfold mX9_popValue_0 at h
  refine zv_aload_n (n := 0) dX9_popValue_0 rfl rfl ?_
  refine zr_gI dX9_popValue_1 fg_1450 h (fun v1 e2 h => ?_)
  refine zv_iconst (v := 1) dX9_popValue_4 (by decide) ?_
  refine zv_isub dX9_popValue_5 ?_
  refine zv_istore_n (L' := [(1, .int (v1 - (1 : Int32))), (0, .ref l0)]) dX9_popValue_6 rfl (Nat.le_of_ble_eq_true rfl) rfl ?_
  refine zv_aload_n (n := 1) dX9_popValue_7 rfl rfl ?_
  refine zr_gR dX9_popValue_8 fg_1445 h (fun v3 e4 h => ?_)
  refine zv_iload_n (n := 0) dX9_popValue_11 rfl rfl ?_
  refine zv_dup2_11 dX9_popValue_12 rfl rfl ?_
  refine zr_aI dX9_popValue_13 h (fun v5 e6 h => ?_)
  refine zv_iconst (v := 1) dX9_popValue_14 (by decide) ?_
  refine zv_isub dX9_popValue_15 ?_
  refine zr_sI dX9_popValue_16 h (fun x7 e8 h => ?_)
  refine zv_aload_n (n := 1) dX9_popValue_17 rfl rfl ?_
  refine zr_gR dX9_popValue_18 fg_1448 h (fun v9 e10 h => ?_)
  refine zv_bipush (v := 12) dX9_popValue_21 (by decide) ?_
  refine zv_iload_n (n := 0) dX9_popValue_23 rfl rfl ?_
  refine zv_imul dX9_popValue_24 ?_
  refine zv_aload_n (n := 1) dX9_popValue_25 rfl rfl ?_
  refine zr_gR dX9_popValue_26 fg_1445 h (fun v11 e12 h => ?_)
  refine zv_iload_n (n := 0) dX9_popValue_29 rfl rfl ?_
  refine zr_aI dX9_popValue_30 h (fun v13 e14 h => ?_)
  refine zv_iadd dX9_popValue_31 ?_
  refine zr_aL dX9_popValue_32 h (fun v15 e16 h => ?_)
  cases h
  exact zv_lret dX9_popValue_33 rfl
def mX9_popValue (N : Nat) (a0 : Nat) (x : zv_X) : Option (zv_X × Int64) := mX9_popValue_0 N a0 x
theorem tX9_popValue {d : Nat} (hd : 0 ≤ d) {N : Nat} {x : zv_X} {a0 : Nat} {o : (zv_X × Int64)} (h : mX9_popValue N a0 x = some o) : zv_T d yX9_popValue cX9_popValue 2 ((some .long)) [.ref a0] x o.1 (some (.long o.2)) := by
  unfold mX9_popValue at h
  exact zv_enter (by decide) (Nat.le_of_ble_eq_true rfl) (kX9_popValue_0 hd _ _ h)

abbrev fX9_isOf (d : Nat) (x0 : zv_X) (o : (zv_X × Int32)) : zv_G := (d, RX9, cX9_isOf, 4, (some .boolean), ("isOf", []), x0, o.1, zv_fin x0 o.1 (some (.int o.2)))
def mX9_isOf_42 (N : Nat) (s0 : Int32) (x : zv_X) : Option (zv_X × Int32) := if s0 = 0 ∨ s0 = 1 then some (x, s0) else none
theorem kX9_isOf_42 {d : Nat} {x0 : zv_X} {o : (zv_X × Int32)} (hd : 0 ≤ d) {N : Nat} (s0 : Int32) (x : zv_X) (h : mX9_isOf_42 N s0 x = some o) : zv_V (fX9_isOf d x0 o) 42 [] [.int s0] x := by
  unfold mX9_isOf_42 at h
  obtain ⟨hv, h⟩ := zg h
  cases h
  exact zv_zret dX9_isOf_42 rfl hv
def mX9_isOf_41 (N : Nat)  (x : zv_X) : Option (zv_X × Int32) := mX9_isOf_42 N (0 : Int32) x
theorem kX9_isOf_41 {d : Nat} {x0 : zv_X} {o : (zv_X × Int32)} (hd : 0 ≤ d) {N : Nat}  (x : zv_X) (h : mX9_isOf_41 N  x = some o) : zv_V (fX9_isOf d x0 o) 41 [] [] x := by
  unfold mX9_isOf_41 at h
  refine zv_iconst (v := 0) dX9_isOf_41 (by decide) ?_
  exact kX9_isOf_42 hd _ _ h
def mX9_isOf_27 (N : Nat) (l2 : Int32) (l3 : Int32) (x : zv_X) : Option (zv_X × Int32) := if l3 = l2 then (if l2 = (-1 : Int32) then (mX9_isOf_41 N x) else (mX9_isOf_42 N (1 : Int32) x)) else (mX9_isOf_41 N x)
theorem kX9_isOf_27 {d : Nat} {x0 : zv_X} {o : (zv_X × Int32)} (hd : 0 ≤ d) {N : Nat} (l2 : Int32) (l3 : Int32) (x : zv_X) (h : mX9_isOf_27 N l2 l3 x = some o) : zv_V (fX9_isOf d x0 o) 27 [(2, .int l2), (3, .int l3)] [] x := by
  unfold mX9_isOf_27 at h
  refine zv_iload_n (n := 1) dX9_isOf_27 rfl rfl ?_
  refine zv_iload_n (n := 0) dX9_isOf_28 rfl rfl ?_
  refine zr_icmp_ne (tgt := 41) dX9_isOf_29 (by decide) h (fun c2 h => ?_) (fun c2 h => ?_)
  · exact zv_fewer [] rfl (kX9_isOf_41 hd _ h)
  · refine zv_iload_n (n := 0) dX9_isOf_32 rfl rfl ?_
    refine zv_iconst (v := -1) dX9_isOf_33 (by decide) ?_
    refine zr_icmp_eq (tgt := 41) dX9_isOf_34 (by decide) h (fun c1 h => ?_) (fun c1 h => ?_)
    · exact zv_fewer [] rfl (kX9_isOf_41 hd _ h)
    · refine zv_iconst (v := 1) dX9_isOf_37 (by decide) ?_
      refine zv_goto (tgt := 42) dX9_isOf_38 (by decide) ?_
      exact zv_fewer [] rfl (kX9_isOf_42 hd _ _ h)
def mX9_isOf_7 (N : Nat) : Nat → Nat → Int32 → Int32 → zv_X → Option (zv_X × Int32)
  | 0, _, _, _, _ => none
  | n + 1, l0, l2, l3, x => if l3 = (-1 : Int32) then (mX9_isOf_27 N l2 l3 x) else (if l3 = l2 then (mX9_isOf_27 N l2 l3 x) else ((zm_R x l0 9 2).bind fun v1 => (zm_aI x v1 l3).bind fun v3 => mX9_isOf_7 N n l0 l2 v3 x))
theorem kX9_isOf_7 {d : Nat} {x0 : zv_X} {o : (zv_X × Int32)} (hd : 0 ≤ d) {N : Nat} : ∀ (n : Nat) (l0 : Nat) (l2 : Int32) (l3 : Int32) (x : zv_X), mX9_isOf_7 N n l0 l2 l3 x = some o → zv_V (fX9_isOf d x0 o) 7 [(0, .ref l0), (2, .int l2), (3, .int l3)] [] x := by
  intro n
  induction n with
  | zero => intro l0 l2 l3 x h; cases h
  | succ n ih =>
    intro l0 l2 l3 x h
    unfold mX9_isOf_7 at h
    refine zv_iload_n (n := 2) dX9_isOf_7 rfl rfl ?_
    refine zv_iconst (v := -1) dX9_isOf_8 (by decide) ?_
    refine zr_icmp_eq (tgt := 27) dX9_isOf_9 (by decide) h (fun c6 h => ?_) (fun c6 h => ?_)
    · exact zv_fewer [1, 2] rfl (kX9_isOf_27 hd _ _ _ h)
    · refine zv_iload_n (n := 2) dX9_isOf_12 rfl rfl ?_
      refine zv_iload_n (n := 1) dX9_isOf_13 rfl rfl ?_
      refine zr_icmp_eq (tgt := 27) dX9_isOf_14 (by decide) h (fun c5 h => ?_) (fun c5 h => ?_)
      · exact zv_fewer [1, 2] rfl (kX9_isOf_27 hd _ _ _ h)
      · refine zv_aload_n (n := 0) dX9_isOf_17 rfl rfl ?_
        refine zr_gR dX9_isOf_18 fg_1405 h (fun v1 e2 h => ?_)
        refine zv_iload_n (n := 2) dX9_isOf_21 rfl rfl ?_
        refine zr_aI dX9_isOf_22 h (fun v3 e4 h => ?_)
        refine zv_istore_n (L' := [(3, .int v3), (0, .ref l0), (2, .int l2)]) dX9_isOf_23 rfl (Nat.le_of_ble_eq_true rfl) rfl ?_
        refine zv_goto (tgt := 7) dX9_isOf_24 (by decide) ?_
        exact zv_fewer [1, 2, 0] rfl (ih _ _ _ _ h)
def mX9_isOf_0 (N : Nat) (l0 : Nat) (l1 : Int32) (l2 : Int32) (x : zv_X) : Option (zv_X × Int32) := (zm_R x l0 9 31).bind fun v1 => (zm_aI x v1 l1).bind fun v3 => mX9_isOf_7 N N l0 l2 v3 x
theorem kX9_isOf_0 {d : Nat} {x0 : zv_X} {o : (zv_X × Int32)} (hd : 0 ≤ d) {N : Nat} (l0 : Nat) (l1 : Int32) (l2 : Int32) (x : zv_X) (h : mX9_isOf_0 N l0 l1 l2 x = some o) : zv_V (fX9_isOf d x0 o) 0 [(0, .ref l0), (1, .int l1), (2, .int l2)] [] x := by
  unfold mX9_isOf_0 at h
  refine zv_aload_n (n := 0) dX9_isOf_0 rfl rfl ?_
  refine zr_gR dX9_isOf_1 fg_1434 h (fun v1 e2 h => ?_)
  refine zv_iload_n (n := 1) dX9_isOf_4 rfl rfl ?_
  refine zr_aI dX9_isOf_5 h (fun v3 e4 h => ?_)
  refine zv_istore_n (L' := [(3, .int v3), (0, .ref l0), (1, .int l1), (2, .int l2)]) dX9_isOf_6 rfl (Nat.le_of_ble_eq_true rfl) rfl ?_
  exact zv_fewer [1, 3, 0] rfl (kX9_isOf_7 hd N _ _ _ _ h)
def mX9_isOf (N : Nat) (a0 : Nat) (a1 : Int32) (a2 : Int32) (x : zv_X) : Option (zv_X × Int32) := mX9_isOf_0 N a0 a1 a2 x
theorem tX9_isOf {d : Nat} (hd : 0 ≤ d) {N : Nat} {x : zv_X} {a0 : Nat} {a1 : Int32} {a2 : Int32} {o : (zv_X × Int32)} (h : mX9_isOf N a0 a1 a2 x = some o) : zv_T d yX9_isOf cX9_isOf 4 ((some .boolean)) [.ref a0, .int a1, .int a2] x o.1 (some (.int o.2)) := by
  unfold mX9_isOf at h
  exact zv_enter (by decide) (Nat.le_of_ble_eq_true rfl) (kX9_isOf_0 hd _ _ _ _ h)

abbrev fX9_pushValue (d : Nat) (x0 : zv_X) (o : zv_X) : zv_G := (d, RX9, cX9_pushValue, 6, none, ("pushValue", []), x0, o, zv_fin x0 o none)
def mX9_pushValue_0 (N : Nat) (l0 : Nat) (l1 : Int32) (l2 : Int64) (x : zv_X) : Option zv_X := (zm_I x l0 9 47).bind fun v1 => (zm_R x l0 9 42).bind fun v3 => (zm_aI x v3 (v1 - (1 : Int32))).bind fun v5 => (zm_R x l0 9 45).bind fun v7 => (zm_sL x v7 (((12 : Int32) * (v1 - (1 : Int32))) + v5) l2).bind fun x9 => (zm_R x9 l0 9 46).bind fun v11 => (zm_sI x9 v11 (((12 : Int32) * (v1 - (1 : Int32))) + v5) l1).bind fun x13 => (zm_R x13 l0 9 42).bind fun v15 => (zm_aI x13 v15 (v1 - (1 : Int32))).bind fun v17 => (zm_sI x13 v15 (v1 - (1 : Int32)) (v17 + (1 : Int32))).bind fun x19 => some x19
theorem kX9_pushValue_0 {d : Nat} {x0 : zv_X} {o : zv_X} (hd : 0 ≤ d) {N : Nat} (l0 : Nat) (l1 : Int32) (l2 : Int64) (x : zv_X) (h : mX9_pushValue_0 N l0 l1 l2 x = some o) : zv_V (fX9_pushValue d x0 o) 0 [(0, .ref l0), (1, .int l1), (2, .long l2)] [] x := by
  unfold mX9_pushValue_0 at h
  refine zv_aload_n (n := 0) dX9_pushValue_0 rfl rfl ?_
  refine zr_gI dX9_pushValue_1 fg_1450 h (fun v1 e2 h => ?_)
  refine zv_iconst (v := 1) dX9_pushValue_4 (by decide) ?_
  refine zv_isub dX9_pushValue_5 ?_
  refine zv_istore (L' := [(4, .int (v1 - (1 : Int32))), (0, .ref l0), (1, .int l1), (2, .long l2)]) dX9_pushValue_6 (Nat.le_of_ble_eq_true rfl) rfl ?_
  refine zv_bipush (v := 12) dX9_pushValue_8 (by decide) ?_
  refine zv_iload (n := 0) dX9_pushValue_10 rfl ?_
  refine zv_imul dX9_pushValue_12 ?_
  refine zv_aload_n (n := 1) dX9_pushValue_13 rfl rfl ?_
  refine zr_gR dX9_pushValue_14 fg_1445 h (fun v3 e4 h => ?_)
  refine zv_iload (n := 0) dX9_pushValue_17 rfl ?_
  refine zr_aI dX9_pushValue_19 h (fun v5 e6 h => ?_)
  refine zv_iadd dX9_pushValue_20 ?_
  refine zv_istore (L' := [(5, .int (((12 : Int32) * (v1 - (1 : Int32))) + v5)), (4, .int (v1 - (1 : Int32))), (0, .ref l0), (1, .int l1), (2, .long l2)]) dX9_pushValue_21 (Nat.le_of_ble_eq_true rfl) rfl ?_
  refine zv_aload_n (n := 2) dX9_pushValue_23 rfl rfl ?_
  refine zr_gR dX9_pushValue_24 fg_1448 h (fun v7 e8 h => ?_)
  refine zv_iload (n := 0) dX9_pushValue_27 rfl ?_
  refine zv_lload_n (n := 4) dX9_pushValue_29 rfl rfl ?_
  refine zr_sL dX9_pushValue_30 h (fun x9 e10 h => ?_)
  refine zv_aload_n (n := 2) dX9_pushValue_31 rfl rfl ?_
  refine zr_gR dX9_pushValue_32 fg_1449 h (fun v11 e12 h => ?_)
  refine zv_iload (n := 0) dX9_pushValue_35 rfl ?_
  refine zv_iload_n (n := 3) dX9_pushValue_37 rfl rfl ?_
  refine zr_sI dX9_pushValue_38 h (fun x13 e14 h => ?_)
  refine zv_aload_n (n := 2) dX9_pushValue_39 rfl rfl ?_
  refine zr_gR dX9_pushValue_40 fg_1445 h (fun v15 e16 h => ?_)
  refine zv_iload (n := 1) dX9_pushValue_43 rfl ?_
  refine zv_dup2_11 dX9_pushValue_45 rfl rfl ?_
  refine zr_aI dX9_pushValue_46 h (fun v17 e18 h => ?_)
  refine zv_iconst (v := 1) dX9_pushValue_47 (by decide) ?_
  refine zv_iadd dX9_pushValue_48 ?_
  refine zr_sI dX9_pushValue_49 h (fun x19 e20 h => ?_)
  cases h
  exact zv_vret dX9_pushValue_50 rfl
def mX9_pushValue (N : Nat) (a0 : Nat) (a1 : Int32) (a2 : Int64) (x : zv_X) : Option zv_X := mX9_pushValue_0 N a0 a1 a2 x
theorem tX9_pushValue {d : Nat} (hd : 0 ≤ d) {N : Nat} {x : zv_X} {a0 : Nat} {a1 : Int32} {a2 : Int64} {o : zv_X} (h : mX9_pushValue N a0 a1 a2 x = some o) : zv_T d yX9_pushValue cX9_pushValue 6 (none) [.ref a0, .int a1, .long a2] x o none := by
  unfold mX9_pushValue at h
  exact zv_enter (by decide) (Nat.le_of_ble_eq_true rfl) (kX9_pushValue_0 hd _ _ _ _ h)

abbrev fX9_hurl (d : Nat) (x0 : zv_X) (o : zv_X) : zv_G := (d, RX9, cX9_hurl, 6, none, ("hurl", []), x0, o, zv_fin x0 o none)
def mX9_hurl_129 (K0 : Nat → Int32 → zv_X → Option zv_X) (K24 : Nat → Int32 → Int32 → Int32 → Int32 → zv_X → Option zv_X) (N : Nat) (l0 : Nat) (l1 : Int32) (l2 : Int32) (l3 : Int32) (l4 : Int32) (x : zv_X) : Option zv_X := K24 l0 l1 l2 l3 (l4 + (1)) x
theorem kX9_hurl_129 {d : Nat} {x0 : zv_X} {o : zv_X} (hd : 1 ≤ d) {K0 : Nat → Int32 → zv_X → Option zv_X} (hK0 : ∀ (l0 : Nat) (l1 : Int32) (x : zv_X), K0 l0 l1 x = some o → zv_V (fX9_hurl d x0 o) 0 [(0, .ref l0), (1, .int l1)] [] x) {K24 : Nat → Int32 → Int32 → Int32 → Int32 → zv_X → Option zv_X} (hK24 : ∀ (l0 : Nat) (l1 : Int32) (l2 : Int32) (l3 : Int32) (l4 : Int32) (x : zv_X), K24 l0 l1 l2 l3 l4 x = some o → zv_V (fX9_hurl d x0 o) 24 [(0, .ref l0), (1, .int l1), (2, .int l2), (3, .int l3), (4, .int l4)] [] x) {N : Nat} (l0 : Nat) (l1 : Int32) (l2 : Int32) (l3 : Int32) (l4 : Int32) (x : zv_X) (h : mX9_hurl_129 K0 K24 N l0 l1 l2 l3 l4 x = some o) : zv_V (fX9_hurl d x0 o) 129 [(0, .ref l0), (1, .int l1), (2, .int l2), (3, .int l3), (4, .int l4)] [] x := by
  unfold mX9_hurl_129 at h
  refine zv_iinc (n := 4) (v := l4 + (1)) (L' := [(4, .int (l4 + (1))), (0, .ref l0), (1, .int l1), (2, .int l2), (3, .int l3)]) dX9_hurl_129 rfl rfl (Nat.le_of_ble_eq_true rfl) rfl ?_
  refine zv_goto (tgt := 24) dX9_hurl_132 (by decide) ?_
  exact zv_fewer [1, 2, 3, 4, 0] rfl (hK24 _ _ _ _ _ _ h)
def mX9_hurl_24 (K0 : Nat → Int32 → zv_X → Option zv_X) (N : Nat) : Nat → Nat → Int32 → Int32 → Int32 → Int32 → zv_X → Option zv_X
  | 0, _, _, _, _, _, _ => none
  | n + 1, l0, l1, l2, l3, l4, x => (zm_R x l0 9 11).bind fun v1 => (zm_aI x v1 l3).bind fun v3 => if v3 ≤ l4 then ((zm_I x l0 9 47).bind fun v5 => (zm_p x l0 9 47 (.int (v5 - (1 : Int32)))).bind fun x7 => K0 l0 l1 x7) else ((zm_R x l0 9 10).bind fun v9 => (zm_aI x v9 (((32 : Int32) * l3) + ((4 : Int32) * l4))).bind fun v11 => (zm_R x l0 9 41).bind fun v13 => (zm_aI x v13 l2).bind fun v15 => if v15 < v11 then (mX9_hurl_129 K0 (mX9_hurl_24 K0 N n) N l0 l1 l2 l3 l4 x) else ((zm_R x l0 9 41).bind fun v17 => (zm_aI x v17 l2).bind fun v19 => (zm_R x l0 9 10).bind fun v21 => (zm_aI x v21 ((((32 : Int32) * l3) + ((4 : Int32) * l4)) + (1 : Int32))).bind fun v23 => if v23 ≤ v19 then (mX9_hurl_129 K0 (mX9_hurl_24 K0 N n) N l0 l1 l2 l3 l4 x) else ((zm_R x l0 9 10).bind fun v25 => (zm_aI x v25 ((((32 : Int32) * l3) + ((4 : Int32) * l4)) + (3 : Int32))).bind fun v27 => if zm_k x l0 9 = true then ((mX9_isOf N l0 l1 v27 x).bind fun o29 => if o29.2 = 0 then (mX9_hurl_129 K0 (mX9_hurl_24 K0 N n) N l0 l1 l2 l3 l4 o29.1) else ((zm_R o29.1 l0 9 42).bind fun v31 => (zm_sI o29.1 v31 l2 (0 : Int32)).bind fun x33 => if zm_k x33 l0 9 = true then ((mX9_pushValue N l0 (3 : Int32) ((Int32.toInt64 l1) + (1 : Int64)) x33).bind fun o35 => (zm_R o35 l0 9 41).bind fun v37 => (zm_R o35 l0 9 10).bind fun v39 => (zm_aI o35 v39 ((((32 : Int32) * l3) + ((4 : Int32) * l4)) + (2 : Int32))).bind fun v41 => (zm_sI o35 v37 l2 v41).bind fun x43 => some x43) else none)) else none)))
theorem kX9_hurl_24 {d : Nat} {x0 : zv_X} {o : zv_X} (hd : 1 ≤ d) {K0 : Nat → Int32 → zv_X → Option zv_X} (hK0 : ∀ (l0 : Nat) (l1 : Int32) (x : zv_X), K0 l0 l1 x = some o → zv_V (fX9_hurl d x0 o) 0 [(0, .ref l0), (1, .int l1)] [] x) {N : Nat} : ∀ (n : Nat) (l0 : Nat) (l1 : Int32) (l2 : Int32) (l3 : Int32) (l4 : Int32) (x : zv_X), mX9_hurl_24 K0 N n l0 l1 l2 l3 l4 x = some o → zv_V (fX9_hurl d x0 o) 24 [(0, .ref l0), (1, .int l1), (2, .int l2), (3, .int l3), (4, .int l4)] [] x := by
  intro n
  induction n with
  | zero => intro l0 l1 l2 l3 l4 x h; cases h
  | succ n ih =>
    intro l0 l1 l2 l3 l4 x h
    unfold mX9_hurl_24 at h
    refine zv_iload (n := 4) dX9_hurl_24 rfl ?_
    refine zv_aload_n (n := 0) dX9_hurl_26 rfl rfl ?_
    refine zr_gR dX9_hurl_27 fg_1414 h (fun v1 e2 h => ?_)
    refine zv_iload_n (n := 3) dX9_hurl_30 rfl rfl ?_
    refine zr_aI dX9_hurl_31 h (fun v3 e4 h => ?_)
    refine zr_icmp_ge (tgt := 135) dX9_hurl_32 (by decide) h (fun c48 h => ?_) (fun c48 h => ?_)
    · refine zv_aload_n (n := 0) dX9_hurl_135 rfl rfl ?_
      refine zv_dup dX9_hurl_136 rfl ?_
      refine zr_gI dX9_hurl_137 fg_1450 h (fun v5 e6 h => ?_)
      refine zv_iconst (v := 1) dX9_hurl_140 (by decide) ?_
      refine zv_isub dX9_hurl_141 ?_
      refine zr_p dX9_hurl_142 fl_1450 (fun q => nomatch q) rfl rfl h (fun x7 e8 h => ?_)
      refine zv_goto (tgt := 0) dX9_hurl_145 (by decide) ?_
      exact zv_fewer [0, 1] rfl (hK0 _ _ _ h)
    · refine zv_bipush (v := 32) dX9_hurl_35 (by decide) ?_
      refine zv_iload_n (n := 3) dX9_hurl_37 rfl rfl ?_
      refine zv_imul dX9_hurl_38 ?_
      refine zv_iconst (v := 4) dX9_hurl_39 (by decide) ?_
      refine zv_iload (n := 4) dX9_hurl_40 rfl ?_
      refine zv_imul dX9_hurl_42 ?_
      refine zv_iadd dX9_hurl_43 ?_
      refine zv_istore (L' := [(5, .int (((32 : Int32) * l3) + ((4 : Int32) * l4))), (0, .ref l0), (1, .int l1), (2, .int l2), (3, .int l3), (4, .int l4)]) dX9_hurl_44 (Nat.le_of_ble_eq_true rfl) rfl ?_
      refine zv_aload_n (n := 1) dX9_hurl_46 rfl rfl ?_
      refine zr_gR dX9_hurl_47 fg_1413 h (fun v9 e10 h => ?_)
      refine zv_iload (n := 0) dX9_hurl_50 rfl ?_
      refine zr_aI dX9_hurl_52 h (fun v11 e12 h => ?_)
      refine zv_aload_n (n := 1) dX9_hurl_53 rfl rfl ?_
      refine zr_gR dX9_hurl_54 fg_1444 h (fun v13 e14 h => ?_)
      refine zv_iload_n (n := 3) dX9_hurl_57 rfl rfl ?_
      refine zr_aI dX9_hurl_58 h (fun v15 e16 h => ?_)
      refine zr_icmp_gt (tgt := 129) dX9_hurl_59 (by decide) h (fun c47 h => ?_) (fun c47 h => ?_)
      · exact zv_fewer [1, 2, 3, 4, 5] rfl (kX9_hurl_129 hd hK0 ih _ _ _ _ _ _ h)
      · refine zv_aload_n (n := 1) dX9_hurl_62 rfl rfl ?_
        refine zr_gR dX9_hurl_63 fg_1444 h (fun v17 e18 h => ?_)
        refine zv_iload_n (n := 3) dX9_hurl_66 rfl rfl ?_
        refine zr_aI dX9_hurl_67 h (fun v19 e20 h => ?_)
        refine zv_aload_n (n := 1) dX9_hurl_68 rfl rfl ?_
        refine zr_gR dX9_hurl_69 fg_1413 h (fun v21 e22 h => ?_)
        refine zv_iload (n := 0) dX9_hurl_72 rfl ?_
        refine zv_iconst (v := 1) dX9_hurl_74 (by decide) ?_
        refine zv_iadd dX9_hurl_75 ?_
        refine zr_aI dX9_hurl_76 h (fun v23 e24 h => ?_)
        refine zr_icmp_ge (tgt := 129) dX9_hurl_77 (by decide) h (fun c46 h => ?_) (fun c46 h => ?_)
        · exact zv_fewer [1, 2, 3, 4, 5] rfl (kX9_hurl_129 hd hK0 ih _ _ _ _ _ _ h)
        · refine zv_aload_n (n := 1) dX9_hurl_80 rfl rfl ?_
          refine zv_iload_n (n := 2) dX9_hurl_81 rfl rfl ?_
          refine zv_aload_n (n := 1) dX9_hurl_82 rfl rfl ?_
          refine zr_gR dX9_hurl_83 fg_1413 h (fun v25 e26 h => ?_)
          refine zv_iload (n := 0) dX9_hurl_86 rfl ?_
          refine zv_iconst (v := 3) dX9_hurl_88 (by decide) ?_
          refine zv_iadd dX9_hurl_89 ?_
          refine zr_aI dX9_hurl_90 h (fun v27 e28 h => ?_)
          refine zr_cVi (ci := 9) (st := []) dX9_hurl_91 mw_X9_isOf wd_1723 wd_1725 wd_78 rfl rfl [.int l1, .int v27] rfl rfl (Nat.le_of_ble_eq_true rfl) (show d - 1 + 1 ≤ d by omega) h (fun o29 e30 => tX9_isOf (d := d - 1) (by omega) e30) (fun o29 e30 h => ?_)
          refine zr_if_eq (tgt := 129) dX9_hurl_94 (by decide) h (fun c45 h => ?_) (fun c45 h => ?_)
          · exact zv_fewer [1, 2, 3, 4, 5] rfl (kX9_hurl_129 hd hK0 ih _ _ _ _ _ _ h)
          · refine zv_aload_n (n := 1) dX9_hurl_97 rfl rfl ?_
            refine zr_gR dX9_hurl_98 fg_1445 h (fun v31 e32 h => ?_)
            refine zv_iload_n (n := 3) dX9_hurl_101 rfl rfl ?_
            refine zv_iconst (v := 0) dX9_hurl_102 (by decide) ?_
            refine zr_sI dX9_hurl_103 h (fun x33 e34 h => ?_)
            refine zv_aload_n (n := 1) dX9_hurl_104 rfl rfl ?_
            refine zv_iconst (v := 3) dX9_hurl_105 (by decide) ?_
            refine zv_iload_n (n := 2) dX9_hurl_106 rfl rfl ?_
            refine zv_i2l dX9_hurl_107 ?_
            refine zv_lconst (v := 1) dX9_hurl_108 (by decide) ?_
            refine zv_ladd dX9_hurl_109 ?_
            refine zr_cVv (ci := 9) (st := []) dX9_hurl_110 mw_X9_pushValue wd_1670 wd_1672 wd_67 rfl rfl [.int (3 : Int32), .long ((Int32.toInt64 l1) + (1 : Int64))] rfl rfl (Nat.le_of_ble_eq_true rfl) (show d - 1 + 1 ≤ d by omega) h (fun o35 e36 => tX9_pushValue (d := d - 1) (by omega) e36) (fun o35 e36 h => ?_)
            refine zv_aload_n (n := 1) dX9_hurl_113 rfl rfl ?_
            refine zr_gR dX9_hurl_114 fg_1444 h (fun v37 e38 h => ?_)
            refine zv_iload_n (n := 3) dX9_hurl_117 rfl rfl ?_
            refine zv_aload_n (n := 1) dX9_hurl_118 rfl rfl ?_
            refine zr_gR dX9_hurl_119 fg_1413 h (fun v39 e40 h => ?_)
            refine zv_iload (n := 0) dX9_hurl_122 rfl ?_
            refine zv_iconst (v := 2) dX9_hurl_124 (by decide) ?_
            refine zv_iadd dX9_hurl_125 ?_
            refine zr_aI dX9_hurl_126 h (fun v41 e42 h => ?_)
            refine zr_sI dX9_hurl_127 h (fun x43 e44 h => ?_)
            cases h
            exact zv_vret dX9_hurl_128 rfl
def mX9_hurl_0 (N : Nat) : Nat → Nat → Int32 → zv_X → Option zv_X
  | 0, _, _, _ => none
  | n + 1, l0, l1, x => (zm_I x l0 9 47).bind fun v1 => if v1 ≤ 0 then ((zm_R x l0 9 31).bind fun v3 => (zm_aI x v3 l1).bind fun v5 => (zm_p x l0 9 50 (.long (Int32.toInt64 v5))).bind fun x7 => (zm_p x7 l0 9 48 (.int (1 : Int32))).bind fun x9 => (zm_p x9 l0 9 49 (.int (1 : Int32))).bind fun x11 => some x11) else ((zm_I x l0 9 47).bind fun v13 => (zm_R x l0 9 40).bind fun v15 => (zm_aI x v15 (v13 - (1 : Int32))).bind fun v17 => mX9_hurl_24 (mX9_hurl_0 N n) N N l0 l1 (v13 - (1 : Int32)) v17 (0 : Int32) x)
theorem kX9_hurl_0 {d : Nat} {x0 : zv_X} {o : zv_X} (hd : 1 ≤ d) {N : Nat} : ∀ (n : Nat) (l0 : Nat) (l1 : Int32) (x : zv_X), mX9_hurl_0 N n l0 l1 x = some o → zv_V (fX9_hurl d x0 o) 0 [(0, .ref l0), (1, .int l1)] [] x := by
  intro n
  induction n with
  | zero => intro l0 l1 x h; cases h
  | succ n ih =>
    intro l0 l1 x h
    unfold mX9_hurl_0 at h
    refine zv_aload_n (n := 0) dX9_hurl_0 rfl rfl ?_
    refine zr_gI dX9_hurl_1 fg_1450 h (fun v1 e2 h => ?_)
    refine zr_if_le (tgt := 148) dX9_hurl_4 (by decide) h (fun c19 h => ?_) (fun c19 h => ?_)
    · refine zv_aload_n (n := 0) dX9_hurl_148 rfl rfl ?_
      refine zv_aload_n (n := 0) dX9_hurl_149 rfl rfl ?_
      refine zr_gR dX9_hurl_150 fg_1434 h (fun v3 e4 h => ?_)
      refine zv_iload_n (n := 1) dX9_hurl_153 rfl rfl ?_
      refine zr_aI dX9_hurl_154 h (fun v5 e6 h => ?_)
      refine zv_i2l dX9_hurl_155 ?_
      refine zr_p dX9_hurl_156 fl_1453 (fun q => nomatch q) rfl rfl h (fun x7 e8 h => ?_)
      refine zv_aload_n (n := 0) dX9_hurl_159 rfl rfl ?_
      refine zv_iconst (v := 1) dX9_hurl_160 (by decide) ?_
      refine zr_p dX9_hurl_161 fl_1451 (fun q => nomatch q) rfl rfl h (fun x9 e10 h => ?_)
      refine zv_aload_n (n := 0) dX9_hurl_164 rfl rfl ?_
      refine zv_iconst (v := 1) dX9_hurl_165 (by decide) ?_
      refine zr_p dX9_hurl_166 fl_1452 (fun q => nomatch q) rfl rfl h (fun x11 e12 h => ?_)
      cases h
      exact zv_vret dX9_hurl_169 rfl
    · refine zv_aload_n (n := 0) dX9_hurl_7 rfl rfl ?_
      refine zr_gI dX9_hurl_8 fg_1450 h (fun v13 e14 h => ?_)
      refine zv_iconst (v := 1) dX9_hurl_11 (by decide) ?_
      refine zv_isub dX9_hurl_12 ?_
      refine zv_istore_n (L' := [(2, .int (v13 - (1 : Int32))), (0, .ref l0), (1, .int l1)]) dX9_hurl_13 rfl (Nat.le_of_ble_eq_true rfl) rfl ?_
      refine zv_aload_n (n := 1) dX9_hurl_14 rfl rfl ?_
      refine zr_gR dX9_hurl_15 fg_1443 h (fun v15 e16 h => ?_)
      refine zv_iload_n (n := 0) dX9_hurl_18 rfl rfl ?_
      refine zr_aI dX9_hurl_19 h (fun v17 e18 h => ?_)
      refine zv_istore_n (L' := [(3, .int v17), (2, .int (v13 - (1 : Int32))), (0, .ref l0), (1, .int l1)]) dX9_hurl_20 rfl (Nat.le_of_ble_eq_true rfl) rfl ?_
      refine zv_iconst (v := 0) dX9_hurl_21 (by decide) ?_
      refine zv_istore (L' := [(4, .int (0 : Int32)), (3, .int v17), (2, .int (v13 - (1 : Int32))), (0, .ref l0), (1, .int l1)]) dX9_hurl_22 (Nat.le_of_ble_eq_true rfl) rfl ?_
      exact zv_fewer [3, 4, 2, 1, 0] rfl (kX9_hurl_24 hd ih N _ _ _ _ _ _ h)
def mX9_hurl (N : Nat) (a0 : Nat) (a1 : Int32) (x : zv_X) : Option zv_X := mX9_hurl_0 N N a0 a1 x
theorem tX9_hurl {d : Nat} (hd : 1 ≤ d) {N : Nat} {x : zv_X} {a0 : Nat} {a1 : Int32} {o : zv_X} (h : mX9_hurl N a0 a1 x = some o) : zv_T d yX9_hurl cX9_hurl 6 (none) [.ref a0, .int a1] x o none := by
  unfold mX9_hurl at h
  exact zv_enter (by decide) (Nat.le_of_ble_eq_true rfl) (kX9_hurl_0 hd N _ _ _ h)

abbrev fX9_meet (d : Nat) (x0 : zv_X) (o : (zv_X × Int32)) : zv_G := (d, RX9, cX9_meet, 5, (some .int), ("meet", []), x0, o.1, zv_fin x0 o.1 (some (.int o.2)))
def mX9_meet_21 (N : Nat) (l3 : Int32) (x : zv_X) : Option (zv_X × Int32) := some (x, l3)
theorem kX9_meet_21 {d : Nat} {x0 : zv_X} {o : (zv_X × Int32)} (hd : 0 ≤ d) {N : Nat} (l3 : Int32) (x : zv_X) (h : mX9_meet_21 N l3 x = some o) : zv_V (fX9_meet d x0 o) 21 [(3, .int l3)] [] x := by
  unfold mX9_meet_21 at h
  refine zv_iload_n (n := 0) dX9_meet_21 rfl rfl ?_
  cases h
  exact zv_iret dX9_meet_22 rfl
def mX9_meet_0 (N : Nat) (l0 : Nat) (l1 : Int64) (l3 : Int32) (x : zv_X) : Option (zv_X × Int32) := if ((Int64.toInt32 l1) - (1 : Int32)) < 0 then (mX9_meet_21 N l3 x) else ((zm_R x l0 9 30).bind fun v1 => (zm_aB x v1 ((Int64.toInt32 l1) - (1 : Int32))).bind fun v3 => if v3 = 0 then ((zm_R x l0 9 30).bind fun v5 => (zm_sB x v5 ((Int64.toInt32 l1) - (1 : Int32)) (1 : Int32)).bind fun x7 => (zm_R x7 l0 9 39).bind fun v9 => (zm_sI x7 v9 l3 ((Int64.toInt32 l1) - (1 : Int32))).bind fun x11 => some (x11, l3 + (1 : Int32))) else (mX9_meet_21 N l3 x))
theorem kX9_meet_0 {d : Nat} {x0 : zv_X} {o : (zv_X × Int32)} (hd : 0 ≤ d) {N : Nat} (l0 : Nat) (l1 : Int64) (l3 : Int32) (x : zv_X) (h : mX9_meet_0 N l0 l1 l3 x = some o) : zv_V (fX9_meet d x0 o) 0 [(0, .ref l0), (1, .long l1), (3, .int l3)] [] x := by
  unfold mX9_meet_0 at h
  refine zv_lload_n (n := 1) dX9_meet_0 rfl rfl ?_
  refine zv_l2i dX9_meet_1 ?_
  refine zv_iconst (v := 1) dX9_meet_2 (by decide) ?_
  refine zv_isub dX9_meet_3 ?_
  refine zv_istore (L' := [(4, .int ((Int64.toInt32 l1) - (1 : Int32))), (0, .ref l0), (1, .long l1), (3, .int l3)]) dX9_meet_4 (Nat.le_of_ble_eq_true rfl) rfl ?_
  refine zv_iload (n := 0) dX9_meet_6 rfl ?_
  refine zr_if_lt (tgt := 21) dX9_meet_8 (by decide) h (fun c14 h => ?_) (fun c14 h => ?_)
  · exact zv_fewer [3] rfl (kX9_meet_21 hd _ _ h)
  · refine zv_aload_n (n := 1) dX9_meet_11 rfl rfl ?_
    refine zr_gR dX9_meet_12 fg_1433 h (fun v1 e2 h => ?_)
    refine zv_iload (n := 0) dX9_meet_15 rfl ?_
    refine zr_aB dX9_meet_17 h (fun v3 e4 h => ?_)
    refine zr_if_eq (tgt := 23) dX9_meet_18 (by decide) h (fun c13 h => ?_) (fun c13 h => ?_)
    · refine zv_aload_n (n := 1) dX9_meet_23 rfl rfl ?_
      refine zr_gR dX9_meet_24 fg_1433 h (fun v5 e6 h => ?_)
      refine zv_iload (n := 0) dX9_meet_27 rfl ?_
      refine zv_iconst (v := 1) dX9_meet_29 (by decide) ?_
      refine zr_sB dX9_meet_30 h (fun x7 e8 h => ?_)
      refine zv_aload_n (n := 1) dX9_meet_31 rfl rfl ?_
      refine zr_gR dX9_meet_32 fg_1442 h (fun v9 e10 h => ?_)
      refine zv_iload_n (n := 3) dX9_meet_35 rfl rfl ?_
      refine zv_iload (n := 0) dX9_meet_36 rfl ?_
      refine zr_sI dX9_meet_38 h (fun x11 e12 h => ?_)
      refine zv_iload_n (n := 3) dX9_meet_39 rfl rfl ?_
      refine zv_iconst (v := 1) dX9_meet_40 (by decide) ?_
      refine zv_iadd dX9_meet_41 ?_
      cases h
      exact zv_iret dX9_meet_42 rfl
    · exact zv_fewer [3] rfl (kX9_meet_21 hd _ _ h)
def mX9_meet (N : Nat) (a0 : Nat) (a1 : Int64) (a2 : Int32) (x : zv_X) : Option (zv_X × Int32) := mX9_meet_0 N a0 a1 a2 x
theorem tX9_meet {d : Nat} (hd : 0 ≤ d) {N : Nat} {x : zv_X} {a0 : Nat} {a1 : Int64} {a2 : Int32} {o : (zv_X × Int32)} (h : mX9_meet N a0 a1 a2 x = some o) : zv_T d yX9_meet cX9_meet 5 ((some .int)) [.ref a0, .long a1, .int a2] x o.1 (some (.int o.2)) := by
  unfold mX9_meet at h
  exact zv_enter (by decide) (Nat.le_of_ble_eq_true rfl) (kX9_meet_0 hd _ _ _ _ h)

abbrev fX9_wordsOf (d : Nat) (x0 : zv_X) (o : (zv_X × Int64)) : zv_G := (d, RX9, cX9_wordsOf, 3, (some .long), ("wordsOf", []), x0, o.1, zv_fin x0 o.1 (some (.long o.2)))
def mX9_wordsOf_11 (N : Nat) (l1 : Int64) (x : zv_X) : Option (zv_X × Int64) := some (x, (2 : Int64) + ((l1 + (3 : Int64)) / (4 : Int64)))
theorem kX9_wordsOf_11 {d : Nat} {x0 : zv_X} {o : (zv_X × Int64)} (hd : 0 ≤ d) {N : Nat} (l1 : Int64) (x : zv_X) (h : mX9_wordsOf_11 N l1 x = some o) : zv_V (fX9_wordsOf d x0 o) 11 [(1, .long l1)] [] x := by
  unfold mX9_wordsOf_11 at h
  refine zv_ldc2 dX9_wordsOf_11 wd_1712 ?_
  refine zv_lload_n (n := 0) dX9_wordsOf_14 rfl rfl ?_
  refine zv_ldc2 dX9_wordsOf_15 wd_1713 ?_
  refine zv_ladd dX9_wordsOf_18 ?_
  refine zv_ldc2 dX9_wordsOf_19 wd_1714 ?_
  refine zv_ldiv dX9_wordsOf_22 (by decide) ?_
  refine zv_ladd dX9_wordsOf_23 ?_
  cases h
  exact zv_lret dX9_wordsOf_24 rfl
def mX9_wordsOf_36 (N : Nat) (l1 : Int64) (x : zv_X) : Option (zv_X × Int64) := some (x, (2 : Int64) + ((l1 + (1 : Int64)) / (2 : Int64)))
theorem kX9_wordsOf_36 {d : Nat} {x0 : zv_X} {o : (zv_X × Int64)} (hd : 0 ≤ d) {N : Nat} (l1 : Int64) (x : zv_X) (h : mX9_wordsOf_36 N l1 x = some o) : zv_V (fX9_wordsOf d x0 o) 36 [(1, .long l1)] [] x := by
  unfold mX9_wordsOf_36 at h
  refine zv_ldc2 dX9_wordsOf_36 wd_1712 ?_
  refine zv_lload_n (n := 0) dX9_wordsOf_39 rfl rfl ?_
  refine zv_lconst (v := 1) dX9_wordsOf_40 (by decide) ?_
  refine zv_ladd dX9_wordsOf_41 ?_
  refine zv_ldc2 dX9_wordsOf_42 wd_1712 ?_
  refine zv_ldiv dX9_wordsOf_45 (by decide) ?_
  refine zv_ladd dX9_wordsOf_46 ?_
  cases h
  exact zv_lret dX9_wordsOf_47 rfl
def mX9_wordsOf_71 (N : Nat) (s0 : Int64) (x : zv_X) : Option (zv_X × Int64) := some (x, s0)
theorem kX9_wordsOf_71 {d : Nat} {x0 : zv_X} {o : (zv_X × Int64)} (hd : 0 ≤ d) {N : Nat} (s0 : Int64) (x : zv_X) (h : mX9_wordsOf_71 N s0 x = some o) : zv_V (fX9_wordsOf d x0 o) 71 [] [.long s0] x := by
  unfold mX9_wordsOf_71 at h
  cases h
  exact zv_lret dX9_wordsOf_71 rfl
def mX9_wordsOf_0 (N : Nat) (l0 : Int32) (l1 : Int64) (x : zv_X) : Option (zv_X × Int64) := if l0 = (4 : Int32) then (mX9_wordsOf_11 N l1 x) else (if l0 = (8 : Int32) then (mX9_wordsOf_11 N l1 x) else (if l0 = (5 : Int32) then (mX9_wordsOf_36 N l1 x) else (if l0 = (9 : Int32) then (mX9_wordsOf_36 N l1 x) else (if l0 = (11 : Int32) then (mX9_wordsOf_71 N ((2 : Int64) + ((2 : Int64) * l1)) x) else (mX9_wordsOf_71 N ((2 : Int64) + l1) x)))))
theorem kX9_wordsOf_0 {d : Nat} {x0 : zv_X} {o : (zv_X × Int64)} (hd : 0 ≤ d) {N : Nat} (l0 : Int32) (l1 : Int64) (x : zv_X) (h : mX9_wordsOf_0 N l0 l1 x = some o) : zv_V (fX9_wordsOf d x0 o) 0 [(0, .int l0), (1, .long l1)] [] x := by
  unfold mX9_wordsOf_0 at h
  refine zv_iload_n (n := 0) dX9_wordsOf_0 rfl rfl ?_
  refine zv_iconst (v := 4) dX9_wordsOf_1 (by decide) ?_
  refine zr_icmp_eq (tgt := 11) dX9_wordsOf_2 (by decide) h (fun c5 h => ?_) (fun c5 h => ?_)
  · exact zv_fewer [1] rfl (kX9_wordsOf_11 hd _ _ h)
  · refine zv_iload_n (n := 0) dX9_wordsOf_5 rfl rfl ?_
    refine zv_bipush (v := 8) dX9_wordsOf_6 (by decide) ?_
    refine zr_icmp_ne (tgt := 25) dX9_wordsOf_8 (by decide) h (fun c4 h => ?_) (fun c4 h => ?_)
    · refine zv_iload_n (n := 0) dX9_wordsOf_25 rfl rfl ?_
      refine zv_iconst (v := 5) dX9_wordsOf_26 (by decide) ?_
      refine zr_icmp_eq (tgt := 36) dX9_wordsOf_27 (by decide) h (fun c3 h => ?_) (fun c3 h => ?_)
      · exact zv_fewer [1] rfl (kX9_wordsOf_36 hd _ _ h)
      · refine zv_iload_n (n := 0) dX9_wordsOf_30 rfl rfl ?_
        refine zv_bipush (v := 9) dX9_wordsOf_31 (by decide) ?_
        refine zr_icmp_ne (tgt := 48) dX9_wordsOf_33 (by decide) h (fun c2 h => ?_) (fun c2 h => ?_)
        · refine zv_iload_n (n := 0) dX9_wordsOf_48 rfl rfl ?_
          refine zv_bipush (v := 11) dX9_wordsOf_49 (by decide) ?_
          refine zr_icmp_ne (tgt := 66) dX9_wordsOf_51 (by decide) h (fun c1 h => ?_) (fun c1 h => ?_)
          · refine zv_ldc2 dX9_wordsOf_66 wd_1712 ?_
            refine zv_lload_n (n := 1) dX9_wordsOf_69 rfl rfl ?_
            refine zv_ladd dX9_wordsOf_70 ?_
            exact zv_fewer [] rfl (kX9_wordsOf_71 hd _ _ h)
          · refine zv_ldc2 dX9_wordsOf_54 wd_1712 ?_
            refine zv_ldc2 dX9_wordsOf_57 wd_1712 ?_
            refine zv_lload_n (n := 1) dX9_wordsOf_60 rfl rfl ?_
            refine zv_lmul dX9_wordsOf_61 ?_
            refine zv_ladd dX9_wordsOf_62 ?_
            refine zv_goto (tgt := 71) dX9_wordsOf_63 (by decide) ?_
            exact zv_fewer [] rfl (kX9_wordsOf_71 hd _ _ h)
        · exact zv_fewer [1] rfl (kX9_wordsOf_36 hd _ _ h)
    · exact zv_fewer [1] rfl (kX9_wordsOf_11 hd _ _ h)
def mX9_wordsOf (N : Nat) (a0 : Int32) (a1 : Int64) (x : zv_X) : Option (zv_X × Int64) := mX9_wordsOf_0 N a0 a1 x
theorem tX9_wordsOf {d : Nat} (hd : 0 ≤ d) {N : Nat} {x : zv_X} {a0 : Int32} {a1 : Int64} {o : (zv_X × Int64)} (h : mX9_wordsOf N a0 a1 x = some o) : zv_T d yX9_wordsOf cX9_wordsOf 3 ((some .long)) [.int a0, .long a1] x o.1 (some (.long o.2)) := by
  unfold mX9_wordsOf at h
  exact zv_enter (by decide) (Nat.le_of_ble_eq_true rfl) (kX9_wordsOf_0 hd _ _ _ h)
