abbrev fX9_reach (d : Nat) (x0 : zv_X) (o : (zv_X × Int64)) : zv_G := (d, RX9, cX9_reach, 7, (some .long), ("reach", []), x0, o.1, zv_fin x0 o.1 (some (.long o.2)))
def mX9_reach_295 (K164 : Nat → Int32 → Int64 → zv_X → Option (zv_X × Int64)) (K203 : Nat → Int32 → Int64 → Int32 → Int32 → zv_X → Option (zv_X × Int64)) (N : Nat) (l0 : Nat) (l2 : Int64) (l4 : Int32) (l5 : Int32) (s0 : Int32) (x : zv_X) : Option (zv_X × Int64) := K203 l0 s0 l2 l4 (l5 + (1)) x
theorem kX9_reach_295 {d : Nat} {x0 : zv_X} {o : (zv_X × Int64)} (hd : 1 ≤ d) {K164 : Nat → Int32 → Int64 → zv_X → Option (zv_X × Int64)} (hK164 : ∀ (l0 : Nat) (l1 : Int32) (l2 : Int64) (x : zv_X), K164 l0 l1 l2 x = some o → zv_V (fX9_reach d x0 o) 164 [(0, .ref l0), (1, .int l1), (2, .long l2)] [] x) {K203 : Nat → Int32 → Int64 → Int32 → Int32 → zv_X → Option (zv_X × Int64)} (hK203 : ∀ (l0 : Nat) (l1 : Int32) (l2 : Int64) (l4 : Int32) (l5 : Int32) (x : zv_X), K203 l0 l1 l2 l4 l5 x = some o → zv_V (fX9_reach d x0 o) 203 [(0, .ref l0), (1, .int l1), (2, .long l2), (4, .int l4), (5, .int l5)] [] x) {N : Nat} (l0 : Nat) (l2 : Int64) (l4 : Int32) (l5 : Int32) (s0 : Int32) (x : zv_X) (h : mX9_reach_295 K164 K203 N l0 l2 l4 l5 s0 x = some o) : zv_V (fX9_reach d x0 o) 295 [(0, .ref l0), (2, .long l2), (4, .int l4), (5, .int l5)] [.int s0] x := by
  unfold mX9_reach_295 at h
  refine zv_istore_n (L' := [(1, .int s0), (0, .ref l0), (2, .long l2), (4, .int l4), (5, .int l5)]) dX9_reach_295 rfl (Nat.le_of_ble_eq_true rfl) rfl ?_
  refine zv_iinc (n := 4) (v := l5 + (1)) (L' := [(5, .int (l5 + (1))), (1, .int s0), (0, .ref l0), (2, .long l2), (4, .int l4)]) dX9_reach_296 rfl rfl (Nat.le_of_ble_eq_true rfl) rfl ?_
  refine zv_goto (tgt := 203) dX9_reach_299 (by decide) ?_
  exact zv_fewer [2, 1, 3, 4, 0] rfl (hK203 _ _ _ _ _ _ h)
def mX9_reach_264 (K164 : Nat → Int32 → Int64 → zv_X → Option (zv_X × Int64)) (K203 : Nat → Int32 → Int64 → Int32 → Int32 → zv_X → Option (zv_X × Int64)) (N : Nat) (l0 : Nat) (l1 : Int32) (l2 : Int64) (l4 : Int32) (l5 : Int32) (s0 : Int32) (x : zv_X) : Option (zv_X × Int64) := if s0 = 0 then (mX9_reach_295 K164 K203 N l0 l2 l4 l5 l1 x) else ((zm_R x l0 9 37).bind fun v1 => (zm_R x l0 9 34).bind fun v3 => (zm_aI x v3 l4).bind fun v5 => (zm_aL x v1 (v5 + l5)).bind fun v7 => if zm_k x l0 9 = true then ((mX9_meet N l0 v7 l1 x).bind fun o9 => mX9_reach_295 K164 K203 N l0 l2 l4 l5 o9.2 o9.1) else none)
theorem kX9_reach_264 {d : Nat} {x0 : zv_X} {o : (zv_X × Int64)} (hd : 1 ≤ d) {K164 : Nat → Int32 → Int64 → zv_X → Option (zv_X × Int64)} (hK164 : ∀ (l0 : Nat) (l1 : Int32) (l2 : Int64) (x : zv_X), K164 l0 l1 l2 x = some o → zv_V (fX9_reach d x0 o) 164 [(0, .ref l0), (1, .int l1), (2, .long l2)] [] x) {K203 : Nat → Int32 → Int64 → Int32 → Int32 → zv_X → Option (zv_X × Int64)} (hK203 : ∀ (l0 : Nat) (l1 : Int32) (l2 : Int64) (l4 : Int32) (l5 : Int32) (x : zv_X), K203 l0 l1 l2 l4 l5 x = some o → zv_V (fX9_reach d x0 o) 203 [(0, .ref l0), (1, .int l1), (2, .long l2), (4, .int l4), (5, .int l5)] [] x) {N : Nat} (l0 : Nat) (l1 : Int32) (l2 : Int64) (l4 : Int32) (l5 : Int32) (s0 : Int32) (x : zv_X) (h : mX9_reach_264 K164 K203 N l0 l1 l2 l4 l5 s0 x = some o) : zv_V (fX9_reach d x0 o) 264 [(0, .ref l0), (1, .int l1), (2, .long l2), (4, .int l4), (5, .int l5)] [.int s0] x := by
  unfold mX9_reach_264 at h
  refine zv_istore (L' := [(6, .int s0), (0, .ref l0), (1, .int l1), (2, .long l2), (4, .int l4), (5, .int l5)]) dX9_reach_264 (Nat.le_of_ble_eq_true rfl) rfl ?_
  refine zv_iload (n := 0) dX9_reach_266 rfl ?_
  refine zr_if_eq (tgt := 294) dX9_reach_268 (by decide) h (fun c11 h => ?_) (fun c11 h => ?_)
  · refine zv_iload_n (n := 2) dX9_reach_294 rfl rfl ?_
    exact zv_fewer [1, 3, 4, 5] rfl (kX9_reach_295 hd hK164 hK203 _ _ _ _ _ _ h)
  · refine zv_aload_n (n := 1) dX9_reach_271 rfl rfl ?_
    refine zv_aload_n (n := 1) dX9_reach_272 rfl rfl ?_
    refine zr_gR dX9_reach_273 fg_1440 h (fun v1 e2 h => ?_)
    refine zv_aload_n (n := 1) dX9_reach_276 rfl rfl ?_
    refine zr_gR dX9_reach_277 fg_1437 h (fun v3 e4 h => ?_)
    refine zv_iload (n := 4) dX9_reach_280 rfl ?_
    refine zr_aI dX9_reach_282 h (fun v5 e6 h => ?_)
    refine zv_iload (n := 5) dX9_reach_283 rfl ?_
    refine zv_iadd dX9_reach_285 ?_
    refine zr_aL dX9_reach_286 h (fun v7 e8 h => ?_)
    refine zv_iload_n (n := 2) dX9_reach_287 rfl rfl ?_
    refine zr_cVi (ci := 9) (st := []) dX9_reach_288 mw_X9_meet wd_1705 wd_1707 wd_75 rfl rfl [.long v7, .int l1] rfl rfl (Nat.le_of_ble_eq_true rfl) (show d - 1 + 1 ≤ d by omega) h (fun o9 e10 => tX9_meet (d := d - 1) (by omega) e10) (fun o9 e10 h => ?_)
    refine zv_goto (tgt := 295) dX9_reach_291 (by decide) ?_
    exact zv_fewer [1, 3, 4, 5] rfl (kX9_reach_295 hd hK164 hK203 _ _ _ _ _ _ h)
def mX9_reach_259 (K164 : Nat → Int32 → Int64 → zv_X → Option (zv_X × Int64)) (K203 : Nat → Int32 → Int64 → Int32 → Int32 → zv_X → Option (zv_X × Int64)) (N : Nat) (l0 : Nat) (l1 : Int32) (l2 : Int64) (l4 : Int32) (l5 : Int32) (x : zv_X) : Option (zv_X × Int64) := mX9_reach_264 K164 K203 N l0 l1 l2 l4 l5 (1 : Int32) x
theorem kX9_reach_259 {d : Nat} {x0 : zv_X} {o : (zv_X × Int64)} (hd : 1 ≤ d) {K164 : Nat → Int32 → Int64 → zv_X → Option (zv_X × Int64)} (hK164 : ∀ (l0 : Nat) (l1 : Int32) (l2 : Int64) (x : zv_X), K164 l0 l1 l2 x = some o → zv_V (fX9_reach d x0 o) 164 [(0, .ref l0), (1, .int l1), (2, .long l2)] [] x) {K203 : Nat → Int32 → Int64 → Int32 → Int32 → zv_X → Option (zv_X × Int64)} (hK203 : ∀ (l0 : Nat) (l1 : Int32) (l2 : Int64) (l4 : Int32) (l5 : Int32) (x : zv_X), K203 l0 l1 l2 l4 l5 x = some o → zv_V (fX9_reach d x0 o) 203 [(0, .ref l0), (1, .int l1), (2, .long l2), (4, .int l4), (5, .int l5)] [] x) {N : Nat} (l0 : Nat) (l1 : Int32) (l2 : Int64) (l4 : Int32) (l5 : Int32) (x : zv_X) (h : mX9_reach_259 K164 K203 N l0 l1 l2 l4 l5 x = some o) : zv_V (fX9_reach d x0 o) 259 [(0, .ref l0), (1, .int l1), (2, .long l2), (4, .int l4), (5, .int l5)] [] x := by
  unfold mX9_reach_259 at h
  refine zv_iconst (v := 1) dX9_reach_259 (by decide) ?_
  refine zv_goto (tgt := 264) dX9_reach_260 (by decide) ?_
  exact kX9_reach_264 hd hK164 hK203 _ _ _ _ _ _ _ h
def mX9_reach_263 (K164 : Nat → Int32 → Int64 → zv_X → Option (zv_X × Int64)) (K203 : Nat → Int32 → Int64 → Int32 → Int32 → zv_X → Option (zv_X × Int64)) (N : Nat) (l0 : Nat) (l1 : Int32) (l2 : Int64) (l4 : Int32) (l5 : Int32) (x : zv_X) : Option (zv_X × Int64) := mX9_reach_264 K164 K203 N l0 l1 l2 l4 l5 (0 : Int32) x
theorem kX9_reach_263 {d : Nat} {x0 : zv_X} {o : (zv_X × Int64)} (hd : 1 ≤ d) {K164 : Nat → Int32 → Int64 → zv_X → Option (zv_X × Int64)} (hK164 : ∀ (l0 : Nat) (l1 : Int32) (l2 : Int64) (x : zv_X), K164 l0 l1 l2 x = some o → zv_V (fX9_reach d x0 o) 164 [(0, .ref l0), (1, .int l1), (2, .long l2)] [] x) {K203 : Nat → Int32 → Int64 → Int32 → Int32 → zv_X → Option (zv_X × Int64)} (hK203 : ∀ (l0 : Nat) (l1 : Int32) (l2 : Int64) (l4 : Int32) (l5 : Int32) (x : zv_X), K203 l0 l1 l2 l4 l5 x = some o → zv_V (fX9_reach d x0 o) 203 [(0, .ref l0), (1, .int l1), (2, .long l2), (4, .int l4), (5, .int l5)] [] x) {N : Nat} (l0 : Nat) (l1 : Int32) (l2 : Int64) (l4 : Int32) (l5 : Int32) (x : zv_X) (h : mX9_reach_263 K164 K203 N l0 l1 l2 l4 l5 x = some o) : zv_V (fX9_reach d x0 o) 263 [(0, .ref l0), (1, .int l1), (2, .long l2), (4, .int l4), (5, .int l5)] [] x := by
  unfold mX9_reach_263 at h
  refine zv_iconst (v := 0) dX9_reach_263 (by decide) ?_
  exact kX9_reach_264 hd hK164 hK203 _ _ _ _ _ _ _ h
def mX9_reach_203 (K164 : Nat → Int32 → Int64 → zv_X → Option (zv_X × Int64)) (N : Nat) : Nat → Nat → Int32 → Int64 → Int32 → Int32 → zv_X → Option (zv_X × Int64)
  | 0, _, _, _, _, _, _ => none
  | n + 1, l0, l1, l2, l4, l5, x => (zm_R x l0 9 33).bind fun v1 => (zm_aI x v1 l4).bind fun v3 => if v3 ≤ l5 then (K164 l0 l1 l2 x) else ((zm_R x l0 9 32).bind fun v5 => (zm_aI x v5 l4).bind fun v7 => if v7 = (12 : Int32) then (mX9_reach_259 K164 (mX9_reach_203 K164 N n) N l0 l1 l2 l4 l5 x) else ((zm_R x l0 9 32).bind fun v9 => (zm_aI x v9 l4).bind fun v11 => if v11 = 0 then ((zm_R x l0 9 4).bind fun v13 => (zm_R x l0 9 31).bind fun v15 => (zm_aI x v15 l4).bind fun v17 => (zm_aI x v13 (((8 : Int32) * v17) + l5)).bind fun v19 => if v19 = (3 : Int32) then (mX9_reach_259 K164 (mX9_reach_203 K164 N n) N l0 l1 l2 l4 l5 x) else (mX9_reach_263 K164 (mX9_reach_203 K164 N n) N l0 l1 l2 l4 l5 x)) else (mX9_reach_263 K164 (mX9_reach_203 K164 N n) N l0 l1 l2 l4 l5 x)))
theorem kX9_reach_203 {d : Nat} {x0 : zv_X} {o : (zv_X × Int64)} (hd : 1 ≤ d) {K164 : Nat → Int32 → Int64 → zv_X → Option (zv_X × Int64)} (hK164 : ∀ (l0 : Nat) (l1 : Int32) (l2 : Int64) (x : zv_X), K164 l0 l1 l2 x = some o → zv_V (fX9_reach d x0 o) 164 [(0, .ref l0), (1, .int l1), (2, .long l2)] [] x) {N : Nat} : ∀ (n : Nat) (l0 : Nat) (l1 : Int32) (l2 : Int64) (l4 : Int32) (l5 : Int32) (x : zv_X), mX9_reach_203 K164 N n l0 l1 l2 l4 l5 x = some o → zv_V (fX9_reach d x0 o) 203 [(0, .ref l0), (1, .int l1), (2, .long l2), (4, .int l4), (5, .int l5)] [] x := by
  intro n
  induction n with
  | zero => intro l0 l1 l2 l4 l5 x h; cases h
  | succ n ih =>
    intro l0 l1 l2 l4 l5 x h
    unfold mX9_reach_203 at h
    refine zv_iload (n := 4) dX9_reach_203 rfl ?_
    refine zv_aload_n (n := 0) dX9_reach_205 rfl rfl ?_
    refine zr_gR dX9_reach_206 fg_1436 h (fun v1 e2 h => ?_)
    refine zv_iload (n := 3) dX9_reach_209 rfl ?_
    refine zr_aI dX9_reach_211 h (fun v3 e4 h => ?_)
    refine zr_icmp_ge (tgt := 302) dX9_reach_212 (by decide) h (fun c24 h => ?_) (fun c24 h => ?_)
    · refine zv_goto (tgt := 164) dX9_reach_302 (by decide) ?_
      exact zv_fewer [0, 1, 2] rfl (hK164 _ _ _ _ h)
    · refine zv_aload_n (n := 0) dX9_reach_215 rfl rfl ?_
      refine zr_gR dX9_reach_216 fg_1435 h (fun v5 e6 h => ?_)
      refine zv_iload (n := 3) dX9_reach_219 rfl ?_
      refine zr_aI dX9_reach_221 h (fun v7 e8 h => ?_)
      refine zv_bipush (v := 12) dX9_reach_222 (by decide) ?_
      refine zr_icmp_eq (tgt := 259) dX9_reach_224 (by decide) h (fun c23 h => ?_) (fun c23 h => ?_)
      · exact kX9_reach_259 hd hK164 ih _ _ _ _ _ _ h
      · refine zv_aload_n (n := 0) dX9_reach_227 rfl rfl ?_
        refine zr_gR dX9_reach_228 fg_1435 h (fun v9 e10 h => ?_)
        refine zv_iload (n := 3) dX9_reach_231 rfl ?_
        refine zr_aI dX9_reach_233 h (fun v11 e12 h => ?_)
        refine zr_if_ne (tgt := 263) dX9_reach_234 (by decide) h (fun c22 h => ?_) (fun c22 h => ?_)
        · exact kX9_reach_263 hd hK164 ih _ _ _ _ _ _ h
        · refine zv_aload_n (n := 0) dX9_reach_237 rfl rfl ?_
          refine zr_gR dX9_reach_238 fg_1407 h (fun v13 e14 h => ?_)
          refine zv_bipush (v := 8) dX9_reach_241 (by decide) ?_
          refine zv_aload_n (n := 0) dX9_reach_243 rfl rfl ?_
          refine zr_gR dX9_reach_244 fg_1434 h (fun v15 e16 h => ?_)
          refine zv_iload (n := 3) dX9_reach_247 rfl ?_
          refine zr_aI dX9_reach_249 h (fun v17 e18 h => ?_)
          refine zv_imul dX9_reach_250 ?_
          refine zv_iload (n := 4) dX9_reach_251 rfl ?_
          refine zv_iadd dX9_reach_253 ?_
          refine zr_aI dX9_reach_254 h (fun v19 e20 h => ?_)
          refine zv_iconst (v := 3) dX9_reach_255 (by decide) ?_
          refine zr_icmp_ne (tgt := 263) dX9_reach_256 (by decide) h (fun c21 h => ?_) (fun c21 h => ?_)
          · exact kX9_reach_263 hd hK164 ih _ _ _ _ _ _ h
          · exact kX9_reach_259 hd hK164 ih _ _ _ _ _ _ h
def mX9_reach_164 (N : Nat) : Nat → Nat → Int32 → Int64 → zv_X → Option (zv_X × Int64)
  | 0, _, _, _, _ => none
  | n + 1, l0, l1, l2, x => if l1 ≤ 0 then (some (x, l2)) else ((zm_R x l0 9 39).bind fun v1 => (zm_aI x v1 (l1 + (-1))).bind fun v3 => (zm_R x l0 9 32).bind fun v5 => (zm_aI x v5 v3).bind fun v7 => (zm_R x l0 9 33).bind fun v9 => (zm_aI x v9 v3).bind fun v11 => (mX9_wordsOf N v7 (Int32.toInt64 v11) x).bind fun o13 => mX9_reach_203 (mX9_reach_164 N n) N N l0 (l1 + (-1)) (l2 + o13.2) v3 (0 : Int32) o13.1)
theorem kX9_reach_164 {d : Nat} {x0 : zv_X} {o : (zv_X × Int64)} (hd : 1 ≤ d) {N : Nat} : ∀ (n : Nat) (l0 : Nat) (l1 : Int32) (l2 : Int64) (x : zv_X), mX9_reach_164 N n l0 l1 l2 x = some o → zv_V (fX9_reach d x0 o) 164 [(0, .ref l0), (1, .int l1), (2, .long l2)] [] x := by
  intro n
  induction n with
  | zero => intro l0 l1 l2 x h; cases h
  | succ n ih =>
    intro l0 l1 l2 x h
    unfold mX9_reach_164 at h
    refine zv_iload_n (n := 1) dX9_reach_164 rfl rfl ?_
    refine zr_if_le (tgt := 305) dX9_reach_165 (by decide) h (fun c15 h => ?_) (fun c15 h => ?_)
    · refine zv_lload_n (n := 2) dX9_reach_305 rfl rfl ?_
      cases h
      exact zv_lret dX9_reach_306 rfl
    · refine zv_iinc (n := 1) (v := l1 + (-1)) (L' := [(1, .int (l1 + (-1))), (0, .ref l0), (2, .long l2)]) dX9_reach_168 rfl rfl (Nat.le_of_ble_eq_true rfl) rfl ?_
      refine zv_aload_n (n := 1) dX9_reach_171 rfl rfl ?_
      refine zr_gR dX9_reach_172 fg_1442 h (fun v1 e2 h => ?_)
      refine zv_iload_n (n := 0) dX9_reach_175 rfl rfl ?_
      refine zr_aI dX9_reach_176 h (fun v3 e4 h => ?_)
      refine zv_istore (L' := [(4, .int v3), (1, .int (l1 + (-1))), (0, .ref l0), (2, .long l2)]) dX9_reach_177 (Nat.le_of_ble_eq_true rfl) rfl ?_
      refine zv_lload_n (n := 3) dX9_reach_179 rfl rfl ?_
      refine zv_aload_n (n := 2) dX9_reach_180 rfl rfl ?_
      refine zr_gR dX9_reach_181 fg_1435 h (fun v5 e6 h => ?_)
      refine zv_iload (n := 0) dX9_reach_184 rfl ?_
      refine zr_aI dX9_reach_186 h (fun v7 e8 h => ?_)
      refine zv_aload_n (n := 2) dX9_reach_187 rfl rfl ?_
      refine zr_gR dX9_reach_188 fg_1436 h (fun v9 e10 h => ?_)
      refine zv_iload (n := 0) dX9_reach_191 rfl ?_
      refine zr_aI dX9_reach_193 h (fun v11 e12 h => ?_)
      refine zv_i2l dX9_reach_194 ?_
      refine zr_cSl (st := [.long l2]) dX9_reach_195 mw_X9_wordsOf wd_1709 wd_1710 [.int v7, .long (Int32.toInt64 v11)] rfl rfl (Nat.le_of_ble_eq_true rfl) (show d - 1 + 1 ≤ d by omega) h (fun o13 e14 => tX9_wordsOf (d := d - 1) (by omega) e14) (fun o13 e14 h => ?_)
      refine zv_ladd dX9_reach_198 ?_
      refine zv_lstore_n (L' := [(2, .long (l2 + o13.2)), (4, .int v3), (1, .int (l1 + (-1))), (0, .ref l0)]) dX9_reach_199 rfl (Nat.le_of_ble_eq_true rfl) rfl ?_
      refine zv_iconst (v := 0) dX9_reach_200 (by decide) ?_
      refine zv_istore (L' := [(5, .int (0 : Int32)), (2, .long (l2 + o13.2)), (4, .int v3), (1, .int (l1 + (-1))), (0, .ref l0)]) dX9_reach_201 (Nat.le_of_ble_eq_true rfl) rfl ?_
      exact zv_fewer [4, 3, 1, 2, 0] rfl (kX9_reach_203 hd ih N _ _ _ _ _ _ h)
def mX9_reach_151 (K32 : Nat → Int32 → Int64 → Int32 → zv_X → Option (zv_X × Int64)) (K100 : Nat → Int32 → Int64 → Int32 → Int32 → zv_X → Option (zv_X × Int64)) (N : Nat) (l0 : Nat) (l2 : Int64) (l4 : Int32) (l5 : Int32) (s0 : Int32) (x : zv_X) : Option (zv_X × Int64) := K100 l0 s0 l2 l4 (l5 + (1)) x
theorem kX9_reach_151 {d : Nat} {x0 : zv_X} {o : (zv_X × Int64)} (hd : 1 ≤ d) {K32 : Nat → Int32 → Int64 → Int32 → zv_X → Option (zv_X × Int64)} (hK32 : ∀ (l0 : Nat) (l1 : Int32) (l2 : Int64) (l4 : Int32) (x : zv_X), K32 l0 l1 l2 l4 x = some o → zv_V (fX9_reach d x0 o) 32 [(0, .ref l0), (1, .int l1), (2, .long l2), (4, .int l4)] [] x) {K100 : Nat → Int32 → Int64 → Int32 → Int32 → zv_X → Option (zv_X × Int64)} (hK100 : ∀ (l0 : Nat) (l1 : Int32) (l2 : Int64) (l4 : Int32) (l5 : Int32) (x : zv_X), K100 l0 l1 l2 l4 l5 x = some o → zv_V (fX9_reach d x0 o) 100 [(0, .ref l0), (1, .int l1), (2, .long l2), (4, .int l4), (5, .int l5)] [] x) {N : Nat} (l0 : Nat) (l2 : Int64) (l4 : Int32) (l5 : Int32) (s0 : Int32) (x : zv_X) (h : mX9_reach_151 K32 K100 N l0 l2 l4 l5 s0 x = some o) : zv_V (fX9_reach d x0 o) 151 [(0, .ref l0), (2, .long l2), (4, .int l4), (5, .int l5)] [.int s0] x := by
  unfold mX9_reach_151 at h
  refine zv_istore_n (L' := [(1, .int s0), (0, .ref l0), (2, .long l2), (4, .int l4), (5, .int l5)]) dX9_reach_151 rfl (Nat.le_of_ble_eq_true rfl) rfl ?_
  refine zv_iinc (n := 4) (v := l5 + (1)) (L' := [(5, .int (l5 + (1))), (1, .int s0), (0, .ref l0), (2, .long l2), (4, .int l4)]) dX9_reach_152 rfl rfl (Nat.le_of_ble_eq_true rfl) rfl ?_
  refine zv_goto (tgt := 100) dX9_reach_155 (by decide) ?_
  exact zv_fewer [2, 1, 3, 4, 0] rfl (hK100 _ _ _ _ _ _ h)
def mX9_reach_100 (K32 : Nat → Int32 → Int64 → Int32 → zv_X → Option (zv_X × Int64)) (N : Nat) : Nat → Nat → Int32 → Int64 → Int32 → Int32 → zv_X → Option (zv_X × Int64)
  | 0, _, _, _, _, _, _ => none
  | n + 1, l0, l1, l2, l4, l5, x => (zm_R x l0 9 42).bind fun v1 => (zm_aI x v1 l4).bind fun v3 => if v3 ≤ l5 then (K32 l0 l1 l2 (l4 + (1)) x) else ((zm_R x l0 9 46).bind fun v5 => (zm_aI x v5 (((12 : Int32) * l4) + l5)).bind fun v7 => if v7 = (3 : Int32) then ((zm_R x l0 9 45).bind fun v9 => (zm_aL x v9 (((12 : Int32) * l4) + l5)).bind fun v11 => if zm_k x l0 9 = true then ((mX9_meet N l0 v11 l1 x).bind fun o13 => mX9_reach_151 K32 (mX9_reach_100 K32 N n) N l0 l2 l4 l5 o13.2 o13.1) else none) else (mX9_reach_151 K32 (mX9_reach_100 K32 N n) N l0 l2 l4 l5 l1 x))
theorem kX9_reach_100 {d : Nat} {x0 : zv_X} {o : (zv_X × Int64)} (hd : 1 ≤ d) {K32 : Nat → Int32 → Int64 → Int32 → zv_X → Option (zv_X × Int64)} (hK32 : ∀ (l0 : Nat) (l1 : Int32) (l2 : Int64) (l4 : Int32) (x : zv_X), K32 l0 l1 l2 l4 x = some o → zv_V (fX9_reach d x0 o) 32 [(0, .ref l0), (1, .int l1), (2, .long l2), (4, .int l4)] [] x) {N : Nat} : ∀ (n : Nat) (l0 : Nat) (l1 : Int32) (l2 : Int64) (l4 : Int32) (l5 : Int32) (x : zv_X), mX9_reach_100 K32 N n l0 l1 l2 l4 l5 x = some o → zv_V (fX9_reach d x0 o) 100 [(0, .ref l0), (1, .int l1), (2, .long l2), (4, .int l4), (5, .int l5)] [] x := by
  intro n
  induction n with
  | zero => intro l0 l1 l2 l4 l5 x h; cases h
  | succ n ih =>
    intro l0 l1 l2 l4 l5 x h
    unfold mX9_reach_100 at h
    refine zv_iload (n := 4) dX9_reach_100 rfl ?_
    refine zv_aload_n (n := 0) dX9_reach_102 rfl rfl ?_
    refine zr_gR dX9_reach_103 fg_1445 h (fun v1 e2 h => ?_)
    refine zv_iload (n := 3) dX9_reach_106 rfl ?_
    refine zr_aI dX9_reach_108 h (fun v3 e4 h => ?_)
    refine zr_icmp_ge (tgt := 158) dX9_reach_109 (by decide) h (fun c16 h => ?_) (fun c16 h => ?_)
    · refine zv_iinc (n := 3) (v := l4 + (1)) (L' := [(4, .int (l4 + (1))), (0, .ref l0), (1, .int l1), (2, .long l2), (5, .int l5)]) dX9_reach_158 rfl rfl (Nat.le_of_ble_eq_true rfl) rfl ?_
      refine zv_goto (tgt := 32) dX9_reach_161 (by decide) ?_
      exact zv_fewer [1, 2, 3, 0] rfl (hK32 _ _ _ _ _ h)
    · refine zv_aload_n (n := 0) dX9_reach_112 rfl rfl ?_
      refine zr_gR dX9_reach_113 fg_1449 h (fun v5 e6 h => ?_)
      refine zv_bipush (v := 12) dX9_reach_116 (by decide) ?_
      refine zv_iload (n := 3) dX9_reach_118 rfl ?_
      refine zv_imul dX9_reach_120 ?_
      refine zv_iload (n := 4) dX9_reach_121 rfl ?_
      refine zv_iadd dX9_reach_123 ?_
      refine zr_aI dX9_reach_124 h (fun v7 e8 h => ?_)
      refine zv_iconst (v := 3) dX9_reach_125 (by decide) ?_
      refine zr_icmp_ne (tgt := 150) dX9_reach_126 (by decide) h (fun c15 h => ?_) (fun c15 h => ?_)
      · refine zv_iload_n (n := 1) dX9_reach_150 rfl rfl ?_
        exact zv_fewer [0, 2, 3, 4] rfl (kX9_reach_151 hd hK32 ih _ _ _ _ _ _ h)
      · refine zv_aload_n (n := 0) dX9_reach_129 rfl rfl ?_
        refine zv_aload_n (n := 0) dX9_reach_130 rfl rfl ?_
        refine zr_gR dX9_reach_131 fg_1448 h (fun v9 e10 h => ?_)
        refine zv_bipush (v := 12) dX9_reach_134 (by decide) ?_
        refine zv_iload (n := 3) dX9_reach_136 rfl ?_
        refine zv_imul dX9_reach_138 ?_
        refine zv_iload (n := 4) dX9_reach_139 rfl ?_
        refine zv_iadd dX9_reach_141 ?_
        refine zr_aL dX9_reach_142 h (fun v11 e12 h => ?_)
        refine zv_iload_n (n := 1) dX9_reach_143 rfl rfl ?_
        refine zr_cVi (ci := 9) (st := []) dX9_reach_144 mw_X9_meet wd_1705 wd_1707 wd_75 rfl rfl [.long v11, .int l1] rfl rfl (Nat.le_of_ble_eq_true rfl) (show d - 1 + 1 ≤ d by omega) h (fun o13 e14 => tX9_meet (d := d - 1) (by omega) e14) (fun o13 e14 h => ?_)
        refine zv_goto (tgt := 151) dX9_reach_147 (by decide) ?_
        exact zv_fewer [0, 2, 3, 4] rfl (kX9_reach_151 hd hK32 ih _ _ _ _ _ _ h)
def mX9_reach_90 (K32 : Nat → Int32 → Int64 → Int32 → zv_X → Option (zv_X × Int64)) (K44 : Nat → Int32 → Int64 → Int32 → Int32 → zv_X → Option (zv_X × Int64)) (N : Nat) (l0 : Nat) (l2 : Int64) (l4 : Int32) (l5 : Int32) (s0 : Int32) (x : zv_X) : Option (zv_X × Int64) := K44 l0 s0 l2 l4 (l5 + (1)) x
theorem kX9_reach_90 {d : Nat} {x0 : zv_X} {o : (zv_X × Int64)} (hd : 1 ≤ d) {K32 : Nat → Int32 → Int64 → Int32 → zv_X → Option (zv_X × Int64)} (hK32 : ∀ (l0 : Nat) (l1 : Int32) (l2 : Int64) (l4 : Int32) (x : zv_X), K32 l0 l1 l2 l4 x = some o → zv_V (fX9_reach d x0 o) 32 [(0, .ref l0), (1, .int l1), (2, .long l2), (4, .int l4)] [] x) {K44 : Nat → Int32 → Int64 → Int32 → Int32 → zv_X → Option (zv_X × Int64)} (hK44 : ∀ (l0 : Nat) (l1 : Int32) (l2 : Int64) (l4 : Int32) (l5 : Int32) (x : zv_X), K44 l0 l1 l2 l4 l5 x = some o → zv_V (fX9_reach d x0 o) 44 [(0, .ref l0), (1, .int l1), (2, .long l2), (4, .int l4), (5, .int l5)] [] x) {N : Nat} (l0 : Nat) (l2 : Int64) (l4 : Int32) (l5 : Int32) (s0 : Int32) (x : zv_X) (h : mX9_reach_90 K32 K44 N l0 l2 l4 l5 s0 x = some o) : zv_V (fX9_reach d x0 o) 90 [(0, .ref l0), (2, .long l2), (4, .int l4), (5, .int l5)] [.int s0] x := by
  unfold mX9_reach_90 at h
  refine zv_istore_n (L' := [(1, .int s0), (0, .ref l0), (2, .long l2), (4, .int l4), (5, .int l5)]) dX9_reach_90 rfl (Nat.le_of_ble_eq_true rfl) rfl ?_
  refine zv_iinc (n := 4) (v := l5 + (1)) (L' := [(5, .int (l5 + (1))), (1, .int s0), (0, .ref l0), (2, .long l2), (4, .int l4)]) dX9_reach_91 rfl rfl (Nat.le_of_ble_eq_true rfl) rfl ?_
  refine zv_goto (tgt := 44) dX9_reach_94 (by decide) ?_
  exact zv_fewer [2, 1, 3, 4, 0] rfl (hK44 _ _ _ _ _ _ h)
def mX9_reach_44 (K32 : Nat → Int32 → Int64 → Int32 → zv_X → Option (zv_X × Int64)) (N : Nat) : Nat → Nat → Int32 → Int64 → Int32 → Int32 → zv_X → Option (zv_X × Int64)
  | 0, _, _, _, _, _, _ => none
  | n + 1, l0, l1, l2, l4, l5, x => if (16 : Int32) ≤ l5 then (mX9_reach_100 K32 N N l0 l1 l2 l4 (0 : Int32) x) else ((zm_R x l0 9 44).bind fun v1 => (zm_aI x v1 (((16 : Int32) * l4) + l5)).bind fun v3 => if v3 = (3 : Int32) then ((zm_R x l0 9 43).bind fun v5 => (zm_aL x v5 (((16 : Int32) * l4) + l5)).bind fun v7 => if zm_k x l0 9 = true then ((mX9_meet N l0 v7 l1 x).bind fun o9 => mX9_reach_90 K32 (mX9_reach_44 K32 N n) N l0 l2 l4 l5 o9.2 o9.1) else none) else (mX9_reach_90 K32 (mX9_reach_44 K32 N n) N l0 l2 l4 l5 l1 x))
theorem kX9_reach_44 {d : Nat} {x0 : zv_X} {o : (zv_X × Int64)} (hd : 1 ≤ d) {K32 : Nat → Int32 → Int64 → Int32 → zv_X → Option (zv_X × Int64)} (hK32 : ∀ (l0 : Nat) (l1 : Int32) (l2 : Int64) (l4 : Int32) (x : zv_X), K32 l0 l1 l2 l4 x = some o → zv_V (fX9_reach d x0 o) 32 [(0, .ref l0), (1, .int l1), (2, .long l2), (4, .int l4)] [] x) {N : Nat} : ∀ (n : Nat) (l0 : Nat) (l1 : Int32) (l2 : Int64) (l4 : Int32) (l5 : Int32) (x : zv_X), mX9_reach_44 K32 N n l0 l1 l2 l4 l5 x = some o → zv_V (fX9_reach d x0 o) 44 [(0, .ref l0), (1, .int l1), (2, .long l2), (4, .int l4), (5, .int l5)] [] x := by
  intro n
  induction n with
  | zero => intro l0 l1 l2 l4 l5 x h; cases h
  | succ n ih =>
    intro l0 l1 l2 l4 l5 x h
    unfold mX9_reach_44 at h
    refine zv_iload (n := 4) dX9_reach_44 rfl ?_
    refine zv_bipush (v := 16) dX9_reach_46 (by decide) ?_
    refine zr_icmp_ge (tgt := 97) dX9_reach_48 (by decide) h (fun c12 h => ?_) (fun c12 h => ?_)
    · refine zv_iconst (v := 0) dX9_reach_97 (by decide) ?_
      refine zv_istore (L' := [(5, .int (0 : Int32)), (0, .ref l0), (1, .int l1), (2, .long l2), (4, .int l4)]) dX9_reach_98 (Nat.le_of_ble_eq_true rfl) rfl ?_
      exact zv_fewer [1, 2, 3, 4, 0] rfl (kX9_reach_100 hd hK32 N _ _ _ _ _ _ h)
    · refine zv_aload_n (n := 0) dX9_reach_51 rfl rfl ?_
      refine zr_gR dX9_reach_52 fg_1447 h (fun v1 e2 h => ?_)
      refine zv_bipush (v := 16) dX9_reach_55 (by decide) ?_
      refine zv_iload (n := 3) dX9_reach_57 rfl ?_
      refine zv_imul dX9_reach_59 ?_
      refine zv_iload (n := 4) dX9_reach_60 rfl ?_
      refine zv_iadd dX9_reach_62 ?_
      refine zr_aI dX9_reach_63 h (fun v3 e4 h => ?_)
      refine zv_iconst (v := 3) dX9_reach_64 (by decide) ?_
      refine zr_icmp_ne (tgt := 89) dX9_reach_65 (by decide) h (fun c11 h => ?_) (fun c11 h => ?_)
      · refine zv_iload_n (n := 1) dX9_reach_89 rfl rfl ?_
        exact zv_fewer [0, 2, 3, 4] rfl (kX9_reach_90 hd hK32 ih _ _ _ _ _ _ h)
      · refine zv_aload_n (n := 0) dX9_reach_68 rfl rfl ?_
        refine zv_aload_n (n := 0) dX9_reach_69 rfl rfl ?_
        refine zr_gR dX9_reach_70 fg_1446 h (fun v5 e6 h => ?_)
        refine zv_bipush (v := 16) dX9_reach_73 (by decide) ?_
        refine zv_iload (n := 3) dX9_reach_75 rfl ?_
        refine zv_imul dX9_reach_77 ?_
        refine zv_iload (n := 4) dX9_reach_78 rfl ?_
        refine zv_iadd dX9_reach_80 ?_
        refine zr_aL dX9_reach_81 h (fun v7 e8 h => ?_)
        refine zv_iload_n (n := 1) dX9_reach_82 rfl rfl ?_
        refine zr_cVi (ci := 9) (st := []) dX9_reach_83 mw_X9_meet wd_1705 wd_1707 wd_75 rfl rfl [.long v7, .int l1] rfl rfl (Nat.le_of_ble_eq_true rfl) (show d - 1 + 1 ≤ d by omega) h (fun o9 e10 => tX9_meet (d := d - 1) (by omega) e10) (fun o9 e10 h => ?_)
        refine zv_goto (tgt := 90) dX9_reach_86 (by decide) ?_
        exact zv_fewer [0, 2, 3, 4] rfl (kX9_reach_90 hd hK32 ih _ _ _ _ _ _ h)
def mX9_reach_32 (N : Nat) : Nat → Nat → Int32 → Int64 → Int32 → zv_X → Option (zv_X × Int64)
  | 0, _, _, _, _, _ => none
  | n + 1, l0, l1, l2, l4, x => (zm_I x l0 9 47).bind fun v1 => if v1 ≤ l4 then (mX9_reach_164 N N l0 l1 l2 x) else (mX9_reach_44 (mX9_reach_32 N n) N N l0 l1 l2 l4 (0 : Int32) x)
theorem kX9_reach_32 {d : Nat} {x0 : zv_X} {o : (zv_X × Int64)} (hd : 1 ≤ d) {N : Nat} : ∀ (n : Nat) (l0 : Nat) (l1 : Int32) (l2 : Int64) (l4 : Int32) (x : zv_X), mX9_reach_32 N n l0 l1 l2 l4 x = some o → zv_V (fX9_reach d x0 o) 32 [(0, .ref l0), (1, .int l1), (2, .long l2), (4, .int l4)] [] x := by
  intro n
  induction n with
  | zero => intro l0 l1 l2 l4 x h; cases h
  | succ n ih =>
    intro l0 l1 l2 l4 x h
    unfold mX9_reach_32 at h
    refine zv_iload (n := 3) dX9_reach_32 rfl ?_
    refine zv_aload_n (n := 0) dX9_reach_34 rfl rfl ?_
    refine zr_gI dX9_reach_35 fg_1450 h (fun v1 e2 h => ?_)
    refine zr_icmp_ge (tgt := 164) dX9_reach_38 (by decide) h (fun c3 h => ?_) (fun c3 h => ?_)
    · exact zv_fewer [0, 1, 2] rfl (kX9_reach_164 hd N _ _ _ _ h)
    · refine zv_iconst (v := 0) dX9_reach_41 (by decide) ?_
      refine zv_istore (L' := [(5, .int (0 : Int32)), (0, .ref l0), (1, .int l1), (2, .long l2), (4, .int l4)]) dX9_reach_42 (Nat.le_of_ble_eq_true rfl) rfl ?_
      exact zv_fewer [1, 2, 3, 4, 0] rfl (kX9_reach_44 hd ih N _ _ _ _ _ _ h)
def mX9_reach_7 (N : Nat) : Nat → Nat → Int32 → Int64 → Int32 → zv_X → Option (zv_X × Int64)
  | 0, _, _, _, _, _ => none
  | n + 1, l0, l1, l2, l4, x => if (201 : Int32) ≤ l4 then (mX9_reach_32 N N l0 l1 l2 (0 : Int32) x) else ((zm_R x l0 9 30).bind fun v1 => (zm_sB x v1 l4 (0 : Int32)).bind fun x3 => mX9_reach_7 N n l0 l1 l2 (l4 + (1)) x3)
theorem kX9_reach_7 {d : Nat} {x0 : zv_X} {o : (zv_X × Int64)} (hd : 1 ≤ d) {N : Nat} : ∀ (n : Nat) (l0 : Nat) (l1 : Int32) (l2 : Int64) (l4 : Int32) (x : zv_X), mX9_reach_7 N n l0 l1 l2 l4 x = some o → zv_V (fX9_reach d x0 o) 7 [(0, .ref l0), (1, .int l1), (2, .long l2), (4, .int l4)] [] x := by
  intro n
  induction n with
  | zero => intro l0 l1 l2 l4 x h; cases h
  | succ n ih =>
    intro l0 l1 l2 l4 x h
    unfold mX9_reach_7 at h
    refine zv_iload (n := 3) dX9_reach_7 rfl ?_
    refine zv_sipush (v := 201) dX9_reach_9 (by decide) ?_
    refine zr_icmp_ge (tgt := 29) dX9_reach_12 (by decide) h (fun c5 h => ?_) (fun c5 h => ?_)
    · refine zv_iconst (v := 0) dX9_reach_29 (by decide) ?_
      refine zv_istore (L' := [(4, .int (0 : Int32)), (0, .ref l0), (1, .int l1), (2, .long l2)]) dX9_reach_30 (Nat.le_of_ble_eq_true rfl) rfl ?_
      exact zv_fewer [1, 2, 3, 0] rfl (kX9_reach_32 hd N _ _ _ _ _ h)
    · refine zv_aload_n (n := 0) dX9_reach_15 rfl rfl ?_
      refine zr_gR dX9_reach_16 fg_1433 h (fun v1 e2 h => ?_)
      refine zv_iload (n := 3) dX9_reach_19 rfl ?_
      refine zv_iconst (v := 0) dX9_reach_21 (by decide) ?_
      refine zr_sB dX9_reach_22 h (fun x3 e4 h => ?_)
      refine zv_iinc (n := 3) (v := l4 + (1)) (L' := [(4, .int (l4 + (1))), (0, .ref l0), (1, .int l1), (2, .long l2)]) dX9_reach_23 rfl rfl (Nat.le_of_ble_eq_true rfl) rfl ?_
      refine zv_goto (tgt := 7) dX9_reach_26 (by decide) ?_
      exact zv_fewer [1, 2, 3, 0] rfl (ih _ _ _ _ _ h)
def mX9_reach_0 (N : Nat) (l0 : Nat) (x : zv_X) : Option (zv_X × Int64) := mX9_reach_7 N N l0 (0 : Int32) (0 : Int64) (0 : Int32) x
theorem kX9_reach_0 {d : Nat} {x0 : zv_X} {o : (zv_X × Int64)} (hd : 1 ≤ d) {N : Nat} (l0 : Nat) (x : zv_X) (h : mX9_reach_0 N l0 x = some o) : zv_V (fX9_reach d x0 o) 0 [(0, .ref l0)] [] x := by
  unfold mX9_reach_0 at h
  refine zv_iconst (v := 0) dX9_reach_0 (by decide) ?_
  refine zv_istore_n (L' := [(1, .int (0 : Int32)), (0, .ref l0)]) dX9_reach_1 rfl (Nat.le_of_ble_eq_true rfl) rfl ?_
  refine zv_lconst (v := 0) dX9_reach_2 (by decide) ?_
  refine zv_lstore_n (L' := [(2, .long (0 : Int64)), (1, .int (0 : Int32)), (0, .ref l0)]) dX9_reach_3 rfl (Nat.le_of_ble_eq_true rfl) rfl ?_
  refine zv_iconst (v := 0) dX9_reach_4 (by decide) ?_
  refine zv_istore (L' := [(4, .int (0 : Int32)), (2, .long (0 : Int64)), (1, .int (0 : Int32)), (0, .ref l0)]) dX9_reach_5 (Nat.le_of_ble_eq_true rfl) rfl ?_
  exact zv_fewer [3, 2, 1, 0] rfl (kX9_reach_7 hd N _ _ _ _ _ h)
def mX9_reach (N : Nat) (a0 : Nat) (x : zv_X) : Option (zv_X × Int64) := mX9_reach_0 N a0 x
theorem tX9_reach {d : Nat} (hd : 1 ≤ d) {N : Nat} {x : zv_X} {a0 : Nat} {o : (zv_X × Int64)} (h : mX9_reach N a0 x = some o) : zv_T d yX9_reach cX9_reach 7 ((some .long)) [.ref a0] x o.1 (some (.long o.2)) := by
  unfold mX9_reach at h
  exact zv_enter (by decide) (Nat.le_of_ble_eq_true rfl) (kX9_reach_0 hd _ _ h)

abbrev fX9_sweep (d : Nat) (x0 : zv_X) (o : zv_X) : zv_G := (d, RX9, cX9_sweep, 5, none, ("sweep", []), x0, o, zv_fin x0 o none)
def mX9_sweep_126 (K9 : Nat → Int32 → Int32 → zv_X → Option zv_X) (N : Nat) (l0 : Nat) (l1 : Int32) (l2 : Int32) (x : zv_X) : Option zv_X := K9 l0 l1 (l2 + (1)) x
theorem kX9_sweep_126 {d : Nat} {x0 : zv_X} {o : zv_X} (hd : 0 ≤ d) {K9 : Nat → Int32 → Int32 → zv_X → Option zv_X} (hK9 : ∀ (l0 : Nat) (l1 : Int32) (l2 : Int32) (x : zv_X), K9 l0 l1 l2 x = some o → zv_V (fX9_sweep d x0 o) 9 [(0, .ref l0), (1, .int l1), (2, .int l2)] [] x) {N : Nat} (l0 : Nat) (l1 : Int32) (l2 : Int32) (x : zv_X) (h : mX9_sweep_126 K9 N l0 l1 l2 x = some o) : zv_V (fX9_sweep d x0 o) 126 [(0, .ref l0), (1, .int l1), (2, .int l2)] [] x := by
  unfold mX9_sweep_126 at h
  refine zv_iinc (n := 2) (v := l2 + (1)) (L' := [(2, .int (l2 + (1))), (0, .ref l0), (1, .int l1)]) dX9_sweep_126 rfl rfl (Nat.le_of_ble_eq_true rfl) rfl ?_
  refine zv_goto (tgt := 9) dX9_sweep_129 (by decide) ?_
  exact zv_fewer [1, 2, 0] rfl (hK9 _ _ _ _ h)
def mX9_sweep_48 (K9 : Nat → Int32 → Int32 → zv_X → Option zv_X) (N : Nat) : Nat → Nat → Int32 → Int32 → Int32 → Int32 → zv_X → Option zv_X
  | 0, _, _, _, _, _, _ => none
  | n + 1, l0, l1, l2, l3, l4, x => (zm_R x l0 9 33).bind fun v1 => (zm_aI x v1 l3).bind fun v3 => if v3 ≤ l4 then ((zm_R x l0 9 34).bind fun v5 => (zm_I x l0 9 38).bind fun v7 => (zm_sI x v5 l3 v7).bind fun x9 => (zm_I x9 l0 9 38).bind fun v11 => (zm_R x9 l0 9 33).bind fun v13 => (zm_aI x9 v13 l3).bind fun v15 => (zm_p x9 l0 9 38 (.int (v11 + v15))).bind fun x17 => (zm_R x17 l0 9 35).bind fun v19 => (zm_sI x17 v19 l1 l3).bind fun x21 => mX9_sweep_126 K9 N l0 (l1 + (1)) l2 x21) else ((zm_R x l0 9 37).bind fun v23 => (zm_I x l0 9 38).bind fun v25 => (zm_R x l0 9 37).bind fun v27 => (zm_R x l0 9 34).bind fun v29 => (zm_aI x v29 l3).bind fun v31 => (zm_aL x v27 (v31 + l4)).bind fun v33 => (zm_sL x v23 (v25 + l4) v33).bind fun x35 => mX9_sweep_48 K9 N n l0 l1 l2 l3 (l4 + (1)) x35)
theorem kX9_sweep_48 {d : Nat} {x0 : zv_X} {o : zv_X} (hd : 0 ≤ d) {K9 : Nat → Int32 → Int32 → zv_X → Option zv_X} (hK9 : ∀ (l0 : Nat) (l1 : Int32) (l2 : Int32) (x : zv_X), K9 l0 l1 l2 x = some o → zv_V (fX9_sweep d x0 o) 9 [(0, .ref l0), (1, .int l1), (2, .int l2)] [] x) {N : Nat} : ∀ (n : Nat) (l0 : Nat) (l1 : Int32) (l2 : Int32) (l3 : Int32) (l4 : Int32) (x : zv_X), mX9_sweep_48 K9 N n l0 l1 l2 l3 l4 x = some o → zv_V (fX9_sweep d x0 o) 48 [(0, .ref l0), (1, .int l1), (2, .int l2), (3, .int l3), (4, .int l4)] [] x := by
  intro n
  induction n with
  | zero => intro l0 l1 l2 l3 l4 x h; cases h
  | succ n ih =>
    intro l0 l1 l2 l3 l4 x h
    unfold mX9_sweep_48 at h
    refine zv_iload (n := 4) dX9_sweep_48 rfl ?_
    refine zv_aload_n (n := 0) dX9_sweep_50 rfl rfl ?_
    refine zr_gR dX9_sweep_51 fg_1436 h (fun v1 e2 h => ?_)
    refine zv_iload_n (n := 3) dX9_sweep_54 rfl rfl ?_
    refine zr_aI dX9_sweep_55 h (fun v3 e4 h => ?_)
    refine zr_icmp_ge (tgt := 91) dX9_sweep_56 (by decide) h (fun c37 h => ?_) (fun c37 h => ?_)
    · refine zv_aload_n (n := 0) dX9_sweep_91 rfl rfl ?_
      refine zr_gR dX9_sweep_92 fg_1437 h (fun v5 e6 h => ?_)
      refine zv_iload_n (n := 3) dX9_sweep_95 rfl rfl ?_
      refine zv_aload_n (n := 0) dX9_sweep_96 rfl rfl ?_
      refine zr_gI dX9_sweep_97 fg_1441 h (fun v7 e8 h => ?_)
      refine zr_sI dX9_sweep_100 h (fun x9 e10 h => ?_)
      refine zv_aload_n (n := 0) dX9_sweep_101 rfl rfl ?_
      refine zv_aload_n (n := 0) dX9_sweep_102 rfl rfl ?_
      refine zr_gI dX9_sweep_103 fg_1441 h (fun v11 e12 h => ?_)
      refine zv_aload_n (n := 0) dX9_sweep_106 rfl rfl ?_
      refine zr_gR dX9_sweep_107 fg_1436 h (fun v13 e14 h => ?_)
      refine zv_iload_n (n := 3) dX9_sweep_110 rfl rfl ?_
      refine zr_aI dX9_sweep_111 h (fun v15 e16 h => ?_)
      refine zv_iadd dX9_sweep_112 ?_
      refine zr_p dX9_sweep_113 fl_1441 (fun q => nomatch q) rfl rfl h (fun x17 e18 h => ?_)
      refine zv_aload_n (n := 0) dX9_sweep_116 rfl rfl ?_
      refine zr_gR dX9_sweep_117 fg_1438 h (fun v19 e20 h => ?_)
      refine zv_iload_n (n := 1) dX9_sweep_120 rfl rfl ?_
      refine zv_iload_n (n := 3) dX9_sweep_121 rfl rfl ?_
      refine zr_sI dX9_sweep_122 h (fun x21 e22 h => ?_)
      refine zv_iinc (n := 1) (v := l1 + (1)) (L' := [(1, .int (l1 + (1))), (0, .ref l0), (2, .int l2), (3, .int l3), (4, .int l4)]) dX9_sweep_123 rfl rfl (Nat.le_of_ble_eq_true rfl) rfl ?_
      exact zv_fewer [1, 0, 2] rfl (kX9_sweep_126 hd hK9 _ _ _ _ h)
    · refine zv_aload_n (n := 0) dX9_sweep_59 rfl rfl ?_
      refine zr_gR dX9_sweep_60 fg_1440 h (fun v23 e24 h => ?_)
      refine zv_aload_n (n := 0) dX9_sweep_63 rfl rfl ?_
      refine zr_gI dX9_sweep_64 fg_1441 h (fun v25 e26 h => ?_)
      refine zv_iload (n := 4) dX9_sweep_67 rfl ?_
      refine zv_iadd dX9_sweep_69 ?_
      refine zv_aload_n (n := 0) dX9_sweep_70 rfl rfl ?_
      refine zr_gR dX9_sweep_71 fg_1440 h (fun v27 e28 h => ?_)
      refine zv_aload_n (n := 0) dX9_sweep_74 rfl rfl ?_
      refine zr_gR dX9_sweep_75 fg_1437 h (fun v29 e30 h => ?_)
      refine zv_iload_n (n := 3) dX9_sweep_78 rfl rfl ?_
      refine zr_aI dX9_sweep_79 h (fun v31 e32 h => ?_)
      refine zv_iload (n := 4) dX9_sweep_80 rfl ?_
      refine zv_iadd dX9_sweep_82 ?_
      refine zr_aL dX9_sweep_83 h (fun v33 e34 h => ?_)
      refine zr_sL dX9_sweep_84 h (fun x35 e36 h => ?_)
      refine zv_iinc (n := 4) (v := l4 + (1)) (L' := [(4, .int (l4 + (1))), (0, .ref l0), (1, .int l1), (2, .int l2), (3, .int l3)]) dX9_sweep_85 rfl rfl (Nat.le_of_ble_eq_true rfl) rfl ?_
      refine zv_goto (tgt := 48) dX9_sweep_88 (by decide) ?_
      exact zv_fewer [1, 2, 3, 4, 0] rfl (ih _ _ _ _ _ _ h)
def mX9_sweep_9 (N : Nat) : Nat → Nat → Int32 → Int32 → zv_X → Option zv_X
  | 0, _, _, _, _ => none
  | n + 1, l0, l1, l2, x => (zm_I x l0 9 36).bind fun v1 => if v1 ≤ l2 then ((zm_p x l0 9 36 (.int l1)).bind fun x3 => some x3) else ((zm_R x l0 9 35).bind fun v5 => (zm_aI x v5 l2).bind fun v7 => (zm_R x l0 9 29).bind fun v9 => (zm_R x l0 9 30).bind fun v11 => (zm_aB x v11 v7).bind fun v13 => (zm_sB x v9 v7 v13).bind fun x15 => (zm_R x15 l0 9 30).bind fun v17 => (zm_aB x15 v17 v7).bind fun v19 => if v19 = 0 then (mX9_sweep_126 (mX9_sweep_9 N n) N l0 l1 l2 x15) else (mX9_sweep_48 (mX9_sweep_9 N n) N N l0 l1 l2 v7 (0 : Int32) x15))
theorem kX9_sweep_9 {d : Nat} {x0 : zv_X} {o : zv_X} (hd : 0 ≤ d) {N : Nat} : ∀ (n : Nat) (l0 : Nat) (l1 : Int32) (l2 : Int32) (x : zv_X), mX9_sweep_9 N n l0 l1 l2 x = some o → zv_V (fX9_sweep d x0 o) 9 [(0, .ref l0), (1, .int l1), (2, .int l2)] [] x := by
  intro n
  induction n with
  | zero => intro l0 l1 l2 x h; cases h
  | succ n ih =>
    intro l0 l1 l2 x h
    unfold mX9_sweep_9 at h
    refine zv_iload_n (n := 2) dX9_sweep_9 rfl rfl ?_
    refine zv_aload_n (n := 0) dX9_sweep_10 rfl rfl ?_
    refine zr_gI dX9_sweep_11 fg_1439 h (fun v1 e2 h => ?_)
    refine zr_icmp_ge (tgt := 132) dX9_sweep_14 (by decide) h (fun c22 h => ?_) (fun c22 h => ?_)
    · refine zv_aload_n (n := 0) dX9_sweep_132 rfl rfl ?_
      refine zv_iload_n (n := 1) dX9_sweep_133 rfl rfl ?_
      refine zr_p dX9_sweep_134 fl_1439 (fun q => nomatch q) rfl rfl h (fun x3 e4 h => ?_)
      cases h
      exact zv_vret dX9_sweep_137 rfl
    · refine zv_aload_n (n := 0) dX9_sweep_17 rfl rfl ?_
      refine zr_gR dX9_sweep_18 fg_1438 h (fun v5 e6 h => ?_)
      refine zv_iload_n (n := 2) dX9_sweep_21 rfl rfl ?_
      refine zr_aI dX9_sweep_22 h (fun v7 e8 h => ?_)
      refine zv_istore_n (L' := [(3, .int v7), (0, .ref l0), (1, .int l1), (2, .int l2)]) dX9_sweep_23 rfl (Nat.le_of_ble_eq_true rfl) rfl ?_
      refine zv_aload_n (n := 1) dX9_sweep_24 rfl rfl ?_
      refine zr_gR dX9_sweep_25 fg_1432 h (fun v9 e10 h => ?_)
      refine zv_iload_n (n := 0) dX9_sweep_28 rfl rfl ?_
      refine zv_aload_n (n := 1) dX9_sweep_29 rfl rfl ?_
      refine zr_gR dX9_sweep_30 fg_1433 h (fun v11 e12 h => ?_)
      refine zv_iload_n (n := 0) dX9_sweep_33 rfl rfl ?_
      refine zr_aB dX9_sweep_34 h (fun v13 e14 h => ?_)
      refine zr_sB dX9_sweep_35 h (fun x15 e16 h => ?_)
      refine zv_aload_n (n := 1) dX9_sweep_36 rfl rfl ?_
      refine zr_gR dX9_sweep_37 fg_1433 h (fun v17 e18 h => ?_)
      refine zv_iload_n (n := 0) dX9_sweep_40 rfl rfl ?_
      refine zr_aB dX9_sweep_41 h (fun v19 e20 h => ?_)
      refine zr_if_eq (tgt := 126) dX9_sweep_42 (by decide) h (fun c21 h => ?_) (fun c21 h => ?_)
      · exact zv_fewer [1, 2, 3] rfl (kX9_sweep_126 hd ih _ _ _ _ h)
      · refine zv_iconst (v := 0) dX9_sweep_45 (by decide) ?_
        refine zv_istore (L' := [(4, .int (0 : Int32)), (3, .int v7), (0, .ref l0), (1, .int l1), (2, .int l2)]) dX9_sweep_46 (Nat.le_of_ble_eq_true rfl) rfl ?_
        exact zv_fewer [2, 3, 4, 1, 0] rfl (kX9_sweep_48 hd ih N _ _ _ _ _ _ h)
def mX9_sweep_0 (N : Nat) (l0 : Nat) (x : zv_X) : Option zv_X := (zm_p x l0 9 38 (.int (0 : Int32))).bind fun x1 => mX9_sweep_9 N N l0 (0 : Int32) (0 : Int32) x1
theorem kX9_sweep_0 {d : Nat} {x0 : zv_X} {o : zv_X} (hd : 0 ≤ d) {N : Nat} (l0 : Nat) (x : zv_X) (h : mX9_sweep_0 N l0 x = some o) : zv_V (fX9_sweep d x0 o) 0 [(0, .ref l0)] [] x := by
  unfold mX9_sweep_0 at h
  refine zv_iconst (v := 0) dX9_sweep_0 (by decide) ?_
  refine zv_istore_n (L' := [(1, .int (0 : Int32)), (0, .ref l0)]) dX9_sweep_1 rfl (Nat.le_of_ble_eq_true rfl) rfl ?_
  refine zv_aload_n (n := 1) dX9_sweep_2 rfl rfl ?_
  refine zv_iconst (v := 0) dX9_sweep_3 (by decide) ?_
  refine zr_p dX9_sweep_4 fl_1441 (fun q => nomatch q) rfl rfl h (fun x1 e2 h => ?_)
  refine zv_iconst (v := 0) dX9_sweep_7 (by decide) ?_
  refine zv_istore_n (L' := [(2, .int (0 : Int32)), (1, .int (0 : Int32)), (0, .ref l0)]) dX9_sweep_8 rfl (Nat.le_of_ble_eq_true rfl) rfl ?_
  exact zv_fewer [2, 1, 0] rfl (kX9_sweep_9 hd N _ _ _ _ h)
def mX9_sweep (N : Nat) (a0 : Nat) (x : zv_X) : Option zv_X := mX9_sweep_0 N a0 x
theorem tX9_sweep {d : Nat} (hd : 0 ≤ d) {N : Nat} {x : zv_X} {a0 : Nat} {o : zv_X} (h : mX9_sweep N a0 x = some o) : zv_T d yX9_sweep cX9_sweep 5 (none) [.ref a0] x o none := by
  unfold mX9_sweep at h
  exact zv_enter (by decide) (Nat.le_of_ble_eq_true rfl) (kX9_sweep_0 hd _ _ h)

abbrev fX9_make (d : Nat) (x0 : zv_X) (o : (zv_X × Int64)) : zv_G := (d, RX9, cX9_make, 8, (some .long), ("make", []), x0, o.1, zv_fin x0 o.1 (some (.long o.2)))
def mX9_make_138 (N : Nat) : Nat → Nat → Int32 → Int32 → Int32 → zv_X → Option (zv_X × Int64)
  | 0, _, _, _, _, _ => none
  | n + 1, l0, l3, l6, l7, x => if l3 ≤ l7 then ((zm_I x l0 9 38).bind fun v1 => (zm_p x l0 9 38 (.int (v1 + l3))).bind fun x3 => (zm_R x3 l0 9 35).bind fun v5 => (zm_I x3 l0 9 36).bind fun v7 => (zm_sI x3 v5 v7 l6).bind fun x9 => (zm_I x9 l0 9 36).bind fun v11 => (zm_p x9 l0 9 36 (.int (v11 + (1 : Int32)))).bind fun x13 => some (x13, (Int32.toInt64 l6) + (1 : Int64))) else ((zm_R x l0 9 37).bind fun v15 => (zm_I x l0 9 38).bind fun v17 => (zm_sL x v15 (v17 + l7) (0 : Int64)).bind fun x19 => mX9_make_138 N n l0 l3 l6 (l7 + (1)) x19)
theorem kX9_make_138 {d : Nat} {x0 : zv_X} {o : (zv_X × Int64)} (hd : 2 ≤ d) {N : Nat} : ∀ (n : Nat) (l0 : Nat) (l3 : Int32) (l6 : Int32) (l7 : Int32) (x : zv_X), mX9_make_138 N n l0 l3 l6 l7 x = some o → zv_V (fX9_make d x0 o) 138 [(0, .ref l0), (3, .int l3), (6, .int l6), (7, .int l7)] [] x := by
  intro n
  induction n with
  | zero => intro l0 l3 l6 l7 x h; cases h
  | succ n ih =>
    intro l0 l3 l6 l7 x h
    unfold mX9_make_138 at h
    refine zv_iload (n := 3) dX9_make_138 rfl ?_
    refine zv_iload_n (n := 1) dX9_make_140 rfl rfl ?_
    refine zr_icmp_ge (tgt := 163) dX9_make_141 (by decide) h (fun c21 h => ?_) (fun c21 h => ?_)
    · refine zv_aload_n (n := 0) dX9_make_163 rfl rfl ?_
      refine zv_aload_n (n := 0) dX9_make_164 rfl rfl ?_
      refine zr_gI dX9_make_165 fg_1441 h (fun v1 e2 h => ?_)
      refine zv_iload_n (n := 1) dX9_make_168 rfl rfl ?_
      refine zv_iadd dX9_make_169 ?_
      refine zr_p dX9_make_170 fl_1441 (fun q => nomatch q) rfl rfl h (fun x3 e4 h => ?_)
      refine zv_aload_n (n := 0) dX9_make_173 rfl rfl ?_
      refine zr_gR dX9_make_174 fg_1438 h (fun v5 e6 h => ?_)
      refine zv_aload_n (n := 0) dX9_make_177 rfl rfl ?_
      refine zr_gI dX9_make_178 fg_1439 h (fun v7 e8 h => ?_)
      refine zv_iload (n := 2) dX9_make_181 rfl ?_
      refine zr_sI dX9_make_183 h (fun x9 e10 h => ?_)
      refine zv_aload_n (n := 0) dX9_make_184 rfl rfl ?_
      refine zv_dup dX9_make_185 rfl ?_
      refine zr_gI dX9_make_186 fg_1439 h (fun v11 e12 h => ?_)
      refine zv_iconst (v := 1) dX9_make_189 (by decide) ?_
      refine zv_iadd dX9_make_190 ?_
      refine zr_p dX9_make_191 fl_1439 (fun q => nomatch q) rfl rfl h (fun x13 e14 h => ?_)
      refine zv_iload (n := 2) dX9_make_194 rfl ?_
      refine zv_i2l dX9_make_196 ?_
      refine zv_lconst (v := 1) dX9_make_197 (by decide) ?_
      refine zv_ladd dX9_make_198 ?_
      cases h
      exact zv_lret dX9_make_199 rfl
    · refine zv_aload_n (n := 0) dX9_make_144 rfl rfl ?_
      refine zr_gR dX9_make_145 fg_1440 h (fun v15 e16 h => ?_)
      refine zv_aload_n (n := 0) dX9_make_148 rfl rfl ?_
      refine zr_gI dX9_make_149 fg_1441 h (fun v17 e18 h => ?_)
      refine zv_iload (n := 3) dX9_make_152 rfl ?_
      refine zv_iadd dX9_make_154 ?_
      refine zv_lconst (v := 0) dX9_make_155 (by decide) ?_
      refine zr_sL dX9_make_156 h (fun x19 e20 h => ?_)
      refine zv_iinc (n := 3) (v := l7 + (1)) (L' := [(7, .int (l7 + (1))), (0, .ref l0), (3, .int l3), (6, .int l6)]) dX9_make_157 rfl rfl (Nat.le_of_ble_eq_true rfl) rfl ?_
      refine zv_goto (tgt := 138) dX9_make_160 (by decide) ?_
      exact zv_fewer [1, 2, 3, 0] rfl (ih _ _ _ _ _ h)
def mX9_make_76 (N : Nat) : Nat → Nat → Int32 → Int32 → Int32 → Int32 → zv_X → Option (zv_X × Int64)
  | 0, _, _, _, _, _, _ => none
  | n + 1, l0, l1, l2, l3, l6, x => (zm_R x l0 9 29).bind fun v1 => (zm_aB x v1 l6).bind fun v3 => if v3 = 0 then ((zm_R x l0 9 29).bind fun v5 => (zm_sB x v5 l6 (1 : Int32)).bind fun x7 => (zm_R x7 l0 9 31).bind fun v9 => (zm_sI x7 v9 l6 l1).bind fun x11 => (zm_R x11 l0 9 32).bind fun v13 => (zm_sI x11 v13 l6 l2).bind fun x15 => (zm_R x15 l0 9 33).bind fun v17 => (zm_sI x15 v17 l6 l3).bind fun x19 => (zm_R x19 l0 9 34).bind fun v21 => (zm_I x19 l0 9 38).bind fun v23 => (zm_sI x19 v21 l6 v23).bind fun x25 => mX9_make_138 N N l0 l3 l6 (0 : Int32) x25) else (mX9_make_76 N n l0 l1 l2 l3 (l6 + (1)) x)
theorem kX9_make_76 {d : Nat} {x0 : zv_X} {o : (zv_X × Int64)} (hd : 2 ≤ d) {N : Nat} : ∀ (n : Nat) (l0 : Nat) (l1 : Int32) (l2 : Int32) (l3 : Int32) (l6 : Int32) (x : zv_X), mX9_make_76 N n l0 l1 l2 l3 l6 x = some o → zv_V (fX9_make d x0 o) 76 [(0, .ref l0), (1, .int l1), (2, .int l2), (3, .int l3), (6, .int l6)] [] x := by
  intro n
  induction n with
  | zero => intro l0 l1 l2 l3 l6 x h; cases h
  | succ n ih =>
    intro l0 l1 l2 l3 l6 x h
    unfold mX9_make_76 at h
    refine zv_aload_n (n := 0) dX9_make_76 rfl rfl ?_
    refine zr_gR dX9_make_77 fg_1432 h (fun v1 e2 h => ?_)
    refine zv_iload (n := 4) dX9_make_80 rfl ?_
    refine zr_aB dX9_make_82 h (fun v3 e4 h => ?_)
    refine zr_if_eq (tgt := 92) dX9_make_83 (by decide) h (fun c27 h => ?_) (fun c27 h => ?_)
    · refine zv_aload_n (n := 0) dX9_make_92 rfl rfl ?_
      refine zr_gR dX9_make_93 fg_1432 h (fun v5 e6 h => ?_)
      refine zv_iload (n := 4) dX9_make_96 rfl ?_
      refine zv_iconst (v := 1) dX9_make_98 (by decide) ?_
      refine zr_sB dX9_make_99 h (fun x7 e8 h => ?_)
      refine zv_aload_n (n := 0) dX9_make_100 rfl rfl ?_
      refine zr_gR dX9_make_101 fg_1434 h (fun v9 e10 h => ?_)
      refine zv_iload (n := 4) dX9_make_104 rfl ?_
      refine zv_iload_n (n := 1) dX9_make_106 rfl rfl ?_
      refine zr_sI dX9_make_107 h (fun x11 e12 h => ?_)
      refine zv_aload_n (n := 0) dX9_make_108 rfl rfl ?_
      refine zr_gR dX9_make_109 fg_1435 h (fun v13 e14 h => ?_)
      refine zv_iload (n := 4) dX9_make_112 rfl ?_
      refine zv_iload_n (n := 2) dX9_make_114 rfl rfl ?_
      refine zr_sI dX9_make_115 h (fun x15 e16 h => ?_)
      refine zv_aload_n (n := 0) dX9_make_116 rfl rfl ?_
      refine zr_gR dX9_make_117 fg_1436 h (fun v17 e18 h => ?_)
      refine zv_iload (n := 4) dX9_make_120 rfl ?_
      refine zv_iload_n (n := 3) dX9_make_122 rfl rfl ?_
      refine zr_sI dX9_make_123 h (fun x19 e20 h => ?_)
      refine zv_aload_n (n := 0) dX9_make_124 rfl rfl ?_
      refine zr_gR dX9_make_125 fg_1437 h (fun v21 e22 h => ?_)
      refine zv_iload (n := 4) dX9_make_128 rfl ?_
      refine zv_aload_n (n := 0) dX9_make_130 rfl rfl ?_
      refine zr_gI dX9_make_131 fg_1441 h (fun v23 e24 h => ?_)
      refine zr_sI dX9_make_134 h (fun x25 e26 h => ?_)
      refine zv_iconst (v := 0) dX9_make_135 (by decide) ?_
      refine zv_istore (L' := [(7, .int (0 : Int32)), (0, .ref l0), (1, .int l1), (2, .int l2), (3, .int l3), (6, .int l6)]) dX9_make_136 (Nat.le_of_ble_eq_true rfl) rfl ?_
      exact zv_fewer [1, 4, 5, 0] rfl (kX9_make_138 hd N _ _ _ _ _ h)
    · refine zv_iinc (n := 4) (v := l6 + (1)) (L' := [(6, .int (l6 + (1))), (0, .ref l0), (1, .int l1), (2, .int l2), (3, .int l3)]) dX9_make_86 rfl rfl (Nat.le_of_ble_eq_true rfl) rfl ?_
      refine zv_goto (tgt := 76) dX9_make_89 (by decide) ?_
      exact zv_fewer [1, 2, 3, 4, 0] rfl (ih _ _ _ _ _ _ h)
def mX9_make_66 (N : Nat) (l0 : Nat) (l1 : Int32) (l2 : Int32) (l3 : Int32) (s0 : Int32) (s1 : Nat) (x : zv_X) : Option (zv_X × Int64) := (zm_p x s1 9 53 (.int s0)).bind fun x1 => if zm_k x1 l0 9 = true then ((mX9_sweep N l0 x1).bind fun o3 => mX9_make_76 N N l0 l1 l2 l3 (0 : Int32) o3) else none
theorem kX9_make_66 {d : Nat} {x0 : zv_X} {o : (zv_X × Int64)} (hd : 2 ≤ d) {N : Nat} (l0 : Nat) (l1 : Int32) (l2 : Int32) (l3 : Int32) (s0 : Int32) (s1 : Nat) (x : zv_X) (h : mX9_make_66 N l0 l1 l2 l3 s0 s1 x = some o) : zv_V (fX9_make d x0 o) 66 [(0, .ref l0), (1, .int l1), (2, .int l2), (3, .int l3)] [.int s0, .ref s1] x := by
  unfold mX9_make_66 at h
  refine zr_p dX9_make_66 fl_1456 (fun q => nomatch q) rfl rfl h (fun x1 e2 h => ?_)
  refine zv_aload_n (n := 0) dX9_make_69 rfl rfl ?_
  refine zr_cVv (ci := 9) (st := []) dX9_make_70 mw_X9_sweep wd_1715 wd_1717 wd_76 rfl rfl [] rfl rfl (Nat.le_of_ble_eq_true rfl) (show d - 1 + 1 ≤ d by omega) h (fun o3 e4 => tX9_sweep (d := d - 1) (by omega) e4) (fun o3 e4 h => ?_)
  refine zv_iconst (v := 0) dX9_make_73 (by decide) ?_
  refine zv_istore (L' := [(6, .int (0 : Int32)), (0, .ref l0), (1, .int l1), (2, .int l2), (3, .int l3)]) dX9_make_74 (Nat.le_of_ble_eq_true rfl) rfl ?_
  exact zv_fewer [1, 2, 3, 4, 0] rfl (kX9_make_76 hd N _ _ _ _ _ _ h)
def mX9_make_0 (N : Nat) (l0 : Nat) (l1 : Int32) (l2 : Int32) (l3 : Int32) (x : zv_X) : Option (zv_X × Int64) := if zm_k x l0 9 = true then ((mX9_reach N l0 x).bind fun o1 => (mX9_wordsOf N l2 (Int32.toInt64 l3) o1.1).bind fun o3 => (zm_I o3.1 l0 9 1).bind fun v5 => if (lg_cmp (o1.2 + o3.2) (Int32.toInt64 v5)) ≤ 0 then ((zm_p o3.1 l0 9 52 (.int (Int64.toInt32 (o1.2 + o3.2)))).bind fun x7 => (zm_I x7 l0 9 52).bind fun v9 => (zm_I x7 l0 9 53).bind fun v11 => if v9 ≤ v11 then ((zm_I x7 l0 9 53).bind fun v13 => mX9_make_66 N l0 l1 l2 l3 v13 l0 x7) else ((zm_I x7 l0 9 52).bind fun v15 => mX9_make_66 N l0 l1 l2 l3 v15 l0 x7)) else ((zm_p o3.1 l0 9 48 (.int (3 : Int32))).bind fun x18 => (zm_p x18 l0 9 49 (.int (1 : Int32))).bind fun x20 => some (x20, (0 : Int64)))) else none
theorem kX9_make_0 {d : Nat} {x0 : zv_X} {o : (zv_X × Int64)} (hd : 2 ≤ d) {N : Nat} (l0 : Nat) (l1 : Int32) (l2 : Int32) (l3 : Int32) (x : zv_X) (h : mX9_make_0 N l0 l1 l2 l3 x = some o) : zv_V (fX9_make d x0 o) 0 [(0, .ref l0), (1, .int l1), (2, .int l2), (3, .int l3)] [] x := by
  unfold mX9_make_0 at h
  refine zv_aload_n (n := 0) dX9_make_0 rfl rfl ?_
  refine zr_cVl (ci := 9) (st := []) dX9_make_1 mw_X9_reach wd_1701 wd_1703 wd_74 rfl rfl [] rfl rfl (Nat.le_of_ble_eq_true rfl) (show d - 1 + 1 ≤ d by omega) h (fun o1 e2 => tX9_reach (d := d - 1) (by omega) e2) (fun o1 e2 h => ?_)
  refine zv_iload_n (n := 2) dX9_make_4 rfl rfl ?_
  refine zv_iload_n (n := 3) dX9_make_5 rfl rfl ?_
  refine zv_i2l dX9_make_6 ?_
  refine zr_cSl (st := [.long o1.2]) dX9_make_7 mw_X9_wordsOf wd_1709 wd_1710 [.int l2, .long (Int32.toInt64 l3)] rfl rfl (Nat.le_of_ble_eq_true rfl) (show d - 1 + 1 ≤ d by omega) h (fun o3 e4 => tX9_wordsOf (d := d - 1) (by omega) e4) (fun o3 e4 h => ?_)
  refine zv_ladd dX9_make_10 ?_
  refine zv_lstore (L' := [(4, .long (o1.2 + o3.2)), (0, .ref l0), (1, .int l1), (2, .int l2), (3, .int l3)]) dX9_make_11 (Nat.le_of_ble_eq_true rfl) rfl ?_
  refine zv_lload (n := 0) dX9_make_13 rfl ?_
  refine zv_aload_n (n := 1) dX9_make_15 rfl rfl ?_
  refine zr_gI dX9_make_16 fg_1404 h (fun v5 e6 h => ?_)
  refine zv_i2l dX9_make_19 ?_
  refine zv_lcmp dX9_make_20 ?_
  refine zr_if_le (tgt := 36) dX9_make_21 (by decide) h (fun c22 h => ?_) (fun c22 h => ?_)
  · refine zv_aload_n (n := 1) dX9_make_36 rfl rfl ?_
    refine zv_lload (n := 0) dX9_make_37 rfl ?_
    refine zv_l2i dX9_make_39 ?_
    refine zr_p dX9_make_40 fl_1455 (fun q => nomatch q) rfl rfl h (fun x7 e8 h => ?_)
    refine zv_aload_n (n := 1) dX9_make_43 rfl rfl ?_
    refine zv_aload_n (n := 1) dX9_make_44 rfl rfl ?_
    refine zr_gI dX9_make_45 fg_1455 h (fun v9 e10 h => ?_)
    refine zv_aload_n (n := 1) dX9_make_48 rfl rfl ?_
    refine zr_gI dX9_make_49 fg_1456 h (fun v11 e12 h => ?_)
    refine zr_icmp_le (tgt := 62) dX9_make_52 (by decide) h (fun c17 h => ?_) (fun c17 h => ?_)
    · refine zv_aload_n (n := 1) dX9_make_62 rfl rfl ?_
      refine zr_gI dX9_make_63 fg_1456 h (fun v13 e14 h => ?_)
      exact zv_fewer [1, 2, 3, 4] rfl (kX9_make_66 hd _ _ _ _ _ _ _ h)
    · refine zv_aload_n (n := 1) dX9_make_55 rfl rfl ?_
      refine zr_gI dX9_make_56 fg_1455 h (fun v15 e16 h => ?_)
      refine zv_goto (tgt := 66) dX9_make_59 (by decide) ?_
      exact zv_fewer [1, 2, 3, 4] rfl (kX9_make_66 hd _ _ _ _ _ _ _ h)
  · refine zv_aload_n (n := 1) dX9_make_24 rfl rfl ?_
    refine zv_iconst (v := 3) dX9_make_25 (by decide) ?_
    refine zr_p dX9_make_26 fl_1451 (fun q => nomatch q) rfl rfl h (fun x18 e19 h => ?_)
    refine zv_aload_n (n := 1) dX9_make_29 rfl rfl ?_
    refine zv_iconst (v := 1) dX9_make_30 (by decide) ?_
    refine zr_p dX9_make_31 fl_1452 (fun q => nomatch q) rfl rfl h (fun x20 e21 h => ?_)
    refine zv_lconst (v := 0) dX9_make_34 (by decide) ?_
    cases h
    exact zv_lret dX9_make_35 rfl
def mX9_make (N : Nat) (a0 : Nat) (a1 : Int32) (a2 : Int32) (a3 : Int32) (x : zv_X) : Option (zv_X × Int64) := mX9_make_0 N a0 a1 a2 a3 x
theorem tX9_make {d : Nat} (hd : 2 ≤ d) {N : Nat} {x : zv_X} {a0 : Nat} {a1 : Int32} {a2 : Int32} {a3 : Int32} {o : (zv_X × Int64)} (h : mX9_make N a0 a1 a2 a3 x = some o) : zv_T d yX9_make cX9_make 8 ((some .long)) [.ref a0, .int a1, .int a2, .int a3] x o.1 (some (.long o.2)) := by
  unfold mX9_make at h
  exact zv_enter (by decide) (Nat.le_of_ble_eq_true rfl) (kX9_make_0 hd _ _ _ _ _ h)

abbrev fX9_raise (d : Nat) (x0 : zv_X) (o : zv_X) : zv_G := (d, RX9, cX9_raise, 4, none, ("raise", []), x0, o, zv_fin x0 o none)
def mX9_raise_23 (N : Nat)  (x : zv_X) : Option zv_X := some x
theorem kX9_raise_23 {d : Nat} {x0 : zv_X} {o : zv_X} (hd : 3 ≤ d) {N : Nat}  (x : zv_X) (h : mX9_raise_23 N  x = some o) : zv_V (fX9_raise d x0 o) 23 [] [] x := by
  unfold mX9_raise_23 at h
  cases h
  exact zv_vret dX9_raise_23 rfl
def mX9_raise_0 (N : Nat) (l0 : Nat) (l1 : Int32) (x : zv_X) : Option zv_X := if zm_k x l0 9 = true then ((mX9_make N l0 l1 (0 : Int32) (0 : Int32) x).bind fun o1 => (zm_I o1.1 l0 9 49).bind fun v3 => if v3 = 0 then (if zm_k o1.1 l0 9 = true then ((mX9_hurl N l0 ((Int64.toInt32 o1.2) - (1 : Int32)) o1.1).bind fun o5 => mX9_raise_23 N o5) else none) else (mX9_raise_23 N o1.1)) else none
theorem kX9_raise_0 {d : Nat} {x0 : zv_X} {o : zv_X} (hd : 3 ≤ d) {N : Nat} (l0 : Nat) (l1 : Int32) (x : zv_X) (h : mX9_raise_0 N l0 l1 x = some o) : zv_V (fX9_raise d x0 o) 0 [(0, .ref l0), (1, .int l1)] [] x := by
  unfold mX9_raise_0 at h
  refine zv_aload_n (n := 0) dX9_raise_0 rfl rfl ?_
  refine zv_iload_n (n := 1) dX9_raise_1 rfl rfl ?_
  refine zv_iconst (v := 0) dX9_raise_2 (by decide) ?_
  refine zv_iconst (v := 0) dX9_raise_3 (by decide) ?_
  refine zr_cVl (ci := 9) (st := []) dX9_raise_4 mw_X9_make wd_1697 wd_1699 wd_73 rfl rfl [.int l1, .int (0 : Int32), .int (0 : Int32)] rfl rfl (Nat.le_of_ble_eq_true rfl) (show d - 1 + 1 ≤ d by omega) h (fun o1 e2 => tX9_make (d := d - 1) (by omega) e2) (fun o1 e2 h => ?_)
  refine zv_lstore_n (L' := [(2, .long o1.2), (0, .ref l0), (1, .int l1)]) dX9_raise_7 rfl (Nat.le_of_ble_eq_true rfl) rfl ?_
  refine zv_aload_n (n := 1) dX9_raise_8 rfl rfl ?_
  refine zr_gI dX9_raise_9 fg_1452 h (fun v3 e4 h => ?_)
  refine zr_if_ne (tgt := 23) dX9_raise_12 (by decide) h (fun c7 h => ?_) (fun c7 h => ?_)
  · exact zv_fewer [] rfl (kX9_raise_23 hd _ h)
  · refine zv_aload_n (n := 1) dX9_raise_15 rfl rfl ?_
    refine zv_lload_n (n := 0) dX9_raise_16 rfl rfl ?_
    refine zv_l2i dX9_raise_17 ?_
    refine zv_iconst (v := 1) dX9_raise_18 (by decide) ?_
    refine zv_isub dX9_raise_19 ?_
    refine zr_cVv (ci := 9) (st := []) dX9_raise_20 mw_X9_hurl wd_1719 wd_1721 wd_77 rfl rfl [.int ((Int64.toInt32 o1.2) - (1 : Int32))] rfl rfl (Nat.le_of_ble_eq_true rfl) (show d - 1 + 1 ≤ d by omega) h (fun o5 e6 => tX9_hurl (d := d - 1) (by omega) e6) (fun o5 e6 h => ?_)
    exact zv_fewer [] rfl (kX9_raise_23 hd _ h)
def mX9_raise (N : Nat) (a0 : Nat) (a1 : Int32) (x : zv_X) : Option zv_X := mX9_raise_0 N a0 a1 x
theorem tX9_raise {d : Nat} (hd : 3 ≤ d) {N : Nat} {x : zv_X} {a0 : Nat} {a1 : Int32} {o : zv_X} (h : mX9_raise N a0 a1 x = some o) : zv_T d yX9_raise cX9_raise 4 (none) [.ref a0, .int a1] x o none := by
  unfold mX9_raise at h
  exact zv_enter (by decide) (Nat.le_of_ble_eq_true rfl) (kX9_raise_0 hd _ _ _ h)

abbrev fX9_doCall (d : Nat) (x0 : zv_X) (o : zv_X) : zv_G := (d, RX9, cX9_doCall, 3, none, ("doCall", []), x0, o, zv_fin x0 o none)
def mX9_doCall_30 (N : Nat) : Nat → Nat → Int32 → Int32 → zv_X → Option zv_X
  | 0, _, _, _, _ => none
  | n + 1, l0, l1, l2, x => if l2 < 0 then ((zm_I x l0 9 47).bind fun v1 => (zm_p x l0 9 47 (.int (v1 + (1 : Int32)))).bind fun x3 => some x3) else ((zm_R x l0 9 44).bind fun v5 => (zm_I x l0 9 47).bind fun v7 => (zm_R x l0 9 13).bind fun v9 => (zm_aI x v9 (((4 : Int32) * l1) + l2)).bind fun v11 => (zm_sI x v5 (((16 : Int32) * v7) + l2) v11).bind fun x13 => (zm_R x13 l0 9 43).bind fun v15 => (zm_I x13 l0 9 47).bind fun v17 => if zm_k x13 l0 9 = true then ((mX9_popValue N l0 x13).bind fun o19 => (zm_sL o19.1 v15 (((16 : Int32) * v17) + l2) o19.2).bind fun x21 => mX9_doCall_30 N n l0 l1 (l2 + (-1)) x21) else none)
theorem kX9_doCall_30 {d : Nat} {x0 : zv_X} {o : zv_X} (hd : 4 ≤ d) {N : Nat} : ∀ (n : Nat) (l0 : Nat) (l1 : Int32) (l2 : Int32) (x : zv_X), mX9_doCall_30 N n l0 l1 l2 x = some o → zv_V (fX9_doCall d x0 o) 30 [(0, .ref l0), (1, .int l1), (2, .int l2)] [] x := by
  intro n
  induction n with
  | zero => intro l0 l1 l2 x h; cases h
  | succ n ih =>
    intro l0 l1 l2 x h
    unfold mX9_doCall_30 at h
    refine zv_iload_n (n := 2) dX9_doCall_30 rfl rfl ?_
    refine zr_if_lt (tgt := 82) dX9_doCall_31 (by decide) h (fun c23 h => ?_) (fun c23 h => ?_)
    · refine zv_aload_n (n := 0) dX9_doCall_82 rfl rfl ?_
      refine zv_dup dX9_doCall_83 rfl ?_
      refine zr_gI dX9_doCall_84 fg_1450 h (fun v1 e2 h => ?_)
      refine zv_iconst (v := 1) dX9_doCall_87 (by decide) ?_
      refine zv_iadd dX9_doCall_88 ?_
      refine zr_p dX9_doCall_89 fl_1450 (fun q => nomatch q) rfl rfl h (fun x3 e4 h => ?_)
      cases h
      exact zv_vret dX9_doCall_92 rfl
    · refine zv_aload_n (n := 0) dX9_doCall_34 rfl rfl ?_
      refine zr_gR dX9_doCall_35 fg_1447 h (fun v5 e6 h => ?_)
      refine zv_bipush (v := 16) dX9_doCall_38 (by decide) ?_
      refine zv_aload_n (n := 0) dX9_doCall_40 rfl rfl ?_
      refine zr_gI dX9_doCall_41 fg_1450 h (fun v7 e8 h => ?_)
      refine zv_imul dX9_doCall_44 ?_
      refine zv_iload_n (n := 2) dX9_doCall_45 rfl rfl ?_
      refine zv_iadd dX9_doCall_46 ?_
      refine zv_aload_n (n := 0) dX9_doCall_47 rfl rfl ?_
      refine zr_gR dX9_doCall_48 fg_1416 h (fun v9 e10 h => ?_)
      refine zv_iconst (v := 4) dX9_doCall_51 (by decide) ?_
      refine zv_iload_n (n := 1) dX9_doCall_52 rfl rfl ?_
      refine zv_imul dX9_doCall_53 ?_
      refine zv_iload_n (n := 2) dX9_doCall_54 rfl rfl ?_
      refine zv_iadd dX9_doCall_55 ?_
      refine zr_aI dX9_doCall_56 h (fun v11 e12 h => ?_)
      refine zr_sI dX9_doCall_57 h (fun x13 e14 h => ?_)
      refine zv_aload_n (n := 0) dX9_doCall_58 rfl rfl ?_
      refine zr_gR dX9_doCall_59 fg_1446 h (fun v15 e16 h => ?_)
      refine zv_bipush (v := 16) dX9_doCall_62 (by decide) ?_
      refine zv_aload_n (n := 0) dX9_doCall_64 rfl rfl ?_
      refine zr_gI dX9_doCall_65 fg_1450 h (fun v17 e18 h => ?_)
      refine zv_imul dX9_doCall_68 ?_
      refine zv_iload_n (n := 2) dX9_doCall_69 rfl rfl ?_
      refine zv_iadd dX9_doCall_70 ?_
      refine zv_aload_n (n := 0) dX9_doCall_71 rfl rfl ?_
      refine zr_cVl (ci := 9) (st := [.int (((16 : Int32) * v17) + l2), .ref v15]) dX9_doCall_72 mw_X9_popValue wd_1727 wd_1729 wd_79 rfl rfl [] rfl rfl (Nat.le_of_ble_eq_true rfl) (show d - 1 + 1 ≤ d by omega) h (fun o19 e20 => tX9_popValue (d := d - 1) (by omega) e20) (fun o19 e20 h => ?_)
      refine zr_sL dX9_doCall_75 h (fun x21 e22 h => ?_)
      refine zv_iinc (n := 2) (v := l2 + (-1)) (L' := [(2, .int (l2 + (-1))), (0, .ref l0), (1, .int l1)]) dX9_doCall_76 rfl rfl (Nat.le_of_ble_eq_true rfl) rfl ?_
      refine zv_goto (tgt := 30) dX9_doCall_79 (by decide) ?_
      exact zv_fewer [1, 2, 0] rfl (ih _ _ _ _ h)
def mX9_doCall_0 (N : Nat) (l0 : Nat) (l1 : Int32) (x : zv_X) : Option zv_X := (zm_I x l0 9 47).bind fun v1 => if v1 = (16 : Int32) then (if zm_k x l0 9 = true then ((mX9_raise N l0 (6 : Int32) x).bind fun o9 => some o9) else none) else (if zm_k x l0 9 = true then ((mX9_open N l0 l1 x).bind fun o3 => (zm_R o3 l0 9 12).bind fun v5 => (zm_aI o3 v5 l1).bind fun v7 => mX9_doCall_30 N N l0 l1 (v7 - (1 : Int32)) o3) else none)
theorem kX9_doCall_0 {d : Nat} {x0 : zv_X} {o : zv_X} (hd : 4 ≤ d) {N : Nat} (l0 : Nat) (l1 : Int32) (x : zv_X) (h : mX9_doCall_0 N l0 l1 x = some o) : zv_V (fX9_doCall d x0 o) 0 [(0, .ref l0), (1, .int l1)] [] x := by
  unfold mX9_doCall_0 at h
  refine zv_aload_n (n := 0) dX9_doCall_0 rfl rfl ?_
  refine zr_gI dX9_doCall_1 fg_1450 h (fun v1 e2 h => ?_)
  refine zv_bipush (v := 16) dX9_doCall_4 (by decide) ?_
  refine zr_icmp_ne (tgt := 16) dX9_doCall_6 (by decide) h (fun c11 h => ?_) (fun c11 h => ?_)
  · refine zv_aload_n (n := 0) dX9_doCall_16 rfl rfl ?_
    refine zv_iload_n (n := 1) dX9_doCall_17 rfl rfl ?_
    refine zr_cVv (ci := 9) (st := []) dX9_doCall_18 mw_X9_open wd_1658 wd_1660 wd_64 rfl rfl [.int l1] rfl rfl (Nat.le_of_ble_eq_true rfl) (show d - 1 + 1 ≤ d by omega) h (fun o3 e4 => tX9_open (d := d - 1) (by omega) e4) (fun o3 e4 h => ?_)
    refine zv_aload_n (n := 0) dX9_doCall_21 rfl rfl ?_
    refine zr_gR dX9_doCall_22 fg_1415 h (fun v5 e6 h => ?_)
    refine zv_iload_n (n := 1) dX9_doCall_25 rfl rfl ?_
    refine zr_aI dX9_doCall_26 h (fun v7 e8 h => ?_)
    refine zv_iconst (v := 1) dX9_doCall_27 (by decide) ?_
    refine zv_isub dX9_doCall_28 ?_
    refine zv_istore_n (L' := [(2, .int (v7 - (1 : Int32))), (0, .ref l0), (1, .int l1)]) dX9_doCall_29 rfl (Nat.le_of_ble_eq_true rfl) rfl ?_
    exact zv_fewer [1, 2, 0] rfl (kX9_doCall_30 hd N _ _ _ _ h)
  · refine zv_aload_n (n := 0) dX9_doCall_9 rfl rfl ?_
    refine zv_bipush (v := 6) dX9_doCall_10 (by decide) ?_
    refine zr_cVv (ci := 9) (st := []) dX9_doCall_12 mw_X9_raise wd_1693 wd_1695 wd_72 rfl rfl [.int (6 : Int32)] rfl rfl (Nat.le_of_ble_eq_true rfl) (show d - 1 + 1 ≤ d by omega) h (fun o9 e10 => tX9_raise (d := d - 1) (by omega) e10) (fun o9 e10 h => ?_)
    cases h
    exact zv_vret dX9_doCall_15 rfl
def mX9_doCall (N : Nat) (a0 : Nat) (a1 : Int32) (x : zv_X) : Option zv_X := mX9_doCall_0 N a0 a1 x
theorem tX9_doCall {d : Nat} (hd : 4 ≤ d) {N : Nat} {x : zv_X} {a0 : Nat} {a1 : Int32} {o : zv_X} (h : mX9_doCall N a0 a1 x = some o) : zv_T d yX9_doCall cX9_doCall 3 (none) [.ref a0, .int a1] x o none := by
  unfold mX9_doCall at h
  exact zv_enter (by decide) (Nat.le_of_ble_eq_true rfl) (kX9_doCall_0 hd _ _ _ h)

abbrev fX9_doEnd (d : Nat) (x0 : zv_X) (o : zv_X) : zv_G := (d, RX9, cX9_doEnd, 4, none, ("doEnd", []), x0, o, zv_fin x0 o none)
def mX9_doEnd_100 (N : Nat) (l0 : Nat) (x : zv_X) : Option zv_X := (zm_R x l0 9 41).bind fun v1 => (zm_I x l0 9 47).bind fun v3 => (zm_R x l0 9 41).bind fun v5 => (zm_I x l0 9 47).bind fun v7 => (zm_aI x v5 (v7 - (1 : Int32))).bind fun v9 => (zm_sI x v1 (v3 - (1 : Int32)) (v9 + (2 : Int32))).bind fun x11 => some x11
theorem kX9_doEnd_100 {d : Nat} {x0 : zv_X} {o : zv_X} (hd : 1 ≤ d) {N : Nat} (l0 : Nat) (x : zv_X) (h : mX9_doEnd_100 N l0 x = some o) : zv_V (fX9_doEnd d x0 o) 100 [(0, .ref l0)] [] x := by
  unfold mX9_doEnd_100 at h
  refine zv_aload_n (n := 0) dX9_doEnd_100 rfl rfl ?_
  refine zr_gR dX9_doEnd_101 fg_1444 h (fun v1 e2 h => ?_)
  refine zv_aload_n (n := 0) dX9_doEnd_104 rfl rfl ?_
  refine zr_gI dX9_doEnd_105 fg_1450 h (fun v3 e4 h => ?_)
  refine zv_iconst (v := 1) dX9_doEnd_108 (by decide) ?_
  refine zv_isub dX9_doEnd_109 ?_
  refine zv_aload_n (n := 0) dX9_doEnd_110 rfl rfl ?_
  refine zr_gR dX9_doEnd_111 fg_1444 h (fun v5 e6 h => ?_)
  refine zv_aload_n (n := 0) dX9_doEnd_114 rfl rfl ?_
  refine zr_gI dX9_doEnd_115 fg_1450 h (fun v7 e8 h => ?_)
  refine zv_iconst (v := 1) dX9_doEnd_118 (by decide) ?_
  refine zv_isub dX9_doEnd_119 ?_
  refine zr_aI dX9_doEnd_120 h (fun v9 e10 h => ?_)
  refine zv_iconst (v := 2) dX9_doEnd_121 (by decide) ?_
  refine zv_iadd dX9_doEnd_122 ?_
  refine zr_sI dX9_doEnd_123 h (fun x11 e12 h => ?_)
  cases h
  exact zv_vret dX9_doEnd_124 rfl
def mX9_doEnd_96 (N : Nat) (l0 : Nat) (l2 : Int64) (s0 : Int32) (s1 : Nat) (x : zv_X) : Option zv_X := if zm_k x s1 9 = true then ((mX9_pushValue N s1 s0 l2 x).bind fun o1 => mX9_doEnd_100 N l0 o1) else none
theorem kX9_doEnd_96 {d : Nat} {x0 : zv_X} {o : zv_X} (hd : 1 ≤ d) {N : Nat} (l0 : Nat) (l2 : Int64) (s0 : Int32) (s1 : Nat) (x : zv_X) (h : mX9_doEnd_96 N l0 l2 s0 s1 x = some o) : zv_V (fX9_doEnd d x0 o) 96 [(0, .ref l0), (2, .long l2)] [.int s0, .ref s1] x := by
  unfold mX9_doEnd_96 at h
  refine zv_lload_n (n := 1) dX9_doEnd_96 rfl rfl ?_
  refine zr_cVv (ci := 9) (st := []) dX9_doEnd_97 mw_X9_pushValue wd_1670 wd_1672 wd_67 rfl rfl [.int s0, .long l2] rfl rfl (Nat.le_of_ble_eq_true rfl) (show d - 1 + 1 ≤ d by omega) h (fun o1 e2 => tX9_pushValue (d := d - 1) (by omega) e2) (fun o1 e2 h => ?_)
  exact zv_fewer [0] rfl (kX9_doEnd_100 hd _ _ h)
def mX9_doEnd_56 (N : Nat) (l0 : Nat) (s0 : Int64) (s1 : Nat) (x : zv_X) : Option zv_X := (zm_p x s1 9 50 (.long s0)).bind fun x1 => (zm_p x1 l0 9 49 (.int (1 : Int32))).bind fun x3 => some x3
theorem kX9_doEnd_56 {d : Nat} {x0 : zv_X} {o : zv_X} (hd : 1 ≤ d) {N : Nat} (l0 : Nat) (s0 : Int64) (s1 : Nat) (x : zv_X) (h : mX9_doEnd_56 N l0 s0 s1 x = some o) : zv_V (fX9_doEnd d x0 o) 56 [(0, .ref l0)] [.long s0, .ref s1] x := by
  unfold mX9_doEnd_56 at h
  refine zr_p dX9_doEnd_56 fl_1453 (fun q => nomatch q) rfl rfl h (fun x1 e2 h => ?_)
  refine zv_aload_n (n := 0) dX9_doEnd_59 rfl rfl ?_
  refine zv_iconst (v := 1) dX9_doEnd_60 (by decide) ?_
  refine zr_p dX9_doEnd_61 fl_1452 (fun q => nomatch q) rfl rfl h (fun x3 e4 h => ?_)
  cases h
  exact zv_vret dX9_doEnd_64 rfl
def mX9_doEnd_15 (N : Nat) (l0 : Nat) (l1 : Int32) (s0 : Int64) (x : zv_X) : Option zv_X := (zm_I x l0 9 47).bind fun v1 => (zm_p x l0 9 47 (.int (v1 - (1 : Int32)))).bind fun x3 => (zm_I x3 l0 9 47).bind fun v5 => if v5 = 0 then (if l1 = (176 : Int32) then (if (lg_cmp s0 (0 : Int64)) = 0 then (mX9_doEnd_56 N l0 (0 : Int64) l0 x3) else (mX9_doEnd_56 N l0 (1 : Int64) l0 x3)) else (mX9_doEnd_56 N l0 s0 l0 x3)) else (if l1 = (177 : Int32) then (mX9_doEnd_100 N l0 x3) else (if l1 = (172 : Int32) then (mX9_doEnd_96 N l0 s0 (1 : Int32) l0 x3) else (if l1 = (173 : Int32) then (mX9_doEnd_96 N l0 s0 (2 : Int32) l0 x3) else (mX9_doEnd_96 N l0 s0 (3 : Int32) l0 x3))))
theorem kX9_doEnd_15 {d : Nat} {x0 : zv_X} {o : zv_X} (hd : 1 ≤ d) {N : Nat} (l0 : Nat) (l1 : Int32) (s0 : Int64) (x : zv_X) (h : mX9_doEnd_15 N l0 l1 s0 x = some o) : zv_V (fX9_doEnd d x0 o) 15 [(0, .ref l0), (1, .int l1)] [.long s0] x := by
  unfold mX9_doEnd_15 at h
  refine zv_lstore_n (L' := [(2, .long s0), (0, .ref l0), (1, .int l1)]) dX9_doEnd_15 rfl (Nat.le_of_ble_eq_true rfl) rfl ?_
  refine zv_aload_n (n := 1) dX9_doEnd_16 rfl rfl ?_
  refine zv_dup dX9_doEnd_17 rfl ?_
  refine zr_gI dX9_doEnd_18 fg_1450 h (fun v1 e2 h => ?_)
  refine zv_iconst (v := 1) dX9_doEnd_21 (by decide) ?_
  refine zv_isub dX9_doEnd_22 ?_
  refine zr_p dX9_doEnd_23 fl_1450 (fun q => nomatch q) rfl rfl h (fun x3 e4 h => ?_)
  refine zv_aload_n (n := 1) dX9_doEnd_26 rfl rfl ?_
  refine zr_gI dX9_doEnd_27 fg_1450 h (fun v5 e6 h => ?_)
  refine zr_if_ne (tgt := 65) dX9_doEnd_30 (by decide) h (fun c12 h => ?_) (fun c12 h => ?_)
  · refine zv_iload_n (n := 2) dX9_doEnd_65 rfl rfl ?_
    refine zv_sipush (v := 177) dX9_doEnd_66 (by decide) ?_
    refine zr_icmp_eq (tgt := 100) dX9_doEnd_69 (by decide) h (fun c9 h => ?_) (fun c9 h => ?_)
    · exact zv_fewer [1] rfl (kX9_doEnd_100 hd _ _ h)
    · refine zv_aload_n (n := 1) dX9_doEnd_72 rfl rfl ?_
      refine zv_iload_n (n := 2) dX9_doEnd_73 rfl rfl ?_
      refine zv_sipush (v := 172) dX9_doEnd_74 (by decide) ?_
      refine zr_icmp_ne (tgt := 84) dX9_doEnd_77 (by decide) h (fun c8 h => ?_) (fun c8 h => ?_)
      · refine zv_iload_n (n := 2) dX9_doEnd_84 rfl rfl ?_
        refine zv_sipush (v := 173) dX9_doEnd_85 (by decide) ?_
        refine zr_icmp_ne (tgt := 95) dX9_doEnd_88 (by decide) h (fun c7 h => ?_) (fun c7 h => ?_)
        · refine zv_iconst (v := 3) dX9_doEnd_95 (by decide) ?_
          exact zv_fewer [1, 0] rfl (kX9_doEnd_96 hd _ _ _ _ _ h)
        · refine zv_iconst (v := 2) dX9_doEnd_91 (by decide) ?_
          refine zv_goto (tgt := 96) dX9_doEnd_92 (by decide) ?_
          exact zv_fewer [1, 0] rfl (kX9_doEnd_96 hd _ _ _ _ _ h)
      · refine zv_iconst (v := 1) dX9_doEnd_80 (by decide) ?_
        refine zv_goto (tgt := 96) dX9_doEnd_81 (by decide) ?_
        exact zv_fewer [1, 0] rfl (kX9_doEnd_96 hd _ _ _ _ _ h)
  · refine zv_aload_n (n := 1) dX9_doEnd_33 rfl rfl ?_
    refine zv_iload_n (n := 2) dX9_doEnd_34 rfl rfl ?_
    refine zv_sipush (v := 176) dX9_doEnd_35 (by decide) ?_
    refine zr_icmp_ne (tgt := 55) dX9_doEnd_38 (by decide) h (fun c11 h => ?_) (fun c11 h => ?_)
    · refine zv_lload_n (n := 0) dX9_doEnd_55 rfl rfl ?_
      exact zv_fewer [1] rfl (kX9_doEnd_56 hd _ _ _ _ h)
    · refine zv_lload_n (n := 0) dX9_doEnd_41 rfl rfl ?_
      refine zv_lconst (v := 0) dX9_doEnd_42 (by decide) ?_
      refine zv_lcmp dX9_doEnd_43 ?_
      refine zr_if_ne (tgt := 51) dX9_doEnd_44 (by decide) h (fun c10 h => ?_) (fun c10 h => ?_)
      · refine zv_lconst (v := 1) dX9_doEnd_51 (by decide) ?_
        refine zv_goto (tgt := 56) dX9_doEnd_52 (by decide) ?_
        exact zv_fewer [1] rfl (kX9_doEnd_56 hd _ _ _ _ h)
      · refine zv_lconst (v := 0) dX9_doEnd_47 (by decide) ?_
        refine zv_goto (tgt := 56) dX9_doEnd_48 (by decide) ?_
        exact zv_fewer [1] rfl (kX9_doEnd_56 hd _ _ _ _ h)
def mX9_doEnd_0 (N : Nat) (l0 : Nat) (l1 : Int32) (x : zv_X) : Option zv_X := if l1 = (177 : Int32) then (mX9_doEnd_15 N l0 l1 (0 : Int64) x) else (if zm_k x l0 9 = true then ((mX9_popValue N l0 x).bind fun o1 => mX9_doEnd_15 N l0 l1 o1.2 o1.1) else none)
theorem kX9_doEnd_0 {d : Nat} {x0 : zv_X} {o : zv_X} (hd : 1 ≤ d) {N : Nat} (l0 : Nat) (l1 : Int32) (x : zv_X) (h : mX9_doEnd_0 N l0 l1 x = some o) : zv_V (fX9_doEnd d x0 o) 0 [(0, .ref l0), (1, .int l1)] [] x := by
  unfold mX9_doEnd_0 at h
  refine zv_iload_n (n := 1) dX9_doEnd_0 rfl rfl ?_
  refine zv_sipush (v := 177) dX9_doEnd_1 (by decide) ?_
  refine zr_icmp_ne (tgt := 11) dX9_doEnd_4 (by decide) h (fun c3 h => ?_) (fun c3 h => ?_)
  · refine zv_aload_n (n := 0) dX9_doEnd_11 rfl rfl ?_
    refine zr_cVl (ci := 9) (st := []) dX9_doEnd_12 mw_X9_popValue wd_1727 wd_1729 wd_79 rfl rfl [] rfl rfl (Nat.le_of_ble_eq_true rfl) (show d - 1 + 1 ≤ d by omega) h (fun o1 e2 => tX9_popValue (d := d - 1) (by omega) e2) (fun o1 e2 h => ?_)
    exact kX9_doEnd_15 hd _ _ _ _ h
  · refine zv_lconst (v := 0) dX9_doEnd_7 (by decide) ?_
    refine zv_goto (tgt := 15) dX9_doEnd_8 (by decide) ?_
    exact kX9_doEnd_15 hd _ _ _ _ h
def mX9_doEnd (N : Nat) (a0 : Nat) (a1 : Int32) (x : zv_X) : Option zv_X := mX9_doEnd_0 N a0 a1 x
theorem tX9_doEnd {d : Nat} (hd : 1 ≤ d) {N : Nat} {x : zv_X} {a0 : Nat} {a1 : Int32} {o : zv_X} (h : mX9_doEnd N a0 a1 x = some o) : zv_T d yX9_doEnd cX9_doEnd 4 (none) [.ref a0, .int a1] x o none := by
  unfold mX9_doEnd at h
  exact zv_enter (by decide) (Nat.le_of_ble_eq_true rfl) (kX9_doEnd_0 hd _ _ _ h)

abbrev fX9_fail (d : Nat) (x0 : zv_X) (o : zv_X) : zv_G := (d, RX9, cX9_fail, 2, none, ("fail", []), x0, o, zv_fin x0 o none)
def mX9_fail_0 (N : Nat) (l0 : Nat) (l1 : Int32) (x : zv_X) : Option zv_X := if zm_k x l0 9 = true then ((mX9_raise N l0 l1 x).bind fun o1 => (zm_p o1 l0 9 54 (.int (1 : Int32))).bind fun x3 => some x3) else none
theorem kX9_fail_0 {d : Nat} {x0 : zv_X} {o : zv_X} (hd : 4 ≤ d) {N : Nat} (l0 : Nat) (l1 : Int32) (x : zv_X) (h : mX9_fail_0 N l0 l1 x = some o) : zv_V (fX9_fail d x0 o) 0 [(0, .ref l0), (1, .int l1)] [] x := by
  unfold mX9_fail_0 at h
  refine zv_aload_n (n := 0) dX9_fail_0 rfl rfl ?_
  refine zv_iload_n (n := 1) dX9_fail_1 rfl rfl ?_
  refine zr_cVv (ci := 9) (st := []) dX9_fail_2 mw_X9_raise wd_1693 wd_1695 wd_72 rfl rfl [.int l1] rfl rfl (Nat.le_of_ble_eq_true rfl) (show d - 1 + 1 ≤ d by omega) h (fun o1 e2 => tX9_raise (d := d - 1) (by omega) e2) (fun o1 e2 h => ?_)
  refine zv_aload_n (n := 0) dX9_fail_5 rfl rfl ?_
  refine zv_iconst (v := 1) dX9_fail_6 (by decide) ?_
  refine zr_p dX9_fail_7 fl_1457 (fun q => nomatch q) rfl rfl h (fun x3 e4 h => ?_)
  cases h
  exact zv_vret dX9_fail_10 rfl
def mX9_fail (N : Nat) (a0 : Nat) (a1 : Int32) (x : zv_X) : Option zv_X := mX9_fail_0 N a0 a1 x
theorem tX9_fail {d : Nat} (hd : 4 ≤ d) {N : Nat} {x : zv_X} {a0 : Nat} {a1 : Int32} {o : zv_X} (h : mX9_fail N a0 a1 x = some o) : zv_T d yX9_fail cX9_fail 2 (none) [.ref a0, .int a1] x o none := by
  unfold mX9_fail at h
  exact zv_enter (by decide) (Nat.le_of_ble_eq_true rfl) (kX9_fail_0 hd _ _ _ h)

abbrev fX9_peek (d : Nat) (x0 : zv_X) (o : (zv_X × Int64)) : zv_G := (d, RX9, cX9_peek, 3, (some .long), ("peek", []), x0, o.1, zv_fin x0 o.1 (some (.long o.2)))
def mX9_peek_0 (N : Nat) (l0 : Nat) (l1 : Int32) (x : zv_X) : Option (zv_X × Int64) := (zm_I x l0 9 47).bind fun v1 => (zm_R x l0 9 45).bind fun v3 => (zm_R x l0 9 42).bind fun v5 => (zm_aI x v5 (v1 - (1 : Int32))).bind fun v7 => (zm_aL x v3 (((((12 : Int32) * (v1 - (1 : Int32))) + v7) - (1 : Int32)) - l1)).bind fun v9 => some (x, v9)
theorem kX9_peek_0 {d : Nat} {x0 : zv_X} {o : (zv_X × Int64)} (hd : 0 ≤ d) {N : Nat} (l0 : Nat) (l1 : Int32) (x : zv_X) (h : mX9_peek_0 N l0 l1 x = some o) : zv_V (fX9_peek d x0 o) 0 [(0, .ref l0), (1, .int l1)] [] x := by
  unfold mX9_peek_0 at h
  refine zv_aload_n (n := 0) dX9_peek_0 rfl rfl ?_
  refine zr_gI dX9_peek_1 fg_1450 h (fun v1 e2 h => ?_)
  refine zv_iconst (v := 1) dX9_peek_4 (by decide) ?_
  refine zv_isub dX9_peek_5 ?_
  refine zv_istore_n (L' := [(2, .int (v1 - (1 : Int32))), (0, .ref l0), (1, .int l1)]) dX9_peek_6 rfl (Nat.le_of_ble_eq_true rfl) rfl ?_
  refine zv_aload_n (n := 1) dX9_peek_7 rfl rfl ?_
  refine zr_gR dX9_peek_8 fg_1448 h (fun v3 e4 h => ?_)
  refine zv_bipush (v := 12) dX9_peek_11 (by decide) ?_
  refine zv_iload_n (n := 0) dX9_peek_13 rfl rfl ?_
  refine zv_imul dX9_peek_14 ?_
  refine zv_aload_n (n := 1) dX9_peek_15 rfl rfl ?_
  refine zr_gR dX9_peek_16 fg_1445 h (fun v5 e6 h => ?_)
  refine zv_iload_n (n := 0) dX9_peek_19 rfl rfl ?_
  refine zr_aI dX9_peek_20 h (fun v7 e8 h => ?_)
  refine zv_iadd dX9_peek_21 ?_
  refine zv_iconst (v := 1) dX9_peek_22 (by decide) ?_
  refine zv_isub dX9_peek_23 ?_
  refine zv_iload_n (n := 2) dX9_peek_24 rfl rfl ?_
  refine zv_isub dX9_peek_25 ?_
  refine zr_aL dX9_peek_26 h (fun v9 e10 h => ?_)
  cases h
  exact zv_lret dX9_peek_27 rfl
def mX9_peek (N : Nat) (a0 : Nat) (a1 : Int32) (x : zv_X) : Option (zv_X × Int64) := mX9_peek_0 N a0 a1 x
theorem tX9_peek {d : Nat} (hd : 0 ≤ d) {N : Nat} {x : zv_X} {a0 : Nat} {a1 : Int32} {o : (zv_X × Int64)} (h : mX9_peek N a0 a1 x = some o) : zv_T d yX9_peek cX9_peek 3 ((some .long)) [.ref a0, .int a1] x o.1 (some (.long o.2)) := by
  unfold mX9_peek at h
  exact zv_enter (by decide) (Nat.le_of_ble_eq_true rfl) (kX9_peek_0 hd _ _ _ h)
