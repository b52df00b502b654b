abbrev fX9_lead (d : Nat) (x0 : zv_X) (o : zv_X) : zv_G := (d, RX9, cX9_lead, 5, none, ("lead", []), x0, o, zv_fin x0 o none)
def mX9_lead_14 (N : Nat) (l0 : Nat) (x : zv_X) : Option zv_X := (zm_p x l0 9 27 (.int (0 : Int32))).bind fun x1 => some x1
theorem kX9_lead_14 {d : Nat} {x0 : zv_X} {o : zv_X} (hd : 0 ≤ d) {N : Nat} (l0 : Nat) (x : zv_X) (h : mX9_lead_14 N l0 x = some o) : zv_V (fX9_lead d x0 o) 14 [(0, .ref l0)] [] x := by
  unfold mX9_lead_14 at h
  refine zv_aload_n (n := 0) dX9_lead_14 rfl rfl ?_
  refine zv_iconst (v := 0) dX9_lead_15 (by decide) ?_
  refine zr_p dX9_lead_16 fl_1430 (fun q => nomatch q) rfl rfl h (fun x1 e2 h => ?_)
  cases h
  exact zv_vret dX9_lead_19 rfl
def mX9_lead_252 (K199 : Nat → Int32 → Int32 → zv_X → Option zv_X) (N : Nat) (l0 : Nat) (l2 : Int32) (l3 : Int32) (x : zv_X) : Option zv_X := K199 l0 l2 (l3 + (1)) x
theorem kX9_lead_252 {d : Nat} {x0 : zv_X} {o : zv_X} (hd : 0 ≤ d) {K199 : Nat → Int32 → Int32 → zv_X → Option zv_X} (hK199 : ∀ (l0 : Nat) (l2 : Int32) (l3 : Int32) (x : zv_X), K199 l0 l2 l3 x = some o → zv_V (fX9_lead d x0 o) 199 [(0, .ref l0), (2, .int l2), (3, .int l3)] [] x) {N : Nat} (l0 : Nat) (l2 : Int32) (l3 : Int32) (x : zv_X) (h : mX9_lead_252 K199 N l0 l2 l3 x = some o) : zv_V (fX9_lead d x0 o) 252 [(0, .ref l0), (2, .int l2), (3, .int l3)] [] x := by
  unfold mX9_lead_252 at h
  refine zv_iinc (n := 2) (v := l3 + (1)) (L' := [(3, .int (l3 + (1))), (0, .ref l0), (2, .int l2)]) dX9_lead_252 rfl rfl (Nat.le_of_ble_eq_true rfl) rfl ?_
  refine zv_goto (tgt := 199) dX9_lead_255 (by decide) ?_
  exact zv_fewer [1, 2, 0] rfl (hK199 _ _ _ _ h)
def mX9_lead_199 (N : Nat) : Nat → Nat → Int32 → Int32 → zv_X → Option zv_X
  | 0, _, _, _, _ => none
  | n + 1, l0, l2, l3, x => if (16 : Int32) ≤ l3 then (some x) else ((zm_R x l0 9 23).bind fun v1 => (zm_aI x v1 (((16 : Int32) * l2) + l3)).bind fun v3 => (zm_R x l0 9 26).bind fun v5 => (zm_aI x v5 l3).bind fun v7 => if v3 = v7 then (mX9_lead_252 (mX9_lead_199 N n) N l0 l2 l3 x) else ((zm_R x l0 9 23).bind fun v9 => (zm_aI x v9 (((16 : Int32) * l2) + l3)).bind fun v11 => if v11 = 0 then (mX9_lead_252 (mX9_lead_199 N n) N l0 l2 l3 x) else ((zm_R x l0 9 23).bind fun v13 => (zm_sI x v13 (((16 : Int32) * l2) + l3) (0 : Int32)).bind fun x15 => (zm_p x15 l0 9 28 (.int (1 : Int32))).bind fun x17 => mX9_lead_252 (mX9_lead_199 N n) N l0 l2 l3 x17)))
theorem kX9_lead_199 {d : Nat} {x0 : zv_X} {o : zv_X} (hd : 0 ≤ d) {N : Nat} : ∀ (n : Nat) (l0 : Nat) (l2 : Int32) (l3 : Int32) (x : zv_X), mX9_lead_199 N n l0 l2 l3 x = some o → zv_V (fX9_lead d x0 o) 199 [(0, .ref l0), (2, .int l2), (3, .int l3)] [] x := by
  intro n
  induction n with
  | zero => intro l0 l2 l3 x h; cases h
  | succ n ih =>
    intro l0 l2 l3 x h
    unfold mX9_lead_199 at h
    refine zv_iload_n (n := 2) dX9_lead_199 rfl rfl ?_
    refine zv_bipush (v := 16) dX9_lead_200 (by decide) ?_
    refine zr_icmp_ge (tgt := 258) dX9_lead_202 (by decide) h (fun c21 h => ?_) (fun c21 h => ?_)
    · cases h
      exact zv_vret dX9_lead_258 rfl
    · refine zv_bipush (v := 16) dX9_lead_205 (by decide) ?_
      refine zv_iload_n (n := 1) dX9_lead_207 rfl rfl ?_
      refine zv_imul dX9_lead_208 ?_
      refine zv_iload_n (n := 2) dX9_lead_209 rfl rfl ?_
      refine zv_iadd dX9_lead_210 ?_
      refine zv_istore (L' := [(4, .int (((16 : Int32) * l2) + l3)), (0, .ref l0), (2, .int l2), (3, .int l3)]) dX9_lead_211 (Nat.le_of_ble_eq_true rfl) rfl ?_
      refine zv_aload_n (n := 1) dX9_lead_213 rfl rfl ?_
      refine zr_gR dX9_lead_214 fg_1426 h (fun v1 e2 h => ?_)
      refine zv_iload (n := 0) dX9_lead_217 rfl ?_
      refine zr_aI dX9_lead_219 h (fun v3 e4 h => ?_)
      refine zv_aload_n (n := 1) dX9_lead_220 rfl rfl ?_
      refine zr_gR dX9_lead_221 fg_1429 h (fun v5 e6 h => ?_)
      refine zv_iload_n (n := 3) dX9_lead_224 rfl rfl ?_
      refine zr_aI dX9_lead_225 h (fun v7 e8 h => ?_)
      refine zr_icmp_eq (tgt := 252) dX9_lead_226 (by decide) h (fun c20 h => ?_) (fun c20 h => ?_)
      · exact zv_fewer [1, 2, 3] rfl (kX9_lead_252 hd ih _ _ _ _ h)
      · refine zv_aload_n (n := 1) dX9_lead_229 rfl rfl ?_
        refine zr_gR dX9_lead_230 fg_1426 h (fun v9 e10 h => ?_)
        refine zv_iload (n := 0) dX9_lead_233 rfl ?_
        refine zr_aI dX9_lead_235 h (fun v11 e12 h => ?_)
        refine zr_if_eq (tgt := 252) dX9_lead_236 (by decide) h (fun c19 h => ?_) (fun c19 h => ?_)
        · exact zv_fewer [1, 2, 3] rfl (kX9_lead_252 hd ih _ _ _ _ h)
        · refine zv_aload_n (n := 1) dX9_lead_239 rfl rfl ?_
          refine zr_gR dX9_lead_240 fg_1426 h (fun v13 e14 h => ?_)
          refine zv_iload (n := 0) dX9_lead_243 rfl ?_
          refine zv_iconst (v := 0) dX9_lead_245 (by decide) ?_
          refine zr_sI dX9_lead_246 h (fun x15 e16 h => ?_)
          refine zv_aload_n (n := 1) dX9_lead_247 rfl rfl ?_
          refine zv_iconst (v := 1) dX9_lead_248 (by decide) ?_
          refine zr_p dX9_lead_249 fl_1431 (fun q => nomatch q) rfl rfl h (fun x17 e18 h => ?_)
          exact zv_fewer [1, 2, 3] rfl (kX9_lead_252 hd ih _ _ _ _ h)
def mX9_lead_197 (N : Nat) (l0 : Nat) (l2 : Int32) (x : zv_X) : Option zv_X := mX9_lead_199 N N l0 l2 (0 : Int32) x
theorem kX9_lead_197 {d : Nat} {x0 : zv_X} {o : zv_X} (hd : 0 ≤ d) {N : Nat} (l0 : Nat) (l2 : Int32) (x : zv_X) (h : mX9_lead_197 N l0 l2 x = some o) : zv_V (fX9_lead d x0 o) 197 [(0, .ref l0), (2, .int l2)] [] x := by
  unfold mX9_lead_197 at h
  refine zv_iconst (v := 0) dX9_lead_197 (by decide) ?_
  refine zv_istore_n (L' := [(3, .int (0 : Int32)), (0, .ref l0), (2, .int l2)]) dX9_lead_198 rfl (Nat.le_of_ble_eq_true rfl) rfl ?_
  exact zv_fewer [1, 2, 0] rfl (kX9_lead_199 hd N _ _ _ _ h)
def mX9_lead_188 (K147 : Nat → Int32 → Int32 → zv_X → Option zv_X) (N : Nat) (l0 : Nat) (l2 : Int32) (l3 : Int32) (s0 : Int32) (s1 : Nat) (x : zv_X) : Option zv_X := if s0 = 0 ∨ s0 = 1 then ((zm_p x s1 9 27 (.int s0)).bind fun x1 => K147 l0 l2 (l3 + (1)) x1) else none
theorem kX9_lead_188 {d : Nat} {x0 : zv_X} {o : zv_X} (hd : 0 ≤ d) {K147 : Nat → Int32 → Int32 → zv_X → Option zv_X} (hK147 : ∀ (l0 : Nat) (l2 : Int32) (l3 : Int32) (x : zv_X), K147 l0 l2 l3 x = some o → zv_V (fX9_lead d x0 o) 147 [(0, .ref l0), (2, .int l2), (3, .int l3)] [] x) {N : Nat} (l0 : Nat) (l2 : Int32) (l3 : Int32) (s0 : Int32) (s1 : Nat) (x : zv_X) (h : mX9_lead_188 K147 N l0 l2 l3 s0 s1 x = some o) : zv_V (fX9_lead d x0 o) 188 [(0, .ref l0), (2, .int l2), (3, .int l3)] [.int s0, .ref s1] x := by
  unfold mX9_lead_188 at h
  refine zr_pZ dX9_lead_188 fl_1430 (fun q => nomatch q) h (fun x1 e2 h => ?_)
  refine zv_iinc (n := 2) (v := l3 + (1)) (L' := [(3, .int (l3 + (1))), (0, .ref l0), (2, .int l2)]) dX9_lead_191 rfl rfl (Nat.le_of_ble_eq_true rfl) rfl ?_
  refine zv_goto (tgt := 147) dX9_lead_194 (by decide) ?_
  exact zv_fewer [1, 2, 0] rfl (hK147 _ _ _ _ h)
def mX9_lead_147 (N : Nat) : Nat → Nat → Int32 → Int32 → zv_X → Option zv_X
  | 0, _, _, _, _ => none
  | n + 1, l0, l2, l3, x => (zm_I x l0 9 25).bind fun v1 => if v1 ≤ l3 then (mX9_lead_197 N l0 l2 x) else ((zm_I x l0 9 27).bind fun v3 => if v3 = 0 then (mX9_lead_197 N l0 l2 x) else ((zm_R x l0 9 22).bind fun v5 => (zm_aI x v5 (((12 : Int32) * l2) + l3)).bind fun v7 => (zm_R x l0 9 24).bind fun v9 => (zm_aI x v9 l3).bind fun v11 => if v7 = v11 then (mX9_lead_188 (mX9_lead_147 N n) N l0 l2 l3 (1 : Int32) l0 x) else (mX9_lead_188 (mX9_lead_147 N n) N l0 l2 l3 (0 : Int32) l0 x)))
theorem kX9_lead_147 {d : Nat} {x0 : zv_X} {o : zv_X} (hd : 0 ≤ d) {N : Nat} : ∀ (n : Nat) (l0 : Nat) (l2 : Int32) (l3 : Int32) (x : zv_X), mX9_lead_147 N n l0 l2 l3 x = some o → zv_V (fX9_lead d x0 o) 147 [(0, .ref l0), (2, .int l2), (3, .int l3)] [] x := by
  intro n
  induction n with
  | zero => intro l0 l2 l3 x h; cases h
  | succ n ih =>
    intro l0 l2 l3 x h
    unfold mX9_lead_147 at h
    refine zv_iload_n (n := 2) dX9_lead_147 rfl rfl ?_
    refine zv_aload_n (n := 0) dX9_lead_148 rfl rfl ?_
    refine zr_gI dX9_lead_149 fg_1428 h (fun v1 e2 h => ?_)
    refine zr_icmp_ge (tgt := 197) dX9_lead_152 (by decide) h (fun c15 h => ?_) (fun c15 h => ?_)
    · exact zv_fewer [0, 1] rfl (kX9_lead_197 hd _ _ _ h)
    · refine zv_aload_n (n := 0) dX9_lead_155 rfl rfl ?_
      refine zr_gI dX9_lead_156 fg_1430 h (fun v3 e4 h => ?_)
      refine zr_if_eq (tgt := 197) dX9_lead_159 (by decide) h (fun c14 h => ?_) (fun c14 h => ?_)
      · exact zv_fewer [0, 1] rfl (kX9_lead_197 hd _ _ _ h)
      · refine zv_aload_n (n := 0) dX9_lead_162 rfl rfl ?_
        refine zv_aload_n (n := 0) dX9_lead_163 rfl rfl ?_
        refine zr_gR dX9_lead_164 fg_1425 h (fun v5 e6 h => ?_)
        refine zv_bipush (v := 12) dX9_lead_167 (by decide) ?_
        refine zv_iload_n (n := 1) dX9_lead_169 rfl rfl ?_
        refine zv_imul dX9_lead_170 ?_
        refine zv_iload_n (n := 2) dX9_lead_171 rfl rfl ?_
        refine zv_iadd dX9_lead_172 ?_
        refine zr_aI dX9_lead_173 h (fun v7 e8 h => ?_)
        refine zv_aload_n (n := 0) dX9_lead_174 rfl rfl ?_
        refine zr_gR dX9_lead_175 fg_1427 h (fun v9 e10 h => ?_)
        refine zv_iload_n (n := 2) dX9_lead_178 rfl rfl ?_
        refine zr_aI dX9_lead_179 h (fun v11 e12 h => ?_)
        refine zr_icmp_ne (tgt := 187) dX9_lead_180 (by decide) h (fun c13 h => ?_) (fun c13 h => ?_)
        · refine zv_iconst (v := 0) dX9_lead_187 (by decide) ?_
          exact kX9_lead_188 hd ih _ _ _ _ _ _ h
        · refine zv_iconst (v := 1) dX9_lead_183 (by decide) ?_
          refine zv_goto (tgt := 188) dX9_lead_184 (by decide) ?_
          exact kX9_lead_188 hd ih _ _ _ _ _ _ h
def mX9_lead_142 (N : Nat) (l0 : Nat) (l2 : Int32) (s0 : Int32) (s1 : Nat) (x : zv_X) : Option zv_X := if s0 = 0 ∨ s0 = 1 then ((zm_p x s1 9 27 (.int s0)).bind fun x1 => mX9_lead_147 N N l0 l2 (0 : Int32) x1) else none
theorem kX9_lead_142 {d : Nat} {x0 : zv_X} {o : zv_X} (hd : 0 ≤ d) {N : Nat} (l0 : Nat) (l2 : Int32) (s0 : Int32) (s1 : Nat) (x : zv_X) (h : mX9_lead_142 N l0 l2 s0 s1 x = some o) : zv_V (fX9_lead d x0 o) 142 [(0, .ref l0), (2, .int l2)] [.int s0, .ref s1] x := by
  unfold mX9_lead_142 at h
  refine zr_pZ dX9_lead_142 fl_1430 (fun q => nomatch q) h (fun x1 e2 h => ?_)
  refine zv_iconst (v := 0) dX9_lead_145 (by decide) ?_
  refine zv_istore_n (L' := [(3, .int (0 : Int32)), (0, .ref l0), (2, .int l2)]) dX9_lead_146 rfl (Nat.le_of_ble_eq_true rfl) rfl ?_
  exact zv_fewer [1, 2, 0] rfl (kX9_lead_147 hd N _ _ _ _ h)
def mX9_lead_141 (N : Nat) (l0 : Nat) (l2 : Int32) (s0 : Nat) (x : zv_X) : Option zv_X := mX9_lead_142 N l0 l2 (0 : Int32) s0 x
theorem kX9_lead_141 {d : Nat} {x0 : zv_X} {o : zv_X} (hd : 0 ≤ d) {N : Nat} (l0 : Nat) (l2 : Int32) (s0 : Nat) (x : zv_X) (h : mX9_lead_141 N l0 l2 s0 x = some o) : zv_V (fX9_lead d x0 o) 141 [(0, .ref l0), (2, .int l2)] [.ref s0] x := by
  unfold mX9_lead_141 at h
  refine zv_iconst (v := 0) dX9_lead_141 (by decide) ?_
  exact kX9_lead_142 hd _ _ _ _ _ h
def mX9_lead_86 (N : Nat) : Nat → Nat → Int32 → Int32 → zv_X → Option zv_X
  | 0, _, _, _, _ => none
  | n + 1, l0, l2, l3, x => if (16 : Int32) ≤ l3 then (some x) else ((zm_R x l0 9 23).bind fun v1 => (zm_R x l0 9 26).bind fun v3 => (zm_aI x v3 l3).bind fun v5 => (zm_sI x v1 (((16 : Int32) * l2) + l3) v5).bind fun x7 => mX9_lead_86 N n l0 l2 (l3 + (1)) x7)
theorem kX9_lead_86 {d : Nat} {x0 : zv_X} {o : zv_X} (hd : 0 ≤ d) {N : Nat} : ∀ (n : Nat) (l0 : Nat) (l2 : Int32) (l3 : Int32) (x : zv_X), mX9_lead_86 N n l0 l2 l3 x = some o → zv_V (fX9_lead d x0 o) 86 [(0, .ref l0), (2, .int l2), (3, .int l3)] [] x := by
  intro n
  induction n with
  | zero => intro l0 l2 l3 x h; cases h
  | succ n ih =>
    intro l0 l2 l3 x h
    unfold mX9_lead_86 at h
    refine zv_iload_n (n := 2) dX9_lead_86 rfl rfl ?_
    refine zv_bipush (v := 16) dX9_lead_87 (by decide) ?_
    refine zr_icmp_ge (tgt := 115) dX9_lead_89 (by decide) h (fun c9 h => ?_) (fun c9 h => ?_)
    · cases h
      exact zv_vret dX9_lead_115 rfl
    · refine zv_aload_n (n := 0) dX9_lead_92 rfl rfl ?_
      refine zr_gR dX9_lead_93 fg_1426 h (fun v1 e2 h => ?_)
      refine zv_bipush (v := 16) dX9_lead_96 (by decide) ?_
      refine zv_iload_n (n := 1) dX9_lead_98 rfl rfl ?_
      refine zv_imul dX9_lead_99 ?_
      refine zv_iload_n (n := 2) dX9_lead_100 rfl rfl ?_
      refine zv_iadd dX9_lead_101 ?_
      refine zv_aload_n (n := 0) dX9_lead_102 rfl rfl ?_
      refine zr_gR dX9_lead_103 fg_1429 h (fun v3 e4 h => ?_)
      refine zv_iload_n (n := 2) dX9_lead_106 rfl rfl ?_
      refine zr_aI dX9_lead_107 h (fun v5 e6 h => ?_)
      refine zr_sI dX9_lead_108 h (fun x7 e8 h => ?_)
      refine zv_iinc (n := 2) (v := l3 + (1)) (L' := [(3, .int (l3 + (1))), (0, .ref l0), (2, .int l2)]) dX9_lead_109 rfl rfl (Nat.le_of_ble_eq_true rfl) rfl ?_
      refine zv_goto (tgt := 86) dX9_lead_112 (by decide) ?_
      exact zv_fewer [1, 2, 0] rfl (ih _ _ _ _ h)
def mX9_lead_53 (N : Nat) : Nat → Nat → Int32 → Int32 → zv_X → Option zv_X
  | 0, _, _, _, _ => none
  | n + 1, l0, l2, l3, x => (zm_I x l0 9 25).bind fun v1 => if v1 ≤ l3 then (mX9_lead_86 N N l0 l2 (0 : Int32) x) else ((zm_R x l0 9 22).bind fun v3 => (zm_R x l0 9 24).bind fun v5 => (zm_aI x v5 l3).bind fun v7 => (zm_sI x v3 (((12 : Int32) * l2) + l3) v7).bind fun x9 => mX9_lead_53 N n l0 l2 (l3 + (1)) x9)
theorem kX9_lead_53 {d : Nat} {x0 : zv_X} {o : zv_X} (hd : 0 ≤ d) {N : Nat} : ∀ (n : Nat) (l0 : Nat) (l2 : Int32) (l3 : Int32) (x : zv_X), mX9_lead_53 N n l0 l2 l3 x = some o → zv_V (fX9_lead d x0 o) 53 [(0, .ref l0), (2, .int l2), (3, .int l3)] [] x := by
  intro n
  induction n with
  | zero => intro l0 l2 l3 x h; cases h
  | succ n ih =>
    intro l0 l2 l3 x h
    unfold mX9_lead_53 at h
    refine zv_iload_n (n := 2) dX9_lead_53 rfl rfl ?_
    refine zv_aload_n (n := 0) dX9_lead_54 rfl rfl ?_
    refine zr_gI dX9_lead_55 fg_1428 h (fun v1 e2 h => ?_)
    refine zr_icmp_ge (tgt := 84) dX9_lead_58 (by decide) h (fun c11 h => ?_) (fun c11 h => ?_)
    · refine zv_iconst (v := 0) dX9_lead_84 (by decide) ?_
      refine zv_istore_n (L' := [(3, .int (0 : Int32)), (0, .ref l0), (2, .int l2)]) dX9_lead_85 rfl (Nat.le_of_ble_eq_true rfl) rfl ?_
      exact zv_fewer [1, 2, 0] rfl (kX9_lead_86 hd N _ _ _ _ h)
    · refine zv_aload_n (n := 0) dX9_lead_61 rfl rfl ?_
      refine zr_gR dX9_lead_62 fg_1425 h (fun v3 e4 h => ?_)
      refine zv_bipush (v := 12) dX9_lead_65 (by decide) ?_
      refine zv_iload_n (n := 1) dX9_lead_67 rfl rfl ?_
      refine zv_imul dX9_lead_68 ?_
      refine zv_iload_n (n := 2) dX9_lead_69 rfl rfl ?_
      refine zv_iadd dX9_lead_70 ?_
      refine zv_aload_n (n := 0) dX9_lead_71 rfl rfl ?_
      refine zr_gR dX9_lead_72 fg_1427 h (fun v5 e6 h => ?_)
      refine zv_iload_n (n := 2) dX9_lead_75 rfl rfl ?_
      refine zr_aI dX9_lead_76 h (fun v7 e8 h => ?_)
      refine zr_sI dX9_lead_77 h (fun x9 e10 h => ?_)
      refine zv_iinc (n := 2) (v := l3 + (1)) (L' := [(3, .int (l3 + (1))), (0, .ref l0), (2, .int l2)]) dX9_lead_78 rfl rfl (Nat.le_of_ble_eq_true rfl) rfl ?_
      refine zv_goto (tgt := 53) dX9_lead_81 (by decide) ?_
      exact zv_fewer [1, 2, 0] rfl (ih _ _ _ _ h)
def mX9_lead_0 (N : Nat) (l0 : Nat) (l1 : Int32) (l2 : Int32) (x : zv_X) : Option zv_X := if l2 < 0 then (mX9_lead_14 N l0 x) else ((zm_R x l0 9 18).bind fun v1 => (zm_aI x v1 l1).bind fun v3 => if l2 < v3 then ((zm_R x l0 9 20).bind fun v5 => (zm_aB x v5 l2).bind fun v7 => if v7 = 0 then ((zm_R x l0 9 20).bind fun v19 => (zm_sB x v19 l2 (1 : Int32)).bind fun x21 => (zm_p x21 l0 9 28 (.int (1 : Int32))).bind fun x23 => (zm_R x23 l0 9 21).bind fun v25 => (zm_I x23 l0 9 25).bind fun v27 => (zm_sI x23 v25 l2 v27).bind fun x29 => mX9_lead_53 N N l0 l2 (0 : Int32) x29) else ((zm_I x l0 9 27).bind fun v9 => if v9 = 0 then (mX9_lead_141 N l0 l2 l0 x) else ((zm_R x l0 9 21).bind fun v11 => (zm_aI x v11 l2).bind fun v13 => (zm_I x l0 9 25).bind fun v15 => if v13 = v15 then (mX9_lead_142 N l0 l2 (1 : Int32) l0 x) else (mX9_lead_141 N l0 l2 l0 x)))) else (mX9_lead_14 N l0 x))
theorem kX9_lead_0 {d : Nat} {x0 : zv_X} {o : zv_X} (hd : 0 ≤ d) {N : Nat} (l0 : Nat) (l1 : Int32) (l2 : Int32) (x : zv_X) (h : mX9_lead_0 N l0 l1 l2 x = some o) : zv_V (fX9_lead d x0 o) 0 [(0, .ref l0), (1, .int l1), (2, .int l2)] [] x := by
  unfold mX9_lead_0 at h
  refine zv_iload_n (n := 2) dX9_lead_0 rfl rfl ?_
  refine zr_if_lt (tgt := 14) dX9_lead_1 (by decide) h (fun c33 h => ?_) (fun c33 h => ?_)
  · exact zv_fewer [0] rfl (kX9_lead_14 hd _ _ h)
  · refine zv_iload_n (n := 2) dX9_lead_4 rfl rfl ?_
    refine zv_aload_n (n := 0) dX9_lead_5 rfl rfl ?_
    refine zr_gR dX9_lead_6 fg_1421 h (fun v1 e2 h => ?_)
    refine zv_iload_n (n := 1) dX9_lead_9 rfl rfl ?_
    refine zr_aI dX9_lead_10 h (fun v3 e4 h => ?_)
    refine zr_icmp_lt (tgt := 20) dX9_lead_11 (by decide) h (fun c32 h => ?_) (fun c32 h => ?_)
    · refine zv_aload_n (n := 0) dX9_lead_20 rfl rfl ?_
      refine zr_gR dX9_lead_21 fg_1423 h (fun v5 e6 h => ?_)
      refine zv_iload_n (n := 2) dX9_lead_24 rfl rfl ?_
      refine zr_aB dX9_lead_25 h (fun v7 e8 h => ?_)
      refine zr_if_ne (tgt := 116) dX9_lead_26 (by decide) h (fun c31 h => ?_) (fun c31 h => ?_)
      · refine zv_aload_n (n := 0) dX9_lead_116 rfl rfl ?_
        refine zv_aload_n (n := 0) dX9_lead_117 rfl rfl ?_
        refine zr_gI dX9_lead_118 fg_1430 h (fun v9 e10 h => ?_)
        refine zr_if_eq (tgt := 141) dX9_lead_121 (by decide) h (fun c18 h => ?_) (fun c18 h => ?_)
        · exact zv_fewer [0, 2] rfl (kX9_lead_141 hd _ _ _ _ h)
        · refine zv_aload_n (n := 0) dX9_lead_124 rfl rfl ?_
          refine zr_gR dX9_lead_125 fg_1424 h (fun v11 e12 h => ?_)
          refine zv_iload_n (n := 2) dX9_lead_128 rfl rfl ?_
          refine zr_aI dX9_lead_129 h (fun v13 e14 h => ?_)
          refine zv_aload_n (n := 0) dX9_lead_130 rfl rfl ?_
          refine zr_gI dX9_lead_131 fg_1428 h (fun v15 e16 h => ?_)
          refine zr_icmp_ne (tgt := 141) dX9_lead_134 (by decide) h (fun c17 h => ?_) (fun c17 h => ?_)
          · exact zv_fewer [0, 2] rfl (kX9_lead_141 hd _ _ _ _ h)
          · refine zv_iconst (v := 1) dX9_lead_137 (by decide) ?_
            refine zv_goto (tgt := 142) dX9_lead_138 (by decide) ?_
            exact zv_fewer [0, 2] rfl (kX9_lead_142 hd _ _ _ _ _ h)
      · refine zv_aload_n (n := 0) dX9_lead_29 rfl rfl ?_
        refine zr_gR dX9_lead_30 fg_1423 h (fun v19 e20 h => ?_)
        refine zv_iload_n (n := 2) dX9_lead_33 rfl rfl ?_
        refine zv_iconst (v := 1) dX9_lead_34 (by decide) ?_
        refine zr_sB dX9_lead_35 h (fun x21 e22 h => ?_)
        refine zv_aload_n (n := 0) dX9_lead_36 rfl rfl ?_
        refine zv_iconst (v := 1) dX9_lead_37 (by decide) ?_
        refine zr_p dX9_lead_38 fl_1431 (fun q => nomatch q) rfl rfl h (fun x23 e24 h => ?_)
        refine zv_aload_n (n := 0) dX9_lead_41 rfl rfl ?_
        refine zr_gR dX9_lead_42 fg_1424 h (fun v25 e26 h => ?_)
        refine zv_iload_n (n := 2) dX9_lead_45 rfl rfl ?_
        refine zv_aload_n (n := 0) dX9_lead_46 rfl rfl ?_
        refine zr_gI dX9_lead_47 fg_1428 h (fun v27 e28 h => ?_)
        refine zr_sI dX9_lead_50 h (fun x29 e30 h => ?_)
        refine zv_iconst (v := 0) dX9_lead_51 (by decide) ?_
        refine zv_istore_n (L' := [(3, .int (0 : Int32)), (0, .ref l0), (1, .int l1), (2, .int l2)]) dX9_lead_52 rfl (Nat.le_of_ble_eq_true rfl) rfl ?_
        exact zv_fewer [1, 3, 0] rfl (kX9_lead_53 hd N _ _ _ _ h)
    · exact zv_fewer [0] rfl (kX9_lead_14 hd _ _ h)
def mX9_lead (N : Nat) (a0 : Nat) (a1 : Int32) (a2 : Int32) (x : zv_X) : Option zv_X := mX9_lead_0 N a0 a1 a2 x
theorem tX9_lead {d : Nat} (hd : 0 ≤ d) {N : Nat} {x : zv_X} {a0 : Nat} {a1 : Int32} {a2 : Int32} {o : zv_X} (h : mX9_lead N a0 a1 a2 x = some o) : zv_T d yX9_lead cX9_lead 5 (none) [.ref a0, .int a1, .int a2] x o none := by
  unfold mX9_lead at h
  exact zv_enter (by decide) (Nat.le_of_ble_eq_true rfl) (kX9_lead_0 hd _ _ _ _ h)

abbrev fX9_length (d : Nat) (x0 : zv_X) (o : (zv_X × Int32)) : zv_G := (d, RX9, cX9_length, 4, (some .int), ("length", []), x0, o.1, zv_fin x0 o.1 (some (.int o.2)))
def mX9_length_55 (N : Nat)  (x : zv_X) : Option (zv_X × Int32) := some (x, (3 : Int32))
theorem kX9_length_55 {d : Nat} {x0 : zv_X} {o : (zv_X × Int32)} (hd : 0 ≤ d) {N : Nat}  (x : zv_X) (h : mX9_length_55 N  x = some o) : zv_V (fX9_length d x0 o) 55 [] [] x := by
  unfold mX9_length_55 at h
  refine zv_iconst (v := 3) dX9_length_55 (by decide) ?_
  cases h
  exact zv_iret dX9_length_56 rfl
def mX9_length_134 (N : Nat)  (x : zv_X) : Option (zv_X × Int32) := some (x, (2 : Int32))
theorem kX9_length_134 {d : Nat} {x0 : zv_X} {o : (zv_X × Int32)} (hd : 0 ≤ d) {N : Nat}  (x : zv_X) (h : mX9_length_134 N  x = some o) : zv_V (fX9_length d x0 o) 134 [] [] x := by
  unfold mX9_length_134 at h
  refine zv_iconst (v := 2) dX9_length_134 (by decide) ?_
  cases h
  exact zv_iret dX9_length_135 rfl
def mX9_length_349 (N : Nat) (s0 : Int32) (x : zv_X) : Option (zv_X × Int32) := some (x, s0)
theorem kX9_length_349 {d : Nat} {x0 : zv_X} {o : (zv_X × Int32)} (hd : 0 ≤ d) {N : Nat} (s0 : Int32) (x : zv_X) (h : mX9_length_349 N s0 x = some o) : zv_V (fX9_length d x0 o) 349 [] [.int s0] x := by
  unfold mX9_length_349 at h
  cases h
  exact zv_iret dX9_length_349 rfl
def mX9_length_344 (N : Nat)  (x : zv_X) : Option (zv_X × Int32) := mX9_length_349 N (1 : Int32) x
theorem kX9_length_344 {d : Nat} {x0 : zv_X} {o : (zv_X × Int32)} (hd : 0 ≤ d) {N : Nat}  (x : zv_X) (h : mX9_length_344 N  x = some o) : zv_V (fX9_length d x0 o) 344 [] [] x := by
  unfold mX9_length_344 at h
  refine zv_iconst (v := 1) dX9_length_344 (by decide) ?_
  refine zv_goto (tgt := 349) dX9_length_345 (by decide) ?_
  exact kX9_length_349 hd _ _ h
def mX9_length_331 (N : Nat) (l1 : Int32) (l2 : Int32) (s0 : Int32) (x : zv_X) : Option (zv_X × Int32) := if l1 = 0 then (if l2 = 0 then (if s0 = 0 then (mX9_length_349 N (0 : Int32) x) else (mX9_length_344 N x)) else (mX9_length_344 N x)) else (mX9_length_344 N x)
theorem kX9_length_331 {d : Nat} {x0 : zv_X} {o : (zv_X × Int32)} (hd : 0 ≤ d) {N : Nat} (l1 : Int32) (l2 : Int32) (s0 : Int32) (x : zv_X) (h : mX9_length_331 N l1 l2 s0 x = some o) : zv_V (fX9_length d x0 o) 331 [(1, .int l1), (2, .int l2)] [.int s0] x := by
  unfold mX9_length_331 at h
  refine zv_istore_n (L' := [(3, .int s0), (1, .int l1), (2, .int l2)]) dX9_length_331 rfl (Nat.le_of_ble_eq_true rfl) rfl ?_
  refine zv_iload_n (n := 1) dX9_length_332 rfl rfl ?_
  refine zr_if_ne (tgt := 344) dX9_length_333 (by decide) h (fun c3 h => ?_) (fun c3 h => ?_)
  · exact zv_fewer [] rfl (kX9_length_344 hd _ h)
  · refine zv_iload_n (n := 2) dX9_length_336 rfl rfl ?_
    refine zr_if_ne (tgt := 344) dX9_length_337 (by decide) h (fun c2 h => ?_) (fun c2 h => ?_)
    · exact zv_fewer [] rfl (kX9_length_344 hd _ h)
    · refine zv_iload_n (n := 0) dX9_length_340 rfl rfl ?_
      refine zr_if_eq (tgt := 348) dX9_length_341 (by decide) h (fun c1 h => ?_) (fun c1 h => ?_)
      · refine zv_iconst (v := 0) dX9_length_348 (by decide) ?_
        exact zv_fewer [] rfl (kX9_length_349 hd _ _ h)
      · exact zv_fewer [] rfl (kX9_length_344 hd _ h)
def mX9_length_326 (N : Nat) (l1 : Int32) (l2 : Int32) (x : zv_X) : Option (zv_X × Int32) := mX9_length_331 N l1 l2 (1 : Int32) x
theorem kX9_length_326 {d : Nat} {x0 : zv_X} {o : (zv_X × Int32)} (hd : 0 ≤ d) {N : Nat} (l1 : Int32) (l2 : Int32) (x : zv_X) (h : mX9_length_326 N l1 l2 x = some o) : zv_V (fX9_length d x0 o) 326 [(1, .int l1), (2, .int l2)] [] x := by
  unfold mX9_length_326 at h
  refine zv_iconst (v := 1) dX9_length_326 (by decide) ?_
  refine zv_goto (tgt := 331) dX9_length_327 (by decide) ?_
  exact kX9_length_331 hd _ _ _ _ h
def mX9_length_330 (N : Nat) (l1 : Int32) (l2 : Int32) (x : zv_X) : Option (zv_X × Int32) := mX9_length_331 N l1 l2 (0 : Int32) x
theorem kX9_length_330 {d : Nat} {x0 : zv_X} {o : (zv_X × Int32)} (hd : 0 ≤ d) {N : Nat} (l1 : Int32) (l2 : Int32) (x : zv_X) (h : mX9_length_330 N l1 l2 x = some o) : zv_V (fX9_length d x0 o) 330 [(1, .int l1), (2, .int l2)] [] x := by
  unfold mX9_length_330 at h
  refine zv_iconst (v := 0) dX9_length_330 (by decide) ?_
  exact kX9_length_331 hd _ _ _ _ h
def mX9_length_283 (N : Nat) (l0 : Int32) (l1 : Int32) (s0 : Int32) (x : zv_X) : Option (zv_X × Int32) := if l0 = (172 : Int32) then (mX9_length_326 N l1 s0 x) else (if l0 = (173 : Int32) then (mX9_length_326 N l1 s0 x) else (if l0 = (176 : Int32) then (mX9_length_326 N l1 s0 x) else (if l0 = (177 : Int32) then (mX9_length_326 N l1 s0 x) else (if l0 < (189 : Int32) then (mX9_length_330 N l1 s0 x) else (if (191 : Int32) < l0 then (mX9_length_330 N l1 s0 x) else (mX9_length_326 N l1 s0 x))))))
theorem kX9_length_283 {d : Nat} {x0 : zv_X} {o : (zv_X × Int32)} (hd : 0 ≤ d) {N : Nat} (l0 : Int32) (l1 : Int32) (s0 : Int32) (x : zv_X) (h : mX9_length_283 N l0 l1 s0 x = some o) : zv_V (fX9_length d x0 o) 283 [(0, .int l0), (1, .int l1)] [.int s0] x := by
  unfold mX9_length_283 at h
  refine zv_istore_n (L' := [(2, .int s0), (0, .int l0), (1, .int l1)]) dX9_length_283 rfl (Nat.le_of_ble_eq_true rfl) rfl ?_
  refine zv_iload_n (n := 1) dX9_length_284 rfl rfl ?_
  refine zv_sipush (v := 172) dX9_length_285 (by decide) ?_
  refine zr_icmp_eq (tgt := 326) dX9_length_288 (by decide) h (fun c6 h => ?_) (fun c6 h => ?_)
  · exact zv_fewer [2, 0] rfl (kX9_length_326 hd _ _ _ h)
  · refine zv_iload_n (n := 1) dX9_length_291 rfl rfl ?_
    refine zv_sipush (v := 173) dX9_length_292 (by decide) ?_
    refine zr_icmp_eq (tgt := 326) dX9_length_295 (by decide) h (fun c5 h => ?_) (fun c5 h => ?_)
    · exact zv_fewer [2, 0] rfl (kX9_length_326 hd _ _ _ h)
    · refine zv_iload_n (n := 1) dX9_length_298 rfl rfl ?_
      refine zv_sipush (v := 176) dX9_length_299 (by decide) ?_
      refine zr_icmp_eq (tgt := 326) dX9_length_302 (by decide) h (fun c4 h => ?_) (fun c4 h => ?_)
      · exact zv_fewer [2, 0] rfl (kX9_length_326 hd _ _ _ h)
      · refine zv_iload_n (n := 1) dX9_length_305 rfl rfl ?_
        refine zv_sipush (v := 177) dX9_length_306 (by decide) ?_
        refine zr_icmp_eq (tgt := 326) dX9_length_309 (by decide) h (fun c3 h => ?_) (fun c3 h => ?_)
        · exact zv_fewer [2, 0] rfl (kX9_length_326 hd _ _ _ h)
        · refine zv_iload_n (n := 1) dX9_length_312 rfl rfl ?_
          refine zv_sipush (v := 189) dX9_length_313 (by decide) ?_
          refine zr_icmp_lt (tgt := 330) dX9_length_316 (by decide) h (fun c2 h => ?_) (fun c2 h => ?_)
          · exact zv_fewer [2, 0] rfl (kX9_length_330 hd _ _ _ h)
          · refine zv_iload_n (n := 1) dX9_length_319 rfl rfl ?_
            refine zv_sipush (v := 191) dX9_length_320 (by decide) ?_
            refine zr_icmp_gt (tgt := 330) dX9_length_323 (by decide) h (fun c1 h => ?_) (fun c1 h => ?_)
            · exact zv_fewer [2, 0] rfl (kX9_length_330 hd _ _ _ h)
            · exact zv_fewer [2, 0] rfl (kX9_length_326 hd _ _ _ h)
def mX9_length_278 (N : Nat) (l0 : Int32) (l1 : Int32) (x : zv_X) : Option (zv_X × Int32) := mX9_length_283 N l0 l1 (1 : Int32) x
theorem kX9_length_278 {d : Nat} {x0 : zv_X} {o : (zv_X × Int32)} (hd : 0 ≤ d) {N : Nat} (l0 : Int32) (l1 : Int32) (x : zv_X) (h : mX9_length_278 N l0 l1 x = some o) : zv_V (fX9_length d x0 o) 278 [(0, .int l0), (1, .int l1)] [] x := by
  unfold mX9_length_278 at h
  refine zv_iconst (v := 1) dX9_length_278 (by decide) ?_
  refine zv_goto (tgt := 283) dX9_length_279 (by decide) ?_
  exact kX9_length_283 hd _ _ _ _ h
def mX9_length_282 (N : Nat) (l0 : Int32) (l1 : Int32) (x : zv_X) : Option (zv_X × Int32) := mX9_length_283 N l0 l1 (0 : Int32) x
theorem kX9_length_282 {d : Nat} {x0 : zv_X} {o : (zv_X × Int32)} (hd : 0 ≤ d) {N : Nat} (l0 : Int32) (l1 : Int32) (x : zv_X) (h : mX9_length_282 N l0 l1 x = some o) : zv_V (fX9_length d x0 o) 282 [(0, .int l0), (1, .int l1)] [] x := by
  unfold mX9_length_282 at h
  refine zv_iconst (v := 0) dX9_length_282 (by decide) ?_
  exact kX9_length_283 hd _ _ _ _ h
def mX9_length_250 (N : Nat) (l0 : Int32) (l1 : Int32) (x : zv_X) : Option (zv_X × Int32) := if l0 = (133 : Int32) then (mX9_length_278 N l0 l1 x) else (if l0 = (136 : Int32) then (mX9_length_278 N l0 l1 x) else (if l0 < (145 : Int32) then (mX9_length_282 N l0 l1 x) else (if (148 : Int32) < l0 then (mX9_length_282 N l0 l1 x) else (mX9_length_278 N l0 l1 x))))
theorem kX9_length_250 {d : Nat} {x0 : zv_X} {o : (zv_X × Int32)} (hd : 0 ≤ d) {N : Nat} (l0 : Int32) (l1 : Int32) (x : zv_X) (h : mX9_length_250 N l0 l1 x = some o) : zv_V (fX9_length d x0 o) 250 [(0, .int l0), (1, .int l1)] [] x := by
  unfold mX9_length_250 at h
  refine zv_iload_n (n := 0) dX9_length_250 rfl rfl ?_
  refine zv_sipush (v := 133) dX9_length_251 (by decide) ?_
  refine zr_icmp_eq (tgt := 278) dX9_length_254 (by decide) h (fun c4 h => ?_) (fun c4 h => ?_)
  · exact kX9_length_278 hd _ _ _ h
  · refine zv_iload_n (n := 0) dX9_length_257 rfl rfl ?_
    refine zv_sipush (v := 136) dX9_length_258 (by decide) ?_
    refine zr_icmp_eq (tgt := 278) dX9_length_261 (by decide) h (fun c3 h => ?_) (fun c3 h => ?_)
    · exact kX9_length_278 hd _ _ _ h
    · refine zv_iload_n (n := 0) dX9_length_264 rfl rfl ?_
      refine zv_sipush (v := 145) dX9_length_265 (by decide) ?_
      refine zr_icmp_lt (tgt := 282) dX9_length_268 (by decide) h (fun c2 h => ?_) (fun c2 h => ?_)
      · exact kX9_length_282 hd _ _ _ h
      · refine zv_iload_n (n := 0) dX9_length_271 rfl rfl ?_
        refine zv_sipush (v := 148) dX9_length_272 (by decide) ?_
        refine zr_icmp_gt (tgt := 282) dX9_length_275 (by decide) h (fun c1 h => ?_) (fun c1 h => ?_)
        · exact kX9_length_282 hd _ _ _ h
        · exact kX9_length_278 hd _ _ _ h
def mX9_length_237 (N : Nat) (l0 : Int32) (l1 : Int32) (x : zv_X) : Option (zv_X × Int32) := if l0 < (120 : Int32) then (mX9_length_250 N l0 l1 x) else (if l0 ≤ (131 : Int32) then (mX9_length_278 N l0 l1 x) else (mX9_length_250 N l0 l1 x))
theorem kX9_length_237 {d : Nat} {x0 : zv_X} {o : (zv_X × Int32)} (hd : 0 ≤ d) {N : Nat} (l0 : Int32) (l1 : Int32) (x : zv_X) (h : mX9_length_237 N l0 l1 x = some o) : zv_V (fX9_length d x0 o) 237 [(0, .int l0), (1, .int l1)] [] x := by
  unfold mX9_length_237 at h
  refine zv_iload_n (n := 0) dX9_length_237 rfl rfl ?_
  refine zv_bipush (v := 120) dX9_length_238 (by decide) ?_
  refine zr_icmp_lt (tgt := 250) dX9_length_240 (by decide) h (fun c2 h => ?_) (fun c2 h => ?_)
  · exact kX9_length_250 hd _ _ _ h
  · refine zv_iload_n (n := 0) dX9_length_243 rfl rfl ?_
    refine zv_sipush (v := 131) dX9_length_244 (by decide) ?_
    refine zr_icmp_le (tgt := 278) dX9_length_247 (by decide) h (fun c1 h => ?_) (fun c1 h => ?_)
    · exact kX9_length_278 hd _ _ _ h
    · exact kX9_length_250 hd _ _ _ h
def mX9_length_217 (N : Nat) (l0 : Int32) (s0 : Int32) (x : zv_X) : Option (zv_X × Int32) := if l0 < (96 : Int32) then (mX9_length_237 N l0 s0 x) else (if (117 : Int32) < l0 then (mX9_length_237 N l0 s0 x) else (if (l0 - l0 / (4 : Int32) * (4 : Int32)) < (2 : Int32) then (mX9_length_278 N l0 s0 x) else (mX9_length_237 N l0 s0 x)))
theorem kX9_length_217 {d : Nat} {x0 : zv_X} {o : (zv_X × Int32)} (hd : 0 ≤ d) {N : Nat} (l0 : Int32) (s0 : Int32) (x : zv_X) (h : mX9_length_217 N l0 s0 x = some o) : zv_V (fX9_length d x0 o) 217 [(0, .int l0)] [.int s0] x := by
  unfold mX9_length_217 at h
  refine zv_istore_n (L' := [(1, .int s0), (0, .int l0)]) dX9_length_217 rfl (Nat.le_of_ble_eq_true rfl) rfl ?_
  refine zv_iload_n (n := 1) dX9_length_218 rfl rfl ?_
  refine zv_bipush (v := 96) dX9_length_219 (by decide) ?_
  refine zr_icmp_lt (tgt := 237) dX9_length_221 (by decide) h (fun c3 h => ?_) (fun c3 h => ?_)
  · exact zv_fewer [1, 0] rfl (kX9_length_237 hd _ _ _ h)
  · refine zv_iload_n (n := 1) dX9_length_224 rfl rfl ?_
    refine zv_bipush (v := 117) dX9_length_225 (by decide) ?_
    refine zr_icmp_gt (tgt := 237) dX9_length_227 (by decide) h (fun c2 h => ?_) (fun c2 h => ?_)
    · exact zv_fewer [1, 0] rfl (kX9_length_237 hd _ _ _ h)
    · refine zv_iload_n (n := 1) dX9_length_230 rfl rfl ?_
      refine zv_iconst (v := 4) dX9_length_231 (by decide) ?_
      refine zv_irem dX9_length_232 (by decide) ?_
      refine zv_iconst (v := 2) dX9_length_233 (by decide) ?_
      refine zr_icmp_lt (tgt := 278) dX9_length_234 (by decide) h (fun c1 h => ?_) (fun c1 h => ?_)
      · exact zv_fewer [1, 0] rfl (kX9_length_278 hd _ _ _ h)
      · exact zv_fewer [1, 0] rfl (kX9_length_237 hd _ _ _ h)
def mX9_length_212 (N : Nat) (l0 : Int32) (x : zv_X) : Option (zv_X × Int32) := mX9_length_217 N l0 (1 : Int32) x
theorem kX9_length_212 {d : Nat} {x0 : zv_X} {o : (zv_X × Int32)} (hd : 0 ≤ d) {N : Nat} (l0 : Int32) (x : zv_X) (h : mX9_length_212 N l0 x = some o) : zv_V (fX9_length d x0 o) 212 [(0, .int l0)] [] x := by
  unfold mX9_length_212 at h
  refine zv_iconst (v := 1) dX9_length_212 (by decide) ?_
  refine zv_goto (tgt := 217) dX9_length_213 (by decide) ?_
  exact kX9_length_217 hd _ _ _ h
def mX9_length_206 (N : Nat) (l0 : Int32) (x : zv_X) : Option (zv_X × Int32) := if l0 = (95 : Int32) then (mX9_length_212 N l0 x) else (mX9_length_217 N l0 (0 : Int32) x)
theorem kX9_length_206 {d : Nat} {x0 : zv_X} {o : (zv_X × Int32)} (hd : 0 ≤ d) {N : Nat} (l0 : Int32) (x : zv_X) (h : mX9_length_206 N l0 x = some o) : zv_V (fX9_length d x0 o) 206 [(0, .int l0)] [] x := by
  unfold mX9_length_206 at h
  refine zv_iload_n (n := 0) dX9_length_206 rfl rfl ?_
  refine zv_bipush (v := 95) dX9_length_207 (by decide) ?_
  refine zr_icmp_ne (tgt := 216) dX9_length_209 (by decide) h (fun c1 h => ?_) (fun c1 h => ?_)
  · refine zv_iconst (v := 0) dX9_length_216 (by decide) ?_
    exact kX9_length_217 hd _ _ _ h
  · exact kX9_length_212 hd _ _ h
def mX9_length_194 (N : Nat) (l0 : Int32) (x : zv_X) : Option (zv_X × Int32) := if l0 < (87 : Int32) then (mX9_length_206 N l0 x) else (if l0 ≤ (89 : Int32) then (mX9_length_212 N l0 x) else (mX9_length_206 N l0 x))
theorem kX9_length_194 {d : Nat} {x0 : zv_X} {o : (zv_X × Int32)} (hd : 0 ≤ d) {N : Nat} (l0 : Int32) (x : zv_X) (h : mX9_length_194 N l0 x = some o) : zv_V (fX9_length d x0 o) 194 [(0, .int l0)] [] x := by
  unfold mX9_length_194 at h
  refine zv_iload_n (n := 0) dX9_length_194 rfl rfl ?_
  refine zv_bipush (v := 87) dX9_length_195 (by decide) ?_
  refine zr_icmp_lt (tgt := 206) dX9_length_197 (by decide) h (fun c2 h => ?_) (fun c2 h => ?_)
  · exact kX9_length_206 hd _ _ h
  · refine zv_iload_n (n := 0) dX9_length_200 rfl rfl ?_
    refine zv_bipush (v := 89) dX9_length_201 (by decide) ?_
    refine zr_icmp_le (tgt := 212) dX9_length_203 (by decide) h (fun c1 h => ?_) (fun c1 h => ?_)
    · exact kX9_length_212 hd _ _ h
    · exact kX9_length_206 hd _ _ h
def mX9_length_170 (N : Nat) (l0 : Int32) (x : zv_X) : Option (zv_X × Int32) := if l0 < (79 : Int32) then (mX9_length_194 N l0 x) else (if (86 : Int32) < l0 then (mX9_length_194 N l0 x) else (if l0 = (81 : Int32) then (mX9_length_194 N l0 x) else (if l0 = (82 : Int32) then (mX9_length_194 N l0 x) else (mX9_length_212 N l0 x))))
theorem kX9_length_170 {d : Nat} {x0 : zv_X} {o : (zv_X × Int32)} (hd : 0 ≤ d) {N : Nat} (l0 : Int32) (x : zv_X) (h : mX9_length_170 N l0 x = some o) : zv_V (fX9_length d x0 o) 170 [(0, .int l0)] [] x := by
  unfold mX9_length_170 at h
  refine zv_iload_n (n := 0) dX9_length_170 rfl rfl ?_
  refine zv_bipush (v := 79) dX9_length_171 (by decide) ?_
  refine zr_icmp_lt (tgt := 194) dX9_length_173 (by decide) h (fun c4 h => ?_) (fun c4 h => ?_)
  · exact kX9_length_194 hd _ _ h
  · refine zv_iload_n (n := 0) dX9_length_176 rfl rfl ?_
    refine zv_bipush (v := 86) dX9_length_177 (by decide) ?_
    refine zr_icmp_gt (tgt := 194) dX9_length_179 (by decide) h (fun c3 h => ?_) (fun c3 h => ?_)
    · exact kX9_length_194 hd _ _ h
    · refine zv_iload_n (n := 0) dX9_length_182 rfl rfl ?_
      refine zv_bipush (v := 81) dX9_length_183 (by decide) ?_
      refine zr_icmp_eq (tgt := 194) dX9_length_185 (by decide) h (fun c2 h => ?_) (fun c2 h => ?_)
      · exact kX9_length_194 hd _ _ h
      · refine zv_iload_n (n := 0) dX9_length_188 rfl rfl ?_
        refine zv_bipush (v := 82) dX9_length_189 (by decide) ?_
        refine zr_icmp_ne (tgt := 212) dX9_length_191 (by decide) h (fun c1 h => ?_) (fun c1 h => ?_)
        · exact kX9_length_212 hd _ _ h
        · exact kX9_length_194 hd _ _ h
def mX9_length_146 (N : Nat) (l0 : Int32) (x : zv_X) : Option (zv_X × Int32) := if l0 < (46 : Int32) then (mX9_length_170 N l0 x) else (if (53 : Int32) < l0 then (mX9_length_170 N l0 x) else (if l0 = (48 : Int32) then (mX9_length_170 N l0 x) else (if l0 = (49 : Int32) then (mX9_length_170 N l0 x) else (mX9_length_212 N l0 x))))
theorem kX9_length_146 {d : Nat} {x0 : zv_X} {o : (zv_X × Int32)} (hd : 0 ≤ d) {N : Nat} (l0 : Int32) (x : zv_X) (h : mX9_length_146 N l0 x = some o) : zv_V (fX9_length d x0 o) 146 [(0, .int l0)] [] x := by
  unfold mX9_length_146 at h
  refine zv_iload_n (n := 0) dX9_length_146 rfl rfl ?_
  refine zv_bipush (v := 46) dX9_length_147 (by decide) ?_
  refine zr_icmp_lt (tgt := 170) dX9_length_149 (by decide) h (fun c4 h => ?_) (fun c4 h => ?_)
  · exact kX9_length_170 hd _ _ h
  · refine zv_iload_n (n := 0) dX9_length_152 rfl rfl ?_
    refine zv_bipush (v := 53) dX9_length_153 (by decide) ?_
    refine zr_icmp_gt (tgt := 170) dX9_length_155 (by decide) h (fun c3 h => ?_) (fun c3 h => ?_)
    · exact kX9_length_170 hd _ _ h
    · refine zv_iload_n (n := 0) dX9_length_158 rfl rfl ?_
      refine zv_bipush (v := 48) dX9_length_159 (by decide) ?_
      refine zr_icmp_eq (tgt := 170) dX9_length_161 (by decide) h (fun c2 h => ?_) (fun c2 h => ?_)
      · exact kX9_length_170 hd _ _ h
      · refine zv_iload_n (n := 0) dX9_length_164 rfl rfl ?_
        refine zv_bipush (v := 49) dX9_length_165 (by decide) ?_
        refine zr_icmp_ne (tgt := 212) dX9_length_167 (by decide) h (fun c1 h => ?_) (fun c1 h => ?_)
        · exact kX9_length_212 hd _ _ h
        · exact kX9_length_170 hd _ _ h
def mX9_length_14 (N : Nat) (l0 : Int32) (x : zv_X) : Option (zv_X × Int32) := if l0 = (198 : Int32) then (mX9_length_55 N x) else (if l0 = (199 : Int32) then (mX9_length_55 N x) else (if l0 = (17 : Int32) then (mX9_length_55 N x) else (if l0 = (132 : Int32) then (mX9_length_55 N x) else (if l0 = (180 : Int32) then (mX9_length_55 N x) else (if l0 = (181 : Int32) then (mX9_length_55 N x) else (if l0 = (16 : Int32) then (mX9_length_134 N x) else (if l0 = (21 : Int32) then (mX9_length_134 N x) else (if l0 = (22 : Int32) then (mX9_length_134 N x) else (if l0 = (25 : Int32) then (mX9_length_134 N x) else (if l0 = (54 : Int32) then (mX9_length_134 N x) else (if l0 = (55 : Int32) then (mX9_length_134 N x) else (if l0 = (58 : Int32) then (mX9_length_134 N x) else (if l0 = (184 : Int32) then (mX9_length_134 N x) else (if l0 = (187 : Int32) then (mX9_length_134 N x) else (if l0 = (188 : Int32) then (mX9_length_134 N x) else (if l0 = (192 : Int32) then (mX9_length_134 N x) else (if l0 = (193 : Int32) then (mX9_length_134 N x) else (if l0 < 0 then (mX9_length_146 N l0 x) else (if l0 ≤ (10 : Int32) then (mX9_length_212 N l0 x) else (mX9_length_146 N l0 x))))))))))))))))))))
theorem kX9_length_14 {d : Nat} {x0 : zv_X} {o : (zv_X × Int32)} (hd : 0 ≤ d) {N : Nat} (l0 : Int32) (x : zv_X) (h : mX9_length_14 N l0 x = some o) : zv_V (fX9_length d x0 o) 14 [(0, .int l0)] [] x := by
  unfold mX9_length_14 at h
  refine zv_iload_n (n := 0) dX9_length_14 rfl rfl ?_
  refine zv_sipush (v := 198) dX9_length_15 (by decide) ?_
  refine zr_icmp_eq (tgt := 55) dX9_length_18 (by decide) h (fun c20 h => ?_) (fun c20 h => ?_)
  · exact zv_fewer [] rfl (kX9_length_55 hd _ h)
  · refine zv_iload_n (n := 0) dX9_length_21 rfl rfl ?_
    refine zv_sipush (v := 199) dX9_length_22 (by decide) ?_
    refine zr_icmp_eq (tgt := 55) dX9_length_25 (by decide) h (fun c19 h => ?_) (fun c19 h => ?_)
    · exact zv_fewer [] rfl (kX9_length_55 hd _ h)
    · refine zv_iload_n (n := 0) dX9_length_28 rfl rfl ?_
      refine zv_bipush (v := 17) dX9_length_29 (by decide) ?_
      refine zr_icmp_eq (tgt := 55) dX9_length_31 (by decide) h (fun c18 h => ?_) (fun c18 h => ?_)
      · exact zv_fewer [] rfl (kX9_length_55 hd _ h)
      · refine zv_iload_n (n := 0) dX9_length_34 rfl rfl ?_
        refine zv_sipush (v := 132) dX9_length_35 (by decide) ?_
        refine zr_icmp_eq (tgt := 55) dX9_length_38 (by decide) h (fun c17 h => ?_) (fun c17 h => ?_)
        · exact zv_fewer [] rfl (kX9_length_55 hd _ h)
        · refine zv_iload_n (n := 0) dX9_length_41 rfl rfl ?_
          refine zv_sipush (v := 180) dX9_length_42 (by decide) ?_
          refine zr_icmp_eq (tgt := 55) dX9_length_45 (by decide) h (fun c16 h => ?_) (fun c16 h => ?_)
          · exact zv_fewer [] rfl (kX9_length_55 hd _ h)
          · refine zv_iload_n (n := 0) dX9_length_48 rfl rfl ?_
            refine zv_sipush (v := 181) dX9_length_49 (by decide) ?_
            refine zr_icmp_ne (tgt := 57) dX9_length_52 (by decide) h (fun c15 h => ?_) (fun c15 h => ?_)
            · refine zv_iload_n (n := 0) dX9_length_57 rfl rfl ?_
              refine zv_bipush (v := 16) dX9_length_58 (by decide) ?_
              refine zr_icmp_eq (tgt := 134) dX9_length_60 (by decide) h (fun c14 h => ?_) (fun c14 h => ?_)
              · exact zv_fewer [] rfl (kX9_length_134 hd _ h)
              · refine zv_iload_n (n := 0) dX9_length_63 rfl rfl ?_
                refine zv_bipush (v := 21) dX9_length_64 (by decide) ?_
                refine zr_icmp_eq (tgt := 134) dX9_length_66 (by decide) h (fun c13 h => ?_) (fun c13 h => ?_)
                · exact zv_fewer [] rfl (kX9_length_134 hd _ h)
                · refine zv_iload_n (n := 0) dX9_length_69 rfl rfl ?_
                  refine zv_bipush (v := 22) dX9_length_70 (by decide) ?_
                  refine zr_icmp_eq (tgt := 134) dX9_length_72 (by decide) h (fun c12 h => ?_) (fun c12 h => ?_)
                  · exact zv_fewer [] rfl (kX9_length_134 hd _ h)
                  · refine zv_iload_n (n := 0) dX9_length_75 rfl rfl ?_
                    refine zv_bipush (v := 25) dX9_length_76 (by decide) ?_
                    refine zr_icmp_eq (tgt := 134) dX9_length_78 (by decide) h (fun c11 h => ?_) (fun c11 h => ?_)
                    · exact zv_fewer [] rfl (kX9_length_134 hd _ h)
                    · refine zv_iload_n (n := 0) dX9_length_81 rfl rfl ?_
                      refine zv_bipush (v := 54) dX9_length_82 (by decide) ?_
                      refine zr_icmp_eq (tgt := 134) dX9_length_84 (by decide) h (fun c10 h => ?_) (fun c10 h => ?_)
                      · exact zv_fewer [] rfl (kX9_length_134 hd _ h)
                      · refine zv_iload_n (n := 0) dX9_length_87 rfl rfl ?_
                        refine zv_bipush (v := 55) dX9_length_88 (by decide) ?_
                        refine zr_icmp_eq (tgt := 134) dX9_length_90 (by decide) h (fun c9 h => ?_) (fun c9 h => ?_)
                        · exact zv_fewer [] rfl (kX9_length_134 hd _ h)
                        · refine zv_iload_n (n := 0) dX9_length_93 rfl rfl ?_
                          refine zv_bipush (v := 58) dX9_length_94 (by decide) ?_
                          refine zr_icmp_eq (tgt := 134) dX9_length_96 (by decide) h (fun c8 h => ?_) (fun c8 h => ?_)
                          · exact zv_fewer [] rfl (kX9_length_134 hd _ h)
                          · refine zv_iload_n (n := 0) dX9_length_99 rfl rfl ?_
                            refine zv_sipush (v := 184) dX9_length_100 (by decide) ?_
                            refine zr_icmp_eq (tgt := 134) dX9_length_103 (by decide) h (fun c7 h => ?_) (fun c7 h => ?_)
                            · exact zv_fewer [] rfl (kX9_length_134 hd _ h)
                            · refine zv_iload_n (n := 0) dX9_length_106 rfl rfl ?_
                              refine zv_sipush (v := 187) dX9_length_107 (by decide) ?_
                              refine zr_icmp_eq (tgt := 134) dX9_length_110 (by decide) h (fun c6 h => ?_) (fun c6 h => ?_)
                              · exact zv_fewer [] rfl (kX9_length_134 hd _ h)
                              · refine zv_iload_n (n := 0) dX9_length_113 rfl rfl ?_
                                refine zv_sipush (v := 188) dX9_length_114 (by decide) ?_
                                refine zr_icmp_eq (tgt := 134) dX9_length_117 (by decide) h (fun c5 h => ?_) (fun c5 h => ?_)
                                · exact zv_fewer [] rfl (kX9_length_134 hd _ h)
                                · refine zv_iload_n (n := 0) dX9_length_120 rfl rfl ?_
                                  refine zv_sipush (v := 192) dX9_length_121 (by decide) ?_
                                  refine zr_icmp_eq (tgt := 134) dX9_length_124 (by decide) h (fun c4 h => ?_) (fun c4 h => ?_)
                                  · exact zv_fewer [] rfl (kX9_length_134 hd _ h)
                                  · refine zv_iload_n (n := 0) dX9_length_127 rfl rfl ?_
                                    refine zv_sipush (v := 193) dX9_length_128 (by decide) ?_
                                    refine zr_icmp_ne (tgt := 136) dX9_length_131 (by decide) h (fun c3 h => ?_) (fun c3 h => ?_)
                                    · refine zv_iload_n (n := 0) dX9_length_136 rfl rfl ?_
                                      refine zr_if_lt (tgt := 146) dX9_length_137 (by decide) h (fun c2 h => ?_) (fun c2 h => ?_)
                                      · exact kX9_length_146 hd _ _ h
                                      · refine zv_iload_n (n := 0) dX9_length_140 rfl rfl ?_
                                        refine zv_bipush (v := 10) dX9_length_141 (by decide) ?_
                                        refine zr_icmp_le (tgt := 212) dX9_length_143 (by decide) h (fun c1 h => ?_) (fun c1 h => ?_)
                                        · exact kX9_length_212 hd _ _ h
                                        · exact kX9_length_146 hd _ _ h
                                    · exact zv_fewer [] rfl (kX9_length_134 hd _ h)
            · exact zv_fewer [] rfl (kX9_length_55 hd _ h)
def mX9_length_0 (N : Nat) (l0 : Int32) (x : zv_X) : Option (zv_X × Int32) := if l0 < (153 : Int32) then (mX9_length_14 N l0 x) else (if l0 ≤ (167 : Int32) then (mX9_length_55 N x) else (mX9_length_14 N l0 x))
theorem kX9_length_0 {d : Nat} {x0 : zv_X} {o : (zv_X × Int32)} (hd : 0 ≤ d) {N : Nat} (l0 : Int32) (x : zv_X) (h : mX9_length_0 N l0 x = some o) : zv_V (fX9_length d x0 o) 0 [(0, .int l0)] [] x := by
  unfold mX9_length_0 at h
  refine zv_iload_n (n := 0) dX9_length_0 rfl rfl ?_
  refine zv_sipush (v := 153) dX9_length_1 (by decide) ?_
  refine zr_icmp_lt (tgt := 14) dX9_length_4 (by decide) h (fun c2 h => ?_) (fun c2 h => ?_)
  · exact kX9_length_14 hd _ _ h
  · refine zv_iload_n (n := 0) dX9_length_7 rfl rfl ?_
    refine zv_sipush (v := 167) dX9_length_8 (by decide) ?_
    refine zr_icmp_le (tgt := 55) dX9_length_11 (by decide) h (fun c1 h => ?_) (fun c1 h => ?_)
    · exact zv_fewer [] rfl (kX9_length_55 hd _ h)
    · exact kX9_length_14 hd _ _ h
def mX9_length (N : Nat) (a0 : Int32) (x : zv_X) : Option (zv_X × Int32) := mX9_length_0 N a0 x
theorem tX9_length {d : Nat} (hd : 0 ≤ d) {N : Nat} {x : zv_X} {a0 : Int32} {o : (zv_X × Int32)} (h : mX9_length N a0 x = some o) : zv_T d yX9_length cX9_length 4 ((some .int)) [.int a0] x o.1 (some (.int o.2)) := by
  unfold mX9_length at h
  exact zv_enter (by decide) (Nat.le_of_ble_eq_true rfl) (kX9_length_0 hd _ _ h)

abbrev fX9_take (d : Nat) (x0 : zv_X) (o : zv_X) : zv_G := (d, RX9, cX9_take, 3, none, ("take", []), x0, o, zv_fin x0 o none)
def mX9_take_45 (N : Nat) : Nat → Nat → Int32 → Int32 → zv_X → Option zv_X
  | 0, _, _, _, _ => none
  | n + 1, l0, l1, l2, x => if (16 : Int32) ≤ l2 then (some x) else ((zm_R x l0 9 26).bind fun v1 => (zm_R x l0 9 23).bind fun v3 => (zm_aI x v3 (((16 : Int32) * l1) + l2)).bind fun v5 => (zm_sI x v1 l2 v5).bind fun x7 => mX9_take_45 N n l0 l1 (l2 + (1)) x7)
theorem kX9_take_45 {d : Nat} {x0 : zv_X} {o : zv_X} (hd : 0 ≤ d) {N : Nat} : ∀ (n : Nat) (l0 : Nat) (l1 : Int32) (l2 : Int32) (x : zv_X), mX9_take_45 N n l0 l1 l2 x = some o → zv_V (fX9_take d x0 o) 45 [(0, .ref l0), (1, .int l1), (2, .int l2)] [] x := by
  intro n
  induction n with
  | zero => intro l0 l1 l2 x h; cases h
  | succ n ih =>
    intro l0 l1 l2 x h
    unfold mX9_take_45 at h
    refine zv_iload_n (n := 2) dX9_take_45 rfl rfl ?_
    refine zv_bipush (v := 16) dX9_take_46 (by decide) ?_
    refine zr_icmp_ge (tgt := 74) dX9_take_48 (by decide) h (fun c9 h => ?_) (fun c9 h => ?_)
    · cases h
      exact zv_vret dX9_take_74 rfl
    · refine zv_aload_n (n := 0) dX9_take_51 rfl rfl ?_
      refine zr_gR dX9_take_52 fg_1429 h (fun v1 e2 h => ?_)
      refine zv_iload_n (n := 2) dX9_take_55 rfl rfl ?_
      refine zv_aload_n (n := 0) dX9_take_56 rfl rfl ?_
      refine zr_gR dX9_take_57 fg_1426 h (fun v3 e4 h => ?_)
      refine zv_bipush (v := 16) dX9_take_60 (by decide) ?_
      refine zv_iload_n (n := 1) dX9_take_62 rfl rfl ?_
      refine zv_imul dX9_take_63 ?_
      refine zv_iload_n (n := 2) dX9_take_64 rfl rfl ?_
      refine zv_iadd dX9_take_65 ?_
      refine zr_aI dX9_take_66 h (fun v5 e6 h => ?_)
      refine zr_sI dX9_take_67 h (fun x7 e8 h => ?_)
      refine zv_iinc (n := 2) (v := l2 + (1)) (L' := [(2, .int (l2 + (1))), (0, .ref l0), (1, .int l1)]) dX9_take_68 rfl rfl (Nat.le_of_ble_eq_true rfl) rfl ?_
      refine zv_goto (tgt := 45) dX9_take_71 (by decide) ?_
      exact zv_fewer [1, 2, 0] rfl (ih _ _ _ _ h)
def mX9_take_12 (N : Nat) : Nat → Nat → Int32 → Int32 → zv_X → Option zv_X
  | 0, _, _, _, _ => none
  | n + 1, l0, l1, l2, x => (zm_I x l0 9 25).bind fun v1 => if v1 ≤ l2 then (mX9_take_45 N N l0 l1 (0 : Int32) x) else ((zm_R x l0 9 24).bind fun v3 => (zm_R x l0 9 22).bind fun v5 => (zm_aI x v5 (((12 : Int32) * l1) + l2)).bind fun v7 => (zm_sI x v3 l2 v7).bind fun x9 => mX9_take_12 N n l0 l1 (l2 + (1)) x9)
theorem kX9_take_12 {d : Nat} {x0 : zv_X} {o : zv_X} (hd : 0 ≤ d) {N : Nat} : ∀ (n : Nat) (l0 : Nat) (l1 : Int32) (l2 : Int32) (x : zv_X), mX9_take_12 N n l0 l1 l2 x = some o → zv_V (fX9_take d x0 o) 12 [(0, .ref l0), (1, .int l1), (2, .int l2)] [] x := by
  intro n
  induction n with
  | zero => intro l0 l1 l2 x h; cases h
  | succ n ih =>
    intro l0 l1 l2 x h
    unfold mX9_take_12 at h
    refine zv_iload_n (n := 2) dX9_take_12 rfl rfl ?_
    refine zv_aload_n (n := 0) dX9_take_13 rfl rfl ?_
    refine zr_gI dX9_take_14 fg_1428 h (fun v1 e2 h => ?_)
    refine zr_icmp_ge (tgt := 43) dX9_take_17 (by decide) h (fun c11 h => ?_) (fun c11 h => ?_)
    · refine zv_iconst (v := 0) dX9_take_43 (by decide) ?_
      refine zv_istore_n (L' := [(2, .int (0 : Int32)), (0, .ref l0), (1, .int l1)]) dX9_take_44 rfl (Nat.le_of_ble_eq_true rfl) rfl ?_
      exact zv_fewer [1, 2, 0] rfl (kX9_take_45 hd N _ _ _ _ h)
    · refine zv_aload_n (n := 0) dX9_take_20 rfl rfl ?_
      refine zr_gR dX9_take_21 fg_1427 h (fun v3 e4 h => ?_)
      refine zv_iload_n (n := 2) dX9_take_24 rfl rfl ?_
      refine zv_aload_n (n := 0) dX9_take_25 rfl rfl ?_
      refine zr_gR dX9_take_26 fg_1425 h (fun v5 e6 h => ?_)
      refine zv_bipush (v := 12) dX9_take_29 (by decide) ?_
      refine zv_iload_n (n := 1) dX9_take_31 rfl rfl ?_
      refine zv_imul dX9_take_32 ?_
      refine zv_iload_n (n := 2) dX9_take_33 rfl rfl ?_
      refine zv_iadd dX9_take_34 ?_
      refine zr_aI dX9_take_35 h (fun v7 e8 h => ?_)
      refine zr_sI dX9_take_36 h (fun x9 e10 h => ?_)
      refine zv_iinc (n := 2) (v := l2 + (1)) (L' := [(2, .int (l2 + (1))), (0, .ref l0), (1, .int l1)]) dX9_take_37 rfl rfl (Nat.le_of_ble_eq_true rfl) rfl ?_
      refine zv_goto (tgt := 12) dX9_take_40 (by decide) ?_
      exact zv_fewer [1, 2, 0] rfl (ih _ _ _ _ h)
def mX9_take_0 (N : Nat) (l0 : Nat) (l1 : Int32) (x : zv_X) : Option zv_X := (zm_R x l0 9 21).bind fun v1 => (zm_aI x v1 l1).bind fun v3 => (zm_p x l0 9 25 (.int v3)).bind fun x5 => mX9_take_12 N N l0 l1 (0 : Int32) x5
theorem kX9_take_0 {d : Nat} {x0 : zv_X} {o : zv_X} (hd : 0 ≤ d) {N : Nat} (l0 : Nat) (l1 : Int32) (x : zv_X) (h : mX9_take_0 N l0 l1 x = some o) : zv_V (fX9_take d x0 o) 0 [(0, .ref l0), (1, .int l1)] [] x := by
  unfold mX9_take_0 at h
  refine zv_aload_n (n := 0) dX9_take_0 rfl rfl ?_
  refine zv_aload_n (n := 0) dX9_take_1 rfl rfl ?_
  refine zr_gR dX9_take_2 fg_1424 h (fun v1 e2 h => ?_)
  refine zv_iload_n (n := 1) dX9_take_5 rfl rfl ?_
  refine zr_aI dX9_take_6 h (fun v3 e4 h => ?_)
  refine zr_p dX9_take_7 fl_1428 (fun q => nomatch q) rfl rfl h (fun x5 e6 h => ?_)
  refine zv_iconst (v := 0) dX9_take_10 (by decide) ?_
  refine zv_istore_n (L' := [(2, .int (0 : Int32)), (0, .ref l0), (1, .int l1)]) dX9_take_11 rfl (Nat.le_of_ble_eq_true rfl) rfl ?_
  exact zv_fewer [1, 2, 0] rfl (kX9_take_12 hd N _ _ _ _ h)
def mX9_take (N : Nat) (a0 : Nat) (a1 : Int32) (x : zv_X) : Option zv_X := mX9_take_0 N a0 a1 x
theorem tX9_take {d : Nat} (hd : 0 ≤ d) {N : Nat} {x : zv_X} {a0 : Nat} {a1 : Int32} {o : zv_X} (h : mX9_take N a0 a1 x = some o) : zv_T d yX9_take cX9_take 3 (none) [.ref a0, .int a1] x o none := by
  unfold mX9_take at h
  exact zv_enter (by decide) (Nat.le_of_ble_eq_true rfl) (kX9_take_0 hd _ _ _ h)

abbrev fX9_signed (d : Nat) (x0 : zv_X) (o : (zv_X × Int32)) : zv_G := (d, RX9, cX9_signed, 1, (some .int), ("signed", []), x0, o.1, zv_fin x0 o.1 (some (.int o.2)))
def mX9_signed_15 (N : Nat) (s0 : Int32) (x : zv_X) : Option (zv_X × Int32) := some (x, s0)
theorem kX9_signed_15 {d : Nat} {x0 : zv_X} {o : (zv_X × Int32)} (hd : 0 ≤ d) {N : Nat} (s0 : Int32) (x : zv_X) (h : mX9_signed_15 N s0 x = some o) : zv_V (fX9_signed d x0 o) 15 [] [.int s0] x := by
  unfold mX9_signed_15 at h
  cases h
  exact zv_iret dX9_signed_15 rfl
def mX9_signed_0 (N : Nat) (l0 : Int32) (x : zv_X) : Option (zv_X × Int32) := if l0 ≤ (127 : Int32) then (mX9_signed_15 N l0 x) else (mX9_signed_15 N (l0 - (256 : Int32)) x)
theorem kX9_signed_0 {d : Nat} {x0 : zv_X} {o : (zv_X × Int32)} (hd : 0 ≤ d) {N : Nat} (l0 : Int32) (x : zv_X) (h : mX9_signed_0 N l0 x = some o) : zv_V (fX9_signed d x0 o) 0 [(0, .int l0)] [] x := by
  unfold mX9_signed_0 at h
  refine zv_iload_n (n := 0) dX9_signed_0 rfl rfl ?_
  refine zv_bipush (v := 127) dX9_signed_1 (by decide) ?_
  refine zr_icmp_le (tgt := 14) dX9_signed_3 (by decide) h (fun c1 h => ?_) (fun c1 h => ?_)
  · refine zv_iload_n (n := 0) dX9_signed_14 rfl rfl ?_
    exact zv_fewer [] rfl (kX9_signed_15 hd _ _ h)
  · refine zv_iload_n (n := 0) dX9_signed_6 rfl rfl ?_
    refine zv_sipush (v := 256) dX9_signed_7 (by decide) ?_
    refine zv_isub dX9_signed_10 ?_
    refine zv_goto (tgt := 15) dX9_signed_11 (by decide) ?_
    exact zv_fewer [] rfl (kX9_signed_15 hd _ _ h)
def mX9_signed (N : Nat) (a0 : Int32) (x : zv_X) : Option (zv_X × Int32) := mX9_signed_0 N a0 x
theorem tX9_signed {d : Nat} (hd : 0 ≤ d) {N : Nat} {x : zv_X} {a0 : Int32} {o : (zv_X × Int32)} (h : mX9_signed N a0 x = some o) : zv_T d yX9_signed cX9_signed 1 ((some .int)) [.int a0] x o.1 (some (.int o.2)) := by
  unfold mX9_signed at h
  exact zv_enter (by decide) (Nat.le_of_ble_eq_true rfl) (kX9_signed_0 hd _ _ h)

abbrev fX9_to (d : Nat) (x0 : zv_X) (o : (zv_X × Int32)) : zv_G := (d, RX9, cX9_to, 3, (some .int), ("to", []), x0, o.1, zv_fin x0 o.1 (some (.int o.2)))
def mX9_to_0 (N : Nat) (l0 : Nat) (l1 : Int32) (l2 : Int32) (x : zv_X) : Option (zv_X × Int32) := if zm_k x l0 9 = true then ((mX9_code N l0 l1 (l2 + (1 : Int32)) x).bind fun o1 => (mX9_signed N o1.2 o1.1).bind fun o3 => if zm_k o3.1 l0 9 = true then ((mX9_code N l0 l1 (l2 + (2 : Int32)) o3.1).bind fun o5 => some (o5.1, (l2 + (o3.2 * (256 : Int32))) + o5.2)) else none) else none
theorem kX9_to_0 {d : Nat} {x0 : zv_X} {o : (zv_X × Int32)} (hd : 1 ≤ d) {N : Nat} (l0 : Nat) (l1 : Int32) (l2 : Int32) (x : zv_X) (h : mX9_to_0 N l0 l1 l2 x = some o) : zv_V (fX9_to d x0 o) 0 [(0, .ref l0), (1, .int l1), (2, .int l2)] [] x := by
  unfold mX9_to_0 at h
  refine zv_iload_n (n := 2) dX9_to_0 rfl rfl ?_
  refine zv_aload_n (n := 0) dX9_to_1 rfl rfl ?_
  refine zv_iload_n (n := 1) dX9_to_2 rfl rfl ?_
  refine zv_iload_n (n := 2) dX9_to_3 rfl rfl ?_
  refine zv_iconst (v := 1) dX9_to_4 (by decide) ?_
  refine zv_iadd dX9_to_5 ?_
  refine zr_cVi (ci := 9) (st := [.int l2]) dX9_to_6 mw_X9_code wd_1609 wd_1611 wd_55 rfl rfl [.int l1, .int (l2 + (1 : Int32))] rfl rfl (Nat.le_of_ble_eq_true rfl) (show d - 1 + 1 ≤ d by omega) h (fun o1 e2 => tX9_code (d := d - 1) (by omega) e2) (fun o1 e2 h => ?_)
  refine zr_cSi (st := [.int l2]) dX9_to_9 mw_X9_signed wd_1647 wd_1648 [.int o1.2] rfl rfl (Nat.le_of_ble_eq_true rfl) (show d - 1 + 1 ≤ d by omega) h (fun o3 e4 => tX9_signed (d := d - 1) (by omega) e4) (fun o3 e4 h => ?_)
  refine zv_sipush (v := 256) dX9_to_12 (by decide) ?_
  refine zv_imul dX9_to_15 ?_
  refine zv_iadd dX9_to_16 ?_
  refine zv_aload_n (n := 0) dX9_to_17 rfl rfl ?_
  refine zv_iload_n (n := 1) dX9_to_18 rfl rfl ?_
  refine zv_iload_n (n := 2) dX9_to_19 rfl rfl ?_
  refine zv_iconst (v := 2) dX9_to_20 (by decide) ?_
  refine zv_iadd dX9_to_21 ?_
  refine zr_cVi (ci := 9) (st := [.int (l2 + (o3.2 * (256 : Int32)))]) dX9_to_22 mw_X9_code wd_1609 wd_1611 wd_55 rfl rfl [.int l1, .int (l2 + (2 : Int32))] rfl rfl (Nat.le_of_ble_eq_true rfl) (show d - 1 + 1 ≤ d by omega) h (fun o5 e6 => tX9_code (d := d - 1) (by omega) e6) (fun o5 e6 h => ?_)
  refine zv_iadd dX9_to_25 ?_
  cases h
  exact zv_iret dX9_to_26 rfl
def mX9_to (N : Nat) (a0 : Nat) (a1 : Int32) (a2 : Int32) (x : zv_X) : Option (zv_X × Int32) := mX9_to_0 N a0 a1 a2 x
theorem tX9_to {d : Nat} (hd : 1 ≤ d) {N : Nat} {x : zv_X} {a0 : Nat} {a1 : Int32} {a2 : Int32} {o : (zv_X × Int32)} (h : mX9_to N a0 a1 a2 x = some o) : zv_T d yX9_to cX9_to 3 ((some .int)) [.ref a0, .int a1, .int a2] x o.1 (some (.int o.2)) := by
  unfold mX9_to at h
  exact zv_enter (by decide) (Nat.le_of_ble_eq_true rfl) (kX9_to_0 hd _ _ _ _ h)
