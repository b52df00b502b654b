/-! ===== methods that see no memory (written by wip/gen/pure.py) ===== -/
theorem zpif {α β : Type} {c : Prop} [Decidable c] {A B : Option α} {g : α → β} : (if c then A.map g else B.map g) = (if c then A else B).map g := by split <;> rfl
theorem zpbm {α β γ : Type} {o : Option α} {f : α → β} {g : β → Option γ} : (o.map f).bind g = o.bind fun v => g (f v) := by cases o <;> rfl
theorem zpmb {α β γ : Type} {o : Option α} {f : α → Option β} {g : β → γ} : (o.bind f).map g = o.bind fun v => (f v).map g := by cases o <;> rfl
theorem zps {α β : Type} {a : α} {g : α → β} : (some a).map g = some (g a) := rfl
theorem zpn {α β : Type} {g : α → β} : (none : Option α).map g = none := rfl
def pX9_arrayKind_37 (s0 : Int32) : Option Int32 := some (s0)
theorem qX9_arrayKind_37 {N : Nat} (s0 : Int32) (x : zv_X) : mX9_arrayKind_37 N s0 x = (pX9_arrayKind_37 s0).map fun v => (x, v) := by
  unfold mX9_arrayKind_37 pX9_arrayKind_37
  first | rfl | (simp only [zps, zpn, zpbm, zpmb, apply_ite (Option.map _)]; done) | (simp only [zpbm, zpmb, zps, zpn]; repeat' split; all_goals rfl)
def pX9_arrayKind_17 (s0 : Int32) : Option Int32 := if s0 = (1 : Int32) then (pX9_arrayKind_37 (2 : Int32)) else (if s0 = (4 : Int32) then (pX9_arrayKind_37 (3 : Int32)) else (pX9_arrayKind_37 (1 : Int32)))
theorem qX9_arrayKind_17 {N : Nat} (s0 : Int32) (x : zv_X) : mX9_arrayKind_17 N s0 x = (pX9_arrayKind_17 s0).map fun v => (x, v) := by
  unfold mX9_arrayKind_17 pX9_arrayKind_17
  first | rfl | (simp only [qX9_arrayKind_37, zps, zpn, zpbm, zpmb, apply_ite (Option.map _)]; done) | (simp only [qX9_arrayKind_37, zpbm, zpmb, zps, zpn]; repeat' split; all_goals rfl)
def pX9_arrayKind_0 (l0 : Int32) : Option Int32 := if (60 : Int32) ≤ l0 then (pX9_arrayKind_17 (l0 - (79 : Int32))) else (pX9_arrayKind_17 (l0 - (46 : Int32)))
theorem qX9_arrayKind_0 {N : Nat} (l0 : Int32) (x : zv_X) : mX9_arrayKind_0 N l0 x = (pX9_arrayKind_0 l0).map fun v => (x, v) := by
  unfold mX9_arrayKind_0 pX9_arrayKind_0
  first | rfl | (simp only [qX9_arrayKind_17, zps, zpn, zpbm, zpmb, apply_ite (Option.map _)]; done) | (simp only [qX9_arrayKind_17, zpbm, zpmb, zps, zpn]; repeat' split; all_goals rfl)
def pX9_arrayKind (a0 : Int32) : Option Int32 := pX9_arrayKind_0 a0
theorem qX9_arrayKind {N : Nat} (a0 : Int32) (x : zv_X) : mX9_arrayKind N a0 x = (pX9_arrayKind a0).map fun v => (x, v) := by
  unfold mX9_arrayKind pX9_arrayKind
  first | rfl | (simp only [qX9_arrayKind_0, zps, zpn, zpbm, zpmb, apply_ite (Option.map _)]; done) | (simp only [qX9_arrayKind_0, zpbm, zpmb, zps, zpn]; repeat' split; all_goals rfl)
def pX9_length_55  : Option Int32 := some ((3 : Int32))
theorem qX9_length_55 {N : Nat}  (x : zv_X) : mX9_length_55 N  x = (pX9_length_55 ).map fun v => (x, v) := by
  unfold mX9_length_55 pX9_length_55
  first | rfl | (simp only [zps, zpn, zpbm, zpmb, apply_ite (Option.map _)]; done) | (simp only [zpbm, zpmb, zps, zpn]; repeat' split; all_goals rfl)
def pX9_length_134  : Option Int32 := some ((2 : Int32))
theorem qX9_length_134 {N : Nat}  (x : zv_X) : mX9_length_134 N  x = (pX9_length_134 ).map fun v => (x, v) := by
  unfold mX9_length_134 pX9_length_134
  first | rfl | (simp only [zps, zpn, zpbm, zpmb, apply_ite (Option.map _)]; done) | (simp only [zpbm, zpmb, zps, zpn]; repeat' split; all_goals rfl)
def pX9_length_349 (s0 : Int32) : Option Int32 := some (s0)
theorem qX9_length_349 {N : Nat} (s0 : Int32) (x : zv_X) : mX9_length_349 N s0 x = (pX9_length_349 s0).map fun v => (x, v) := by
  unfold mX9_length_349 pX9_length_349
  first | rfl | (simp only [zps, zpn, zpbm, zpmb, apply_ite (Option.map _)]; done) | (simp only [zpbm, zpmb, zps, zpn]; repeat' split; all_goals rfl)
def pX9_length_344  : Option Int32 := pX9_length_349 (1 : Int32)
theorem qX9_length_344 {N : Nat}  (x : zv_X) : mX9_length_344 N  x = (pX9_length_344 ).map fun v => (x, v) := by
  unfold mX9_length_344 pX9_length_344
  first | rfl | (simp only [qX9_length_349, zps, zpn, zpbm, zpmb, apply_ite (Option.map _)]; done) | (simp only [qX9_length_349, zpbm, zpmb, zps, zpn]; repeat' split; all_goals rfl)
def pX9_length_331 (l1 : Int32) (l2 : Int32) (s0 : Int32) : Option Int32 := if l1 = 0 then (if l2 = 0 then (if s0 = 0 then (pX9_length_349 (0 : Int32)) else (pX9_length_344)) else (pX9_length_344)) else (pX9_length_344)
theorem qX9_length_331 {N : Nat} (l1 : Int32) (l2 : Int32) (s0 : Int32) (x : zv_X) : mX9_length_331 N l1 l2 s0 x = (pX9_length_331 l1 l2 s0).map fun v => (x, v) := by
  unfold mX9_length_331 pX9_length_331
  first | rfl | (simp only [qX9_length_344, qX9_length_349, zps, zpn, zpbm, zpmb, apply_ite (Option.map _)]; done) | (simp only [qX9_length_344, qX9_length_349, zpbm, zpmb, zps, zpn]; repeat' split; all_goals rfl)
def pX9_length_326 (l1 : Int32) (l2 : Int32) : Option Int32 := pX9_length_331 l1 l2 (1 : Int32)
theorem qX9_length_326 {N : Nat} (l1 : Int32) (l2 : Int32) (x : zv_X) : mX9_length_326 N l1 l2 x = (pX9_length_326 l1 l2).map fun v => (x, v) := by
  unfold mX9_length_326 pX9_length_326
  first | rfl | (simp only [qX9_length_331, zps, zpn, zpbm, zpmb, apply_ite (Option.map _)]; done) | (simp only [qX9_length_331, zpbm, zpmb, zps, zpn]; repeat' split; all_goals rfl)
def pX9_length_330 (l1 : Int32) (l2 : Int32) : Option Int32 := pX9_length_331 l1 l2 (0 : Int32)
theorem qX9_length_330 {N : Nat} (l1 : Int32) (l2 : Int32) (x : zv_X) : mX9_length_330 N l1 l2 x = (pX9_length_330 l1 l2).map fun v => (x, v) := by
  unfold mX9_length_330 pX9_length_330
  first | rfl | (simp only [qX9_length_331, zps, zpn, zpbm, zpmb, apply_ite (Option.map _)]; done) | (simp only [qX9_length_331, zpbm, zpmb, zps, zpn]; repeat' split; all_goals rfl)
def pX9_length_283 (l0 : Int32) (l1 : Int32) (s0 : Int32) : Option Int32 := if l0 = (172 : Int32) then (pX9_length_326 l1 s0) else (if l0 = (173 : Int32) then (pX9_length_326 l1 s0) else (if l0 = (176 : Int32) then (pX9_length_326 l1 s0) else (if l0 = (177 : Int32) then (pX9_length_326 l1 s0) else (if l0 < (189 : Int32) then (pX9_length_330 l1 s0) else (if (191 : Int32) < l0 then (pX9_length_330 l1 s0) else (pX9_length_326 l1 s0))))))
theorem qX9_length_283 {N : Nat} (l0 : Int32) (l1 : Int32) (s0 : Int32) (x : zv_X) : mX9_length_283 N l0 l1 s0 x = (pX9_length_283 l0 l1 s0).map fun v => (x, v) := by
  unfold mX9_length_283 pX9_length_283
  first | rfl | (simp only [qX9_length_326, qX9_length_330, zps, zpn, zpbm, zpmb, apply_ite (Option.map _)]; done) | (simp only [qX9_length_326, qX9_length_330, zpbm, zpmb, zps, zpn]; repeat' split; all_goals rfl)
def pX9_length_278 (l0 : Int32) (l1 : Int32) : Option Int32 := pX9_length_283 l0 l1 (1 : Int32)
theorem qX9_length_278 {N : Nat} (l0 : Int32) (l1 : Int32) (x : zv_X) : mX9_length_278 N l0 l1 x = (pX9_length_278 l0 l1).map fun v => (x, v) := by
  unfold mX9_length_278 pX9_length_278
  first | rfl | (simp only [qX9_length_283, zps, zpn, zpbm, zpmb, apply_ite (Option.map _)]; done) | (simp only [qX9_length_283, zpbm, zpmb, zps, zpn]; repeat' split; all_goals rfl)
def pX9_length_282 (l0 : Int32) (l1 : Int32) : Option Int32 := pX9_length_283 l0 l1 (0 : Int32)
theorem qX9_length_282 {N : Nat} (l0 : Int32) (l1 : Int32) (x : zv_X) : mX9_length_282 N l0 l1 x = (pX9_length_282 l0 l1).map fun v => (x, v) := by
  unfold mX9_length_282 pX9_length_282
  first | rfl | (simp only [qX9_length_283, zps, zpn, zpbm, zpmb, apply_ite (Option.map _)]; done) | (simp only [qX9_length_283, zpbm, zpmb, zps, zpn]; repeat' split; all_goals rfl)
def pX9_length_250 (l0 : Int32) (l1 : Int32) : Option Int32 := if l0 = (133 : Int32) then (pX9_length_278 l0 l1) else (if l0 = (136 : Int32) then (pX9_length_278 l0 l1) else (if l0 < (145 : Int32) then (pX9_length_282 l0 l1) else (if (148 : Int32) < l0 then (pX9_length_282 l0 l1) else (pX9_length_278 l0 l1))))
theorem qX9_length_250 {N : Nat} (l0 : Int32) (l1 : Int32) (x : zv_X) : mX9_length_250 N l0 l1 x = (pX9_length_250 l0 l1).map fun v => (x, v) := by
  unfold mX9_length_250 pX9_length_250
  first | rfl | (simp only [qX9_length_278, qX9_length_282, zps, zpn, zpbm, zpmb, apply_ite (Option.map _)]; done) | (simp only [qX9_length_278, qX9_length_282, zpbm, zpmb, zps, zpn]; repeat' split; all_goals rfl)
def pX9_length_237 (l0 : Int32) (l1 : Int32) : Option Int32 := if l0 < (120 : Int32) then (pX9_length_250 l0 l1) else (if l0 ≤ (131 : Int32) then (pX9_length_278 l0 l1) else (pX9_length_250 l0 l1))
theorem qX9_length_237 {N : Nat} (l0 : Int32) (l1 : Int32) (x : zv_X) : mX9_length_237 N l0 l1 x = (pX9_length_237 l0 l1).map fun v => (x, v) := by
  unfold mX9_length_237 pX9_length_237
  first | rfl | (simp only [qX9_length_250, qX9_length_278, zps, zpn, zpbm, zpmb, apply_ite (Option.map _)]; done) | (simp only [qX9_length_250, qX9_length_278, zpbm, zpmb, zps, zpn]; repeat' split; all_goals rfl)
def pX9_length_217 (l0 : Int32) (s0 : Int32) : Option Int32 := if l0 < (96 : Int32) then (pX9_length_237 l0 s0) else (if (117 : Int32) < l0 then (pX9_length_237 l0 s0) else (if (l0 - l0 / (4 : Int32) * (4 : Int32)) < (2 : Int32) then (pX9_length_278 l0 s0) else (pX9_length_237 l0 s0)))
theorem qX9_length_217 {N : Nat} (l0 : Int32) (s0 : Int32) (x : zv_X) : mX9_length_217 N l0 s0 x = (pX9_length_217 l0 s0).map fun v => (x, v) := by
  unfold mX9_length_217 pX9_length_217
  first | rfl | (simp only [qX9_length_237, qX9_length_278, zps, zpn, zpbm, zpmb, apply_ite (Option.map _)]; done) | (simp only [qX9_length_237, qX9_length_278, zpbm, zpmb, zps, zpn]; repeat' split; all_goals rfl)
def pX9_length_212 (l0 : Int32) : Option Int32 := pX9_length_217 l0 (1 : Int32)
theorem qX9_length_212 {N : Nat} (l0 : Int32) (x : zv_X) : mX9_length_212 N l0 x = (pX9_length_212 l0).map fun v => (x, v) := by
  unfold mX9_length_212 pX9_length_212
  first | rfl | (simp only [qX9_length_217, zps, zpn, zpbm, zpmb, apply_ite (Option.map _)]; done) | (simp only [qX9_length_217, zpbm, zpmb, zps, zpn]; repeat' split; all_goals rfl)
def pX9_length_206 (l0 : Int32) : Option Int32 := if l0 = (95 : Int32) then (pX9_length_212 l0) else (pX9_length_217 l0 (0 : Int32))
theorem qX9_length_206 {N : Nat} (l0 : Int32) (x : zv_X) : mX9_length_206 N l0 x = (pX9_length_206 l0).map fun v => (x, v) := by
  unfold mX9_length_206 pX9_length_206
  first | rfl | (simp only [qX9_length_212, qX9_length_217, zps, zpn, zpbm, zpmb, apply_ite (Option.map _)]; done) | (simp only [qX9_length_212, qX9_length_217, zpbm, zpmb, zps, zpn]; repeat' split; all_goals rfl)
def pX9_length_194 (l0 : Int32) : Option Int32 := if l0 < (87 : Int32) then (pX9_length_206 l0) else (if l0 ≤ (89 : Int32) then (pX9_length_212 l0) else (pX9_length_206 l0))
theorem qX9_length_194 {N : Nat} (l0 : Int32) (x : zv_X) : mX9_length_194 N l0 x = (pX9_length_194 l0).map fun v => (x, v) := by
  unfold mX9_length_194 pX9_length_194
  first | rfl | (simp only [qX9_length_206, qX9_length_212, zps, zpn, zpbm, zpmb, apply_ite (Option.map _)]; done) | (simp only [qX9_length_206, qX9_length_212, zpbm, zpmb, zps, zpn]; repeat' split; all_goals rfl)
def pX9_length_170 (l0 : Int32) : Option Int32 := if l0 < (79 : Int32) then (pX9_length_194 l0) else (if (86 : Int32) < l0 then (pX9_length_194 l0) else (if l0 = (81 : Int32) then (pX9_length_194 l0) else (if l0 = (82 : Int32) then (pX9_length_194 l0) else (pX9_length_212 l0))))
theorem qX9_length_170 {N : Nat} (l0 : Int32) (x : zv_X) : mX9_length_170 N l0 x = (pX9_length_170 l0).map fun v => (x, v) := by
  unfold mX9_length_170 pX9_length_170
  first | rfl | (simp only [qX9_length_194, qX9_length_212, zps, zpn, zpbm, zpmb, apply_ite (Option.map _)]; done) | (simp only [qX9_length_194, qX9_length_212, zpbm, zpmb, zps, zpn]; repeat' split; all_goals rfl)
def pX9_length_146 (l0 : Int32) : Option Int32 := if l0 < (46 : Int32) then (pX9_length_170 l0) else (if (53 : Int32) < l0 then (pX9_length_170 l0) else (if l0 = (48 : Int32) then (pX9_length_170 l0) else (if l0 = (49 : Int32) then (pX9_length_170 l0) else (pX9_length_212 l0))))
theorem qX9_length_146 {N : Nat} (l0 : Int32) (x : zv_X) : mX9_length_146 N l0 x = (pX9_length_146 l0).map fun v => (x, v) := by
  unfold mX9_length_146 pX9_length_146
  first | rfl | (simp only [qX9_length_170, qX9_length_212, zps, zpn, zpbm, zpmb, apply_ite (Option.map _)]; done) | (simp only [qX9_length_170, qX9_length_212, zpbm, zpmb, zps, zpn]; repeat' split; all_goals rfl)
def pX9_length_14 (l0 : Int32) : Option Int32 := if l0 = (198 : Int32) then (pX9_length_55) else (if l0 = (199 : Int32) then (pX9_length_55) else (if l0 = (17 : Int32) then (pX9_length_55) else (if l0 = (132 : Int32) then (pX9_length_55) else (if l0 = (180 : Int32) then (pX9_length_55) else (if l0 = (181 : Int32) then (pX9_length_55) else (if l0 = (16 : Int32) then (pX9_length_134) else (if l0 = (21 : Int32) then (pX9_length_134) else (if l0 = (22 : Int32) then (pX9_length_134) else (if l0 = (25 : Int32) then (pX9_length_134) else (if l0 = (54 : Int32) then (pX9_length_134) else (if l0 = (55 : Int32) then (pX9_length_134) else (if l0 = (58 : Int32) then (pX9_length_134) else (if l0 = (184 : Int32) then (pX9_length_134) else (if l0 = (187 : Int32) then (pX9_length_134) else (if l0 = (188 : Int32) then (pX9_length_134) else (if l0 = (192 : Int32) then (pX9_length_134) else (if l0 = (193 : Int32) then (pX9_length_134) else (if l0 < 0 then (pX9_length_146 l0) else (if l0 ≤ (10 : Int32) then (pX9_length_212 l0) else (pX9_length_146 l0))))))))))))))))))))
theorem qX9_length_14 {N : Nat} (l0 : Int32) (x : zv_X) : mX9_length_14 N l0 x = (pX9_length_14 l0).map fun v => (x, v) := by
  unfold mX9_length_14 pX9_length_14
  first | rfl | (simp only [qX9_length_134, qX9_length_146, qX9_length_212, qX9_length_55, zps, zpn, zpbm, zpmb, apply_ite (Option.map _)]; done) | (simp only [qX9_length_134, qX9_length_146, qX9_length_212, qX9_length_55, zpbm, zpmb, zps, zpn]; repeat' split; all_goals rfl)
def pX9_length_0 (l0 : Int32) : Option Int32 := if l0 < (153 : Int32) then (pX9_length_14 l0) else (if l0 ≤ (167 : Int32) then (pX9_length_55) else (pX9_length_14 l0))
theorem qX9_length_0 {N : Nat} (l0 : Int32) (x : zv_X) : mX9_length_0 N l0 x = (pX9_length_0 l0).map fun v => (x, v) := by
  unfold mX9_length_0 pX9_length_0
  first | rfl | (simp only [qX9_length_14, qX9_length_55, zps, zpn, zpbm, zpmb, apply_ite (Option.map _)]; done) | (simp only [qX9_length_14, qX9_length_55, zpbm, zpmb, zps, zpn]; repeat' split; all_goals rfl)
def pX9_length (a0 : Int32) : Option Int32 := pX9_length_0 a0
theorem qX9_length {N : Nat} (a0 : Int32) (x : zv_X) : mX9_length N a0 x = (pX9_length a0).map fun v => (x, v) := by
  unfold mX9_length pX9_length
  first | rfl | (simp only [qX9_length_0, zps, zpn, zpbm, zpmb, apply_ite (Option.map _)]; done) | (simp only [qX9_length_0, zpbm, zpmb, zps, zpn]; repeat' split; all_goals rfl)
def pX9_signed_15 (s0 : Int32) : Option Int32 := some (s0)
theorem qX9_signed_15 {N : Nat} (s0 : Int32) (x : zv_X) : mX9_signed_15 N s0 x = (pX9_signed_15 s0).map fun v => (x, v) := by
  unfold mX9_signed_15 pX9_signed_15
  first | rfl | (simp only [zps, zpn, zpbm, zpmb, apply_ite (Option.map _)]; done) | (simp only [zpbm, zpmb, zps, zpn]; repeat' split; all_goals rfl)
def pX9_signed_0 (l0 : Int32) : Option Int32 := if l0 ≤ (127 : Int32) then (pX9_signed_15 l0) else (pX9_signed_15 (l0 - (256 : Int32)))
theorem qX9_signed_0 {N : Nat} (l0 : Int32) (x : zv_X) : mX9_signed_0 N l0 x = (pX9_signed_0 l0).map fun v => (x, v) := by
  unfold mX9_signed_0 pX9_signed_0
  first | rfl | (simp only [qX9_signed_15, zps, zpn, zpbm, zpmb, apply_ite (Option.map _)]; done) | (simp only [qX9_signed_15, zpbm, zpmb, zps, zpn]; repeat' split; all_goals rfl)
def pX9_signed (a0 : Int32) : Option Int32 := pX9_signed_0 a0
theorem qX9_signed {N : Nat} (a0 : Int32) (x : zv_X) : mX9_signed N a0 x = (pX9_signed a0).map fun v => (x, v) := by
  unfold mX9_signed pX9_signed
  first | rfl | (simp only [qX9_signed_0, zps, zpn, zpbm, zpmb, apply_ite (Option.map _)]; done) | (simp only [qX9_signed_0, zpbm, zpmb, zps, zpn]; repeat' split; all_goals rfl)
def pX9_method_328  : Option Int32 := some ((-1 : Int32))
theorem qX9_method_328 {N : Nat}  (x : zv_X) : mX9_method_328 N  x = (pX9_method_328 ).map fun v => (x, v) := by
  unfold mX9_method_328 pX9_method_328
  first | rfl | (simp only [zps, zpn, zpbm, zpmb, apply_ite (Option.map _)]; done) | (simp only [zpbm, zpmb, zps, zpn]; repeat' split; all_goals rfl)
def pX9_isOf_42 (s0 : Int32) : Option Int32 := if s0 = 0 ∨ s0 = 1 then some (s0) else none
theorem qX9_isOf_42 {N : Nat} (s0 : Int32) (x : zv_X) : mX9_isOf_42 N s0 x = (pX9_isOf_42 s0).map fun v => (x, v) := by
  unfold mX9_isOf_42 pX9_isOf_42
  first | rfl | (simp only [zps, zpn, zpbm, zpmb, apply_ite (Option.map _)]; done) | (simp only [zpbm, zpmb, zps, zpn]; repeat' split; all_goals rfl)
def pX9_isOf_41  : Option Int32 := pX9_isOf_42 (0 : Int32)
theorem qX9_isOf_41 {N : Nat}  (x : zv_X) : mX9_isOf_41 N  x = (pX9_isOf_41 ).map fun v => (x, v) := by
  unfold mX9_isOf_41 pX9_isOf_41
  first | rfl | (simp only [qX9_isOf_42, zps, zpn, zpbm, zpmb, apply_ite (Option.map _)]; done) | (simp only [qX9_isOf_42, zpbm, zpmb, zps, zpn]; repeat' split; all_goals rfl)
def pX9_isOf_27 (l2 : Int32) (l3 : Int32) : Option Int32 := if l3 = l2 then (if l2 = (-1 : Int32) then (pX9_isOf_41) else (pX9_isOf_42 (1 : Int32))) else (pX9_isOf_41)
theorem qX9_isOf_27 {N : Nat} (l2 : Int32) (l3 : Int32) (x : zv_X) : mX9_isOf_27 N l2 l3 x = (pX9_isOf_27 l2 l3).map fun v => (x, v) := by
  unfold mX9_isOf_27 pX9_isOf_27
  first | rfl | (simp only [qX9_isOf_41, qX9_isOf_42, zps, zpn, zpbm, zpmb, apply_ite (Option.map _)]; done) | (simp only [qX9_isOf_41, qX9_isOf_42, zpbm, zpmb, zps, zpn]; repeat' split; all_goals rfl)
def pX9_meet_21 (l3 : Int32) : Option Int32 := some (l3)
theorem qX9_meet_21 {N : Nat} (l3 : Int32) (x : zv_X) : mX9_meet_21 N l3 x = (pX9_meet_21 l3).map fun v => (x, v) := by
  unfold mX9_meet_21 pX9_meet_21
  first | rfl | (simp only [zps, zpn, zpbm, zpmb, apply_ite (Option.map _)]; done) | (simp only [zpbm, zpmb, zps, zpn]; repeat' split; all_goals rfl)
def pX9_wordsOf_11 (l1 : Int64) : Option Int64 := some ((2 : Int64) + ((l1 + (3 : Int64)) / (4 : Int64)))
theorem qX9_wordsOf_11 {N : Nat} (l1 : Int64) (x : zv_X) : mX9_wordsOf_11 N l1 x = (pX9_wordsOf_11 l1).map fun v => (x, v) := by
  unfold mX9_wordsOf_11 pX9_wordsOf_11
  first | rfl | (simp only [zps, zpn, zpbm, zpmb, apply_ite (Option.map _)]; done) | (simp only [zpbm, zpmb, zps, zpn]; repeat' split; all_goals rfl)
def pX9_wordsOf_36 (l1 : Int64) : Option Int64 := some ((2 : Int64) + ((l1 + (1 : Int64)) / (2 : Int64)))
theorem qX9_wordsOf_36 {N : Nat} (l1 : Int64) (x : zv_X) : mX9_wordsOf_36 N l1 x = (pX9_wordsOf_36 l1).map fun v => (x, v) := by
  unfold mX9_wordsOf_36 pX9_wordsOf_36
  first | rfl | (simp only [zps, zpn, zpbm, zpmb, apply_ite (Option.map _)]; done) | (simp only [zpbm, zpmb, zps, zpn]; repeat' split; all_goals rfl)
def pX9_wordsOf_71 (s0 : Int64) : Option Int64 := some (s0)
theorem qX9_wordsOf_71 {N : Nat} (s0 : Int64) (x : zv_X) : mX9_wordsOf_71 N s0 x = (pX9_wordsOf_71 s0).map fun v => (x, v) := by
  unfold mX9_wordsOf_71 pX9_wordsOf_71
  first | rfl | (simp only [zps, zpn, zpbm, zpmb, apply_ite (Option.map _)]; done) | (simp only [zpbm, zpmb, zps, zpn]; repeat' split; all_goals rfl)
def pX9_wordsOf_0 (l0 : Int32) (l1 : Int64) : Option Int64 := if l0 = (4 : Int32) then (pX9_wordsOf_11 l1) else (if l0 = (8 : Int32) then (pX9_wordsOf_11 l1) else (if l0 = (5 : Int32) then (pX9_wordsOf_36 l1) else (if l0 = (9 : Int32) then (pX9_wordsOf_36 l1) else (if l0 = (11 : Int32) then (pX9_wordsOf_71 ((2 : Int64) + ((2 : Int64) * l1))) else (pX9_wordsOf_71 ((2 : Int64) + l1))))))
theorem qX9_wordsOf_0 {N : Nat} (l0 : Int32) (l1 : Int64) (x : zv_X) : mX9_wordsOf_0 N l0 l1 x = (pX9_wordsOf_0 l0 l1).map fun v => (x, v) := by
  unfold mX9_wordsOf_0 pX9_wordsOf_0
  first | rfl | (simp only [qX9_wordsOf_11, qX9_wordsOf_36, qX9_wordsOf_71, zps, zpn, zpbm, zpmb, apply_ite (Option.map _)]; done) | (simp only [qX9_wordsOf_11, qX9_wordsOf_36, qX9_wordsOf_71, zpbm, zpmb, zps, zpn]; repeat' split; all_goals rfl)
def pX9_wordsOf (a0 : Int32) (a1 : Int64) : Option Int64 := pX9_wordsOf_0 a0 a1
theorem qX9_wordsOf {N : Nat} (a0 : Int32) (a1 : Int64) (x : zv_X) : mX9_wordsOf N a0 a1 x = (pX9_wordsOf a0 a1).map fun v => (x, v) := by
  unfold mX9_wordsOf pX9_wordsOf
  first | rfl | (simp only [qX9_wordsOf_0, zps, zpn, zpbm, zpmb, apply_ite (Option.map _)]; done) | (simp only [qX9_wordsOf_0, zpbm, zpmb, zps, zpn]; repeat' split; all_goals rfl)
def pX9_isSort_128 (s0 : Int32) : Option Int32 := if s0 = 0 ∨ s0 = 1 then some (s0) else none
theorem qX9_isSort_128 {N : Nat} (s0 : Int32) (x : zv_X) : mX9_isSort_128 N s0 x = (pX9_isSort_128 s0).map fun v => (x, v) := by
  unfold mX9_isSort_128 pX9_isSort_128
  first | rfl | (simp only [zps, zpn, zpbm, zpmb, apply_ite (Option.map _)]; done) | (simp only [zpbm, zpmb, zps, zpn]; repeat' split; all_goals rfl)
def pX9_isSort_90  : Option Int32 := pX9_isSort_128 (1 : Int32)
theorem qX9_isSort_90 {N : Nat}  (x : zv_X) : mX9_isSort_90 N  x = (pX9_isSort_90 ).map fun v => (x, v) := by
  unfold mX9_isSort_90 pX9_isSort_90
  first | rfl | (simp only [qX9_isSort_128, zps, zpn, zpbm, zpmb, apply_ite (Option.map _)]; done) | (simp only [qX9_isSort_128, zpbm, zpmb, zps, zpn]; repeat' split; all_goals rfl)
def pX9_isSort_17 (l1 : Int32) (s0 : Int32) : Option Int32 := if s0 = 0 then (if l1 = (10 : Int32) then (pX9_isSort_128 (1 : Int32)) else (pX9_isSort_128 (0 : Int32))) else (if s0 = (1 : Int32) then (if l1 = (11 : Int32) then (pX9_isSort_128 (1 : Int32)) else (pX9_isSort_128 (0 : Int32))) else (if s0 = (4 : Int32) then (if l1 = (12 : Int32) then (pX9_isSort_128 (1 : Int32)) else (pX9_isSort_128 (0 : Int32))) else (if s0 = (5 : Int32) then (if l1 = (4 : Int32) then (pX9_isSort_90) else (if l1 = (8 : Int32) then (pX9_isSort_90) else (pX9_isSort_128 (0 : Int32)))) else (if s0 = (6 : Int32) then (if l1 = (5 : Int32) then (pX9_isSort_128 (1 : Int32)) else (pX9_isSort_128 (0 : Int32))) else (if l1 = (9 : Int32) then (pX9_isSort_128 (1 : Int32)) else (pX9_isSort_128 (0 : Int32)))))))
theorem qX9_isSort_17 {N : Nat} (l1 : Int32) (s0 : Int32) (x : zv_X) : mX9_isSort_17 N l1 s0 x = (pX9_isSort_17 l1 s0).map fun v => (x, v) := by
  unfold mX9_isSort_17 pX9_isSort_17
  first | rfl | (simp only [qX9_isSort_128, qX9_isSort_90, zps, zpn, zpbm, zpmb, apply_ite (Option.map _)]; done) | (simp only [qX9_isSort_128, qX9_isSort_90, zpbm, zpmb, zps, zpn]; repeat' split; all_goals rfl)
def pX9_isSort_0 (l0 : Int32) (l1 : Int32) : Option Int32 := if (60 : Int32) ≤ l0 then (pX9_isSort_17 l1 (l0 - (79 : Int32))) else (pX9_isSort_17 l1 (l0 - (46 : Int32)))
theorem qX9_isSort_0 {N : Nat} (l0 : Int32) (l1 : Int32) (x : zv_X) : mX9_isSort_0 N l0 l1 x = (pX9_isSort_0 l0 l1).map fun v => (x, v) := by
  unfold mX9_isSort_0 pX9_isSort_0
  first | rfl | (simp only [qX9_isSort_17, zps, zpn, zpbm, zpmb, apply_ite (Option.map _)]; done) | (simp only [qX9_isSort_17, zpbm, zpmb, zps, zpn]; repeat' split; all_goals rfl)
def pX9_isSort (a0 : Int32) (a1 : Int32) : Option Int32 := pX9_isSort_0 a0 a1
theorem qX9_isSort {N : Nat} (a0 : Int32) (a1 : Int32) (x : zv_X) : mX9_isSort N a0 a1 x = (pX9_isSort a0 a1).map fun v => (x, v) := by
  unfold mX9_isSort pX9_isSort
  first | rfl | (simp only [qX9_isSort_0, zps, zpn, zpbm, zpmb, apply_ite (Option.map _)]; done) | (simp only [qX9_isSort_0, zpbm, zpmb, zps, zpn]; repeat' split; all_goals rfl)
def pX9_wrong_58 (s0 : Int32) : Option Int32 := some (s0)
theorem qX9_wrong_58 {N : Nat} (s0 : Int32) (x : zv_X) : mX9_wrong_58 N s0 x = (pX9_wrong_58 s0).map fun v => (x, v) := by
  unfold mX9_wrong_58 pX9_wrong_58
  first | rfl | (simp only [zps, zpn, zpbm, zpmb, apply_ite (Option.map _)]; done) | (simp only [zpbm, zpmb, zps, zpn]; repeat' split; all_goals rfl)
def pX9_wrong_53  : Option Int32 := pX9_wrong_58 (3 : Int32)
theorem qX9_wrong_53 {N : Nat}  (x : zv_X) : mX9_wrong_53 N  x = (pX9_wrong_53 ).map fun v => (x, v) := by
  unfold mX9_wrong_53 pX9_wrong_53
  first | rfl | (simp only [qX9_wrong_58, zps, zpn, zpbm, zpmb, apply_ite (Option.map _)]; done) | (simp only [qX9_wrong_58, zpbm, zpmb, zps, zpn]; repeat' split; all_goals rfl)
def pX9_ofInts_188 (l1 : Int32) (l2 : Int32) : Option Int32 := some (l1 ^^^ l2)
theorem qX9_ofInts_188 {N : Nat} (l1 : Int32) (l2 : Int32) (x : zv_X) : mX9_ofInts_188 N l1 l2 x = (pX9_ofInts_188 l1 l2).map fun v => (x, v) := by
  unfold mX9_ofInts_188 pX9_ofInts_188
  first | rfl | (simp only [zps, zpn, zpbm, zpmb, apply_ite (Option.map _)]; done) | (simp only [zpbm, zpmb, zps, zpn]; repeat' split; all_goals rfl)
def pX9_ofInts_0 (l0 : Int32) (l1 : Int32) (l2 : Int32) : Option Int32 := if l0 = (96 : Int32) then (some (l1 + l2)) else if l0 = (97 : Int32) then (pX9_ofInts_188 l1 l2) else if l0 = (98 : Int32) then (pX9_ofInts_188 l1 l2) else if l0 = (99 : Int32) then (pX9_ofInts_188 l1 l2) else if l0 = (100 : Int32) then (some (l1 - l2)) else if l0 = (101 : Int32) then (pX9_ofInts_188 l1 l2) else if l0 = (102 : Int32) then (pX9_ofInts_188 l1 l2) else if l0 = (103 : Int32) then (pX9_ofInts_188 l1 l2) else if l0 = (104 : Int32) then (some (l1 * l2)) else if l0 = (105 : Int32) then (pX9_ofInts_188 l1 l2) else if l0 = (106 : Int32) then (pX9_ofInts_188 l1 l2) else if l0 = (107 : Int32) then (pX9_ofInts_188 l1 l2) else if l0 = (108 : Int32) then (if l2 = 0 then none else (some (l1 / l2))) else if l0 = (109 : Int32) then (pX9_ofInts_188 l1 l2) else if l0 = (110 : Int32) then (pX9_ofInts_188 l1 l2) else if l0 = (111 : Int32) then (pX9_ofInts_188 l1 l2) else if l0 = (112 : Int32) then (if l2 = 0 then none else (some (l1 - l1 / l2 * l2))) else if l0 = (113 : Int32) then (pX9_ofInts_188 l1 l2) else if l0 = (114 : Int32) then (pX9_ofInts_188 l1 l2) else if l0 = (115 : Int32) then (pX9_ofInts_188 l1 l2) else if l0 = (116 : Int32) then (pX9_ofInts_188 l1 l2) else if l0 = (117 : Int32) then (pX9_ofInts_188 l1 l2) else if l0 = (118 : Int32) then (pX9_ofInts_188 l1 l2) else if l0 = (119 : Int32) then (pX9_ofInts_188 l1 l2) else if l0 = (120 : Int32) then (some (l1 <<< (l2 &&& 31))) else if l0 = (121 : Int32) then (pX9_ofInts_188 l1 l2) else if l0 = (122 : Int32) then (some (l1 >>> (l2 &&& 31))) else if l0 = (123 : Int32) then (pX9_ofInts_188 l1 l2) else if l0 = (124 : Int32) then (some ((Int32.toUInt32 l1 >>> (Int32.toUInt32 l2 &&& Int32.toUInt32 31)).toInt32)) else if l0 = (125 : Int32) then (pX9_ofInts_188 l1 l2) else if l0 = (126 : Int32) then (some (l1 &&& l2)) else if l0 = (127 : Int32) then (pX9_ofInts_188 l1 l2) else if l0 = (128 : Int32) then (some (l1 ||| l2)) else (pX9_ofInts_188 l1 l2)
theorem qX9_ofInts_0 {N : Nat} (l0 : Int32) (l1 : Int32) (l2 : Int32) (x : zv_X) : mX9_ofInts_0 N l0 l1 l2 x = (pX9_ofInts_0 l0 l1 l2).map fun v => (x, v) := by
  unfold mX9_ofInts_0 pX9_ofInts_0
  first | rfl | (simp only [qX9_ofInts_188, zps, zpn, zpbm, zpmb, apply_ite (Option.map _)]; done) | (simp only [qX9_ofInts_188, zpbm, zpmb, zps, zpn]; repeat' split; all_goals rfl)
def pX9_ofInts (a0 : Int32) (a1 : Int32) (a2 : Int32) : Option Int32 := pX9_ofInts_0 a0 a1 a2
theorem qX9_ofInts {N : Nat} (a0 : Int32) (a1 : Int32) (a2 : Int32) (x : zv_X) : mX9_ofInts N a0 a1 a2 x = (pX9_ofInts a0 a1 a2).map fun v => (x, v) := by
  unfold mX9_ofInts pX9_ofInts
  first | rfl | (simp only [qX9_ofInts_0, zps, zpn, zpbm, zpmb, apply_ite (Option.map _)]; done) | (simp only [qX9_ofInts_0, zpbm, zpmb, zps, zpn]; repeat' split; all_goals rfl)
def pX9_ofLongs_191 (l1 : Int64) (l3 : Int64) : Option Int64 := some (l1 ^^^ l3)
theorem qX9_ofLongs_191 {N : Nat} (l1 : Int64) (l3 : Int64) (x : zv_X) : mX9_ofLongs_191 N l1 l3 x = (pX9_ofLongs_191 l1 l3).map fun v => (x, v) := by
  unfold mX9_ofLongs_191 pX9_ofLongs_191
  first | rfl | (simp only [zps, zpn, zpbm, zpmb, apply_ite (Option.map _)]; done) | (simp only [zpbm, zpmb, zps, zpn]; repeat' split; all_goals rfl)
def pX9_ofLongs_0 (l0 : Int32) (l1 : Int64) (l3 : Int64) : Option Int64 := if l0 = (97 : Int32) then (some (l1 + l3)) else if l0 = (98 : Int32) then (pX9_ofLongs_191 l1 l3) else if l0 = (99 : Int32) then (pX9_ofLongs_191 l1 l3) else if l0 = (100 : Int32) then (pX9_ofLongs_191 l1 l3) else if l0 = (101 : Int32) then (some (l1 - l3)) else if l0 = (102 : Int32) then (pX9_ofLongs_191 l1 l3) else if l0 = (103 : Int32) then (pX9_ofLongs_191 l1 l3) else if l0 = (104 : Int32) then (pX9_ofLongs_191 l1 l3) else if l0 = (105 : Int32) then (some (l1 * l3)) else if l0 = (106 : Int32) then (pX9_ofLongs_191 l1 l3) else if l0 = (107 : Int32) then (pX9_ofLongs_191 l1 l3) else if l0 = (108 : Int32) then (pX9_ofLongs_191 l1 l3) else if l0 = (109 : Int32) then (if l3 = 0 then none else (some (l1 / l3))) else if l0 = (110 : Int32) then (pX9_ofLongs_191 l1 l3) else if l0 = (111 : Int32) then (pX9_ofLongs_191 l1 l3) else if l0 = (112 : Int32) then (pX9_ofLongs_191 l1 l3) else if l0 = (113 : Int32) then (if l3 = 0 then none else (some (l1 - l1 / l3 * l3))) else if l0 = (114 : Int32) then (pX9_ofLongs_191 l1 l3) else if l0 = (115 : Int32) then (pX9_ofLongs_191 l1 l3) else if l0 = (116 : Int32) then (pX9_ofLongs_191 l1 l3) else if l0 = (117 : Int32) then (pX9_ofLongs_191 l1 l3) else if l0 = (118 : Int32) then (pX9_ofLongs_191 l1 l3) else if l0 = (119 : Int32) then (pX9_ofLongs_191 l1 l3) else if l0 = (120 : Int32) then (pX9_ofLongs_191 l1 l3) else if l0 = (121 : Int32) then (some (l1 <<< (Int32.toInt64 (Int64.toInt32 l3) &&& 63))) else if l0 = (122 : Int32) then (pX9_ofLongs_191 l1 l3) else if l0 = (123 : Int32) then (some (l1 >>> (Int32.toInt64 (Int64.toInt32 l3) &&& 63))) else if l0 = (124 : Int32) then (pX9_ofLongs_191 l1 l3) else if l0 = (125 : Int32) then (some ((Int64.toUInt64 l1 >>> ((Int32.toInt64 (Int64.toInt32 l3)).toUInt64 &&& Int64.toUInt64 63)).toInt64)) else if l0 = (126 : Int32) then (pX9_ofLongs_191 l1 l3) else if l0 = (127 : Int32) then (some (l1 &&& l3)) else if l0 = (128 : Int32) then (pX9_ofLongs_191 l1 l3) else if l0 = (129 : Int32) then (some (l1 ||| l3)) else (pX9_ofLongs_191 l1 l3)
theorem qX9_ofLongs_0 {N : Nat} (l0 : Int32) (l1 : Int64) (l3 : Int64) (x : zv_X) : mX9_ofLongs_0 N l0 l1 l3 x = (pX9_ofLongs_0 l0 l1 l3).map fun v => (x, v) := by
  unfold mX9_ofLongs_0 pX9_ofLongs_0
  first | rfl | (simp only [qX9_ofLongs_191, zps, zpn, zpbm, zpmb, apply_ite (Option.map _)]; done) | (simp only [qX9_ofLongs_191, zpbm, zpmb, zps, zpn]; repeat' split; all_goals rfl)
def pX9_ofLongs (a0 : Int32) (a1 : Int64) (a2 : Int64) : Option Int64 := pX9_ofLongs_0 a0 a1 a2
theorem qX9_ofLongs {N : Nat} (a0 : Int32) (a1 : Int64) (a2 : Int64) (x : zv_X) : mX9_ofLongs N a0 a1 a2 x = (pX9_ofLongs a0 a1 a2).map fun v => (x, v) := by
  unfold mX9_ofLongs pX9_ofLongs
  first | rfl | (simp only [qX9_ofLongs_0, zps, zpn, zpbm, zpmb, apply_ite (Option.map _)]; done) | (simp only [qX9_ofLongs_0, zpbm, zpmb, zps, zpn]; repeat' split; all_goals rfl)
def pX9_holds_105 (s0 : Int32) : Option Int32 := if s0 = 0 ∨ s0 = 1 then some (s0) else none
theorem qX9_holds_105 {N : Nat} (s0 : Int32) (x : zv_X) : mX9_holds_105 N s0 x = (pX9_holds_105 s0).map fun v => (x, v) := by
  unfold mX9_holds_105 pX9_holds_105
  first | rfl | (simp only [zps, zpn, zpbm, zpmb, apply_ite (Option.map _)]; done) | (simp only [zpbm, zpmb, zps, zpn]; repeat' split; all_goals rfl)
def pX9_holds_0 (l0 : Int32) (l1 : Int64) (l3 : Int64) : Option Int32 := if l0 = 0 then (if (lg_cmp l1 l3) = 0 then (pX9_holds_105 (1 : Int32)) else (pX9_holds_105 (0 : Int32))) else (if l0 = (1 : Int32) then (if (lg_cmp l1 l3) = 0 then (pX9_holds_105 (0 : Int32)) else (pX9_holds_105 (1 : Int32))) else (if l0 = (2 : Int32) then (if 0 ≤ (lg_cmp l1 l3) then (pX9_holds_105 (0 : Int32)) else (pX9_holds_105 (1 : Int32))) else (if l0 = (3 : Int32) then (if (lg_cmp l1 l3) < 0 then (pX9_holds_105 (0 : Int32)) else (pX9_holds_105 (1 : Int32))) else (if l0 = (4 : Int32) then (if (lg_cmp l1 l3) ≤ 0 then (pX9_holds_105 (0 : Int32)) else (pX9_holds_105 (1 : Int32))) else (if 0 < (lg_cmp l1 l3) then (pX9_holds_105 (0 : Int32)) else (pX9_holds_105 (1 : Int32)))))))
theorem qX9_holds_0 {N : Nat} (l0 : Int32) (l1 : Int64) (l3 : Int64) (x : zv_X) : mX9_holds_0 N l0 l1 l3 x = (pX9_holds_0 l0 l1 l3).map fun v => (x, v) := by
  unfold mX9_holds_0 pX9_holds_0
  first | rfl | (simp only [qX9_holds_105, zps, zpn, zpbm, zpmb, apply_ite (Option.map _)]; done) | (simp only [qX9_holds_105, zpbm, zpmb, zps, zpn]; repeat' split; all_goals rfl)
def pX9_holds (a0 : Int32) (a1 : Int64) (a2 : Int64) : Option Int32 := pX9_holds_0 a0 a1 a2
theorem qX9_holds {N : Nat} (a0 : Int32) (a1 : Int64) (a2 : Int64) (x : zv_X) : mX9_holds N a0 a1 a2 x = (pX9_holds a0 a1 a2).map fun v => (x, v) := by
  unfold mX9_holds pX9_holds
  first | rfl | (simp only [qX9_holds_0, zps, zpn, zpbm, zpmb, apply_ite (Option.map _)]; done) | (simp only [qX9_holds_0, zpbm, zpmb, zps, zpn]; repeat' split; all_goals rfl)
def pX9_goes_130 (s0 : Int32) : Option Int32 := if s0 = 0 ∨ s0 = 1 then some (s0) else none
theorem qX9_goes_130 {N : Nat} (s0 : Int32) (x : zv_X) : mX9_goes_130 N s0 x = (pX9_goes_130 s0).map fun v => (x, v) := by
  unfold mX9_goes_130 pX9_goes_130
  first | rfl | (simp only [zps, zpn, zpbm, zpmb, apply_ite (Option.map _)]; done) | (simp only [zpbm, zpmb, zps, zpn]; repeat' split; all_goals rfl)
def pX9_goes_108 (s0 : Int32) (s1 : Int32) : Option Int32 := if s1 = s0 then (pX9_goes_130 (1 : Int32)) else (pX9_goes_130 (0 : Int32))
theorem qX9_goes_108 {N : Nat} (s0 : Int32) (s1 : Int32) (x : zv_X) : mX9_goes_108 N s0 s1 x = (pX9_goes_108 s0 s1).map fun v => (x, v) := by
  unfold mX9_goes_108 pX9_goes_108
  first | rfl | (simp only [qX9_goes_130, zps, zpn, zpbm, zpmb, apply_ite (Option.map _)]; done) | (simp only [qX9_goes_130, zpbm, zpmb, zps, zpn]; repeat' split; all_goals rfl)
def pX9_goes_96 (l1 : Int32) (s0 : Int32) : Option Int32 := if l1 = (165 : Int32) then (pX9_goes_108 (1 : Int32) s0) else (pX9_goes_108 (0 : Int32) s0)
theorem qX9_goes_96 {N : Nat} (l1 : Int32) (s0 : Int32) (x : zv_X) : mX9_goes_96 N l1 s0 x = (pX9_goes_96 l1 s0).map fun v => (x, v) := by
  unfold mX9_goes_96 pX9_goes_96
  first | rfl | (simp only [qX9_goes_108, zps, zpn, zpbm, zpmb, apply_ite (Option.map _)]; done) | (simp only [qX9_goes_108, zpbm, zpmb, zps, zpn]; repeat' split; all_goals rfl)
def pX9_goes_70 (s0 : Int32) : Option Int32 := if s0 = 0 ∨ s0 = 1 then some (s0) else none
theorem qX9_goes_70 {N : Nat} (s0 : Int32) (x : zv_X) : mX9_goes_70 N s0 x = (pX9_goes_70 s0).map fun v => (x, v) := by
  unfold mX9_goes_70 pX9_goes_70
  first | rfl | (simp only [zps, zpn, zpbm, zpmb, apply_ite (Option.map _)]; done) | (simp only [zpbm, zpmb, zps, zpn]; repeat' split; all_goals rfl)
def pX9_goes_62 (s0 : Int32) (s1 : Int32) : Option Int32 := if s1 = s0 then (pX9_goes_70 (1 : Int32)) else (pX9_goes_70 (0 : Int32))
theorem qX9_goes_62 {N : Nat} (s0 : Int32) (s1 : Int32) (x : zv_X) : mX9_goes_62 N s0 s1 x = (pX9_goes_62 s0 s1).map fun v => (x, v) := by
  unfold mX9_goes_62 pX9_goes_62
  first | rfl | (simp only [qX9_goes_70, zps, zpn, zpbm, zpmb, apply_ite (Option.map _)]; done) | (simp only [qX9_goes_70, zpbm, zpmb, zps, zpn]; repeat' split; all_goals rfl)
def pX9_goes_50 (l1 : Int32) (s0 : Int32) : Option Int32 := if l1 = (198 : Int32) then (pX9_goes_62 (1 : Int32) s0) else (pX9_goes_62 (0 : Int32) s0)
theorem qX9_goes_50 {N : Nat} (l1 : Int32) (s0 : Int32) (x : zv_X) : mX9_goes_50 N l1 s0 x = (pX9_goes_50 l1 s0).map fun v => (x, v) := by
  unfold mX9_goes_50 pX9_goes_50
  first | rfl | (simp only [qX9_goes_62, zps, zpn, zpbm, zpmb, apply_ite (Option.map _)]; done) | (simp only [qX9_goes_62, zpbm, zpmb, zps, zpn]; repeat' split; all_goals rfl)
def pX9_count_78 (s0 : Int32) : Option Int32 := some (s0)
theorem qX9_count_78 {N : Nat} (s0 : Int32) (x : zv_X) : mX9_count_78 N s0 x = (pX9_count_78 s0).map fun v => (x, v) := by
  unfold mX9_count_78 pX9_count_78
  first | rfl | (simp only [zps, zpn, zpbm, zpmb, apply_ite (Option.map _)]; done) | (simp only [zpbm, zpmb, zps, zpn]; repeat' split; all_goals rfl)
def pX8_argumentsIn_23 (l1 : Int32) : Option Int32 := some (l1)
theorem qX8_argumentsIn_23 {N : Nat} (l1 : Int32) (x : zv_X) : mX8_argumentsIn_23 N l1 x = (pX8_argumentsIn_23 l1).map fun v => (x, v) := by
  unfold mX8_argumentsIn_23 pX8_argumentsIn_23
  first | rfl | (simp only [zps, zpn, zpbm, zpmb, apply_ite (Option.map _)]; done) | (simp only [zpbm, zpmb, zps, zpn]; repeat' split; all_goals rfl)
def pX7_has_17 (s0 : Int32) : Option Int32 := if s0 = 0 ∨ s0 = 1 then some (s0) else none
theorem qX7_has_17 {N : Nat} (s0 : Int32) (x : zv_X) : mX7_has_17 N s0 x = (pX7_has_17 s0).map fun v => (x, v) := by
  unfold mX7_has_17 pX7_has_17
  first | rfl | (simp only [zps, zpn, zpbm, zpmb, apply_ite (Option.map _)]; done) | (simp only [zpbm, zpmb, zps, zpn]; repeat' split; all_goals rfl)
def pX7_has_16  : Option Int32 := pX7_has_17 (0 : Int32)
theorem qX7_has_16 {N : Nat}  (x : zv_X) : mX7_has_16 N  x = (pX7_has_16 ).map fun v => (x, v) := by
  unfold mX7_has_16 pX7_has_16
  first | rfl | (simp only [qX7_has_17, zps, zpn, zpbm, zpmb, apply_ite (Option.map _)]; done) | (simp only [qX7_has_17, zpbm, zpmb, zps, zpn]; repeat' split; all_goals rfl)
def pJ8_hugeLength_7cf53_0 (l0 : Int32) (l1 : Int32) : Option Int32 := if 0 ≤ (l0 + l1) then (if (2147483639 : Int32) < (l0 + l1) then (some (l0 + l1)) else (some ((2147483639 : Int32)))) else (none)
theorem qJ8_hugeLength_7cf53_0 {N : Nat} (l0 : Int32) (l1 : Int32) (x : zv_X) : mJ8_hugeLength_7cf53_0 N l0 l1 x = (pJ8_hugeLength_7cf53_0 l0 l1).map fun v => (x, v) := by
  unfold mJ8_hugeLength_7cf53_0 pJ8_hugeLength_7cf53_0
  first | rfl | (simp only [zps, zpn, zpbm, zpmb, apply_ite (Option.map _)]; done) | (simp only [zpbm, zpmb, zps, zpn]; repeat' split; all_goals rfl)
def pJ8_hugeLength_7cf53 (a0 : Int32) (a1 : Int32) : Option Int32 := pJ8_hugeLength_7cf53_0 a0 a1
theorem qJ8_hugeLength_7cf53 {N : Nat} (a0 : Int32) (a1 : Int32) (x : zv_X) : mJ8_hugeLength_7cf53 N a0 a1 x = (pJ8_hugeLength_7cf53 a0 a1).map fun v => (x, v) := by
  unfold mJ8_hugeLength_7cf53 pJ8_hugeLength_7cf53
  first | rfl | (simp only [qJ8_hugeLength_7cf53_0, zps, zpn, zpbm, zpmb, apply_ite (Option.map _)]; done) | (simp only [qJ8_hugeLength_7cf53_0, zpbm, zpmb, zps, zpn]; repeat' split; all_goals rfl)
def pJ8_newLength_cabcc_21 (l0 : Int32) (l1 : Int32) : Option Int32 := (pJ8_hugeLength_7cf53 l0 l1).bind fun o1 => some (o1)
theorem qJ8_newLength_cabcc_21 {N : Nat} (l0 : Int32) (l1 : Int32) (x : zv_X) : mJ8_newLength_cabcc_21 N l0 l1 x = (pJ8_newLength_cabcc_21 l0 l1).map fun v => (x, v) := by
  unfold mJ8_newLength_cabcc_21 pJ8_newLength_cabcc_21
  first | rfl | (simp only [qJ8_hugeLength_7cf53, zps, zpn, zpbm, zpmb, apply_ite (Option.map _)]; done) | (simp only [qJ8_hugeLength_7cf53, zpbm, zpmb, zps, zpn]; repeat' split; all_goals rfl)
def pJ8_newLength_cabcc_0 (l0 : Int32) (l1 : Int32) (l2 : Int32) : Option Int32 := if (l0 + (zm_max l1 l2)) ≤ (0 : Int32) then (pJ8_newLength_cabcc_21 l0 l1) else (if (2147483639 : Int32) < (l0 + (zm_max l1 l2)) then (pJ8_newLength_cabcc_21 l0 l1) else (some (l0 + (zm_max l1 l2))))
theorem qJ8_newLength_cabcc_0 {N : Nat} (l0 : Int32) (l1 : Int32) (l2 : Int32) (x : zv_X) : mJ8_newLength_cabcc_0 N l0 l1 l2 x = (pJ8_newLength_cabcc_0 l0 l1 l2).map fun v => (x, v) := by
  unfold mJ8_newLength_cabcc_0 pJ8_newLength_cabcc_0
  first | rfl | (simp only [qJ8_newLength_cabcc_21, zps, zpn, zpbm, zpmb, apply_ite (Option.map _)]; done) | (simp only [qJ8_newLength_cabcc_21, zpbm, zpmb, zps, zpn]; repeat' split; all_goals rfl)
def pJ8_newLength_cabcc (a0 : Int32) (a1 : Int32) (a2 : Int32) : Option Int32 := pJ8_newLength_cabcc_0 a0 a1 a2
theorem qJ8_newLength_cabcc {N : Nat} (a0 : Int32) (a1 : Int32) (a2 : Int32) (x : zv_X) : mJ8_newLength_cabcc N a0 a1 a2 x = (pJ8_newLength_cabcc a0 a1 a2).map fun v => (x, v) := by
  unfold mJ8_newLength_cabcc pJ8_newLength_cabcc
  first | rfl | (simp only [qJ8_newLength_cabcc_0, zps, zpn, zpbm, zpmb, apply_ite (Option.map _)]; done) | (simp only [qJ8_newLength_cabcc_0, zpbm, zpmb, zps, zpn]; repeat' split; all_goals rfl)
def pX3_commonKinds_0 (l0 : Int32) (l1 : Int32) : Option Int32 := some (l0 &&& (((((l0 ^^^ l1) ||| ((Int32.toUInt32 (l0 ^^^ l1) >>> (Int32.toUInt32 (1 : Int32) &&& Int32.toUInt32 31)).toInt32)) &&& (1431655765 : Int32)) ||| ((((l0 ^^^ l1) ||| ((Int32.toUInt32 (l0 ^^^ l1) >>> (Int32.toUInt32 (1 : Int32) &&& Int32.toUInt32 31)).toInt32)) &&& (1431655765 : Int32)) <<< ((1 : Int32) &&& 31))) ^^^ (-1 : Int32)))
theorem qX3_commonKinds_0 {N : Nat} (l0 : Int32) (l1 : Int32) (x : zv_X) : mX3_commonKinds_0 N l0 l1 x = (pX3_commonKinds_0 l0 l1).map fun v => (x, v) := by
  unfold mX3_commonKinds_0 pX3_commonKinds_0
  first | rfl | (simp only [zps, zpn, zpbm, zpmb, apply_ite (Option.map _)]; done) | (simp only [zpbm, zpmb, zps, zpn]; repeat' split; all_goals rfl)
def pX3_commonKinds (a0 : Int32) (a1 : Int32) : Option Int32 := pX3_commonKinds_0 a0 a1
theorem qX3_commonKinds {N : Nat} (a0 : Int32) (a1 : Int32) (x : zv_X) : mX3_commonKinds N a0 a1 x = (pX3_commonKinds a0 a1).map fun v => (x, v) := by
  unfold mX3_commonKinds pX3_commonKinds
  first | rfl | (simp only [qX3_commonKinds_0, zps, zpn, zpbm, zpmb, apply_ite (Option.map _)]; done) | (simp only [qX3_commonKinds_0, zpbm, zpmb, zps, zpn]; repeat' split; all_goals rfl)
def pX7_kindOfField_19 (s0 : Int32) : Option Int32 := some (s0)
theorem qX7_kindOfField_19 {N : Nat} (s0 : Int32) (x : zv_X) : mX7_kindOfField_19 N s0 x = (pX7_kindOfField_19 s0).map fun v => (x, v) := by
  unfold mX7_kindOfField_19 pX7_kindOfField_19
  first | rfl | (simp only [zps, zpn, zpbm, zpmb, apply_ite (Option.map _)]; done) | (simp only [zpbm, zpmb, zps, zpn]; repeat' split; all_goals rfl)
def pX3_fieldKind_77 (s0 : Int32) : Option Int32 := some (s0)
theorem qX3_fieldKind_77 {N : Nat} (s0 : Int32) (x : zv_X) : mX3_fieldKind_77 N s0 x = (pX3_fieldKind_77 s0).map fun v => (x, v) := by
  unfold mX3_fieldKind_77 pX3_fieldKind_77
  first | rfl | (simp only [zps, zpn, zpbm, zpmb, apply_ite (Option.map _)]; done) | (simp only [zpbm, zpmb, zps, zpn]; repeat' split; all_goals rfl)
def pX3_isSortOfNumbers_28 (s0 : Int32) : Option Int32 := if s0 = 0 ∨ s0 = 1 then some (s0) else none
theorem qX3_isSortOfNumbers_28 {N : Nat} (s0 : Int32) (x : zv_X) : mX3_isSortOfNumbers_28 N s0 x = (pX3_isSortOfNumbers_28 s0).map fun v => (x, v) := by
  unfold mX3_isSortOfNumbers_28 pX3_isSortOfNumbers_28
  first | rfl | (simp only [zps, zpn, zpbm, zpmb, apply_ite (Option.map _)]; done) | (simp only [zpbm, zpmb, zps, zpn]; repeat' split; all_goals rfl)
def pX3_isSortOfNumbers_27  : Option Int32 := pX3_isSortOfNumbers_28 (0 : Int32)
theorem qX3_isSortOfNumbers_27 {N : Nat}  (x : zv_X) : mX3_isSortOfNumbers_27 N  x = (pX3_isSortOfNumbers_27 ).map fun v => (x, v) := by
  unfold mX3_isSortOfNumbers_27 pX3_isSortOfNumbers_27
  first | rfl | (simp only [qX3_isSortOfNumbers_28, zps, zpn, zpbm, zpmb, apply_ite (Option.map _)]; done) | (simp only [qX3_isSortOfNumbers_28, zpbm, zpmb, zps, zpn]; repeat' split; all_goals rfl)
def pX3_isSortOfNumbers_0 (l0 : Int32) : Option Int32 := if l0 < (4 : Int32) then (pX3_isSortOfNumbers_27) else (if (11 : Int32) < l0 then (pX3_isSortOfNumbers_27) else (if l0 = (6 : Int32) then (pX3_isSortOfNumbers_27) else (if l0 = (7 : Int32) then (pX3_isSortOfNumbers_27) else (pX3_isSortOfNumbers_28 (1 : Int32)))))
theorem qX3_isSortOfNumbers_0 {N : Nat} (l0 : Int32) (x : zv_X) : mX3_isSortOfNumbers_0 N l0 x = (pX3_isSortOfNumbers_0 l0).map fun v => (x, v) := by
  unfold mX3_isSortOfNumbers_0 pX3_isSortOfNumbers_0
  first | rfl | (simp only [qX3_isSortOfNumbers_27, qX3_isSortOfNumbers_28, zps, zpn, zpbm, zpmb, apply_ite (Option.map _)]; done) | (simp only [qX3_isSortOfNumbers_27, qX3_isSortOfNumbers_28, zpbm, zpmb, zps, zpn]; repeat' split; all_goals rfl)
def pX3_isSortOfNumbers (a0 : Int32) : Option Int32 := pX3_isSortOfNumbers_0 a0
theorem qX3_isSortOfNumbers {N : Nat} (a0 : Int32) (x : zv_X) : mX3_isSortOfNumbers N a0 x = (pX3_isSortOfNumbers a0).map fun v => (x, v) := by
  unfold mX3_isSortOfNumbers pX3_isSortOfNumbers
  first | rfl | (simp only [qX3_isSortOfNumbers_0, zps, zpn, zpbm, zpmb, apply_ite (Option.map _)]; done) | (simp only [qX3_isSortOfNumbers_0, zpbm, zpmb, zps, zpn]; repeat' split; all_goals rfl)
def pJ3_checkIndex_8e157_9 (l0 : Int32) (l1 : Int32) : Option Int32 := none
theorem qJ3_checkIndex_8e157_9 {N : Nat} (l0 : Int32) (l1 : Int32) (x : zv_X) : mJ3_checkIndex_8e157_9 N l0 l1 x = (pJ3_checkIndex_8e157_9 l0 l1).map fun v => (x, v) := by
  unfold mJ3_checkIndex_8e157_9 pJ3_checkIndex_8e157_9
  first | rfl | (simp only [zps, zpn, zpbm, zpmb, apply_ite (Option.map _)]; done) | (simp only [zpbm, zpmb, zps, zpn]; repeat' split; all_goals rfl)
def pJ3_checkIndex_8e157_0 (l0 : Int32) (l1 : Int32) : Option Int32 := if l0 < 0 then (pJ3_checkIndex_8e157_9 l0 l1) else (if l0 < l1 then (some (l0)) else (pJ3_checkIndex_8e157_9 l0 l1))
theorem qJ3_checkIndex_8e157_0 {N : Nat} (l0 : Int32) (l1 : Int32) (x : zv_X) : mJ3_checkIndex_8e157_0 N l0 l1 x = (pJ3_checkIndex_8e157_0 l0 l1).map fun v => (x, v) := by
  unfold mJ3_checkIndex_8e157_0 pJ3_checkIndex_8e157_0
  first | rfl | (simp only [qJ3_checkIndex_8e157_9, zps, zpn, zpbm, zpmb, apply_ite (Option.map _)]; done) | (simp only [qJ3_checkIndex_8e157_9, zpbm, zpmb, zps, zpn]; repeat' split; all_goals rfl)
def pJ3_checkIndex_8e157 (a0 : Int32) (a1 : Int32) : Option Int32 := pJ3_checkIndex_8e157_0 a0 a1
theorem qJ3_checkIndex_8e157 {N : Nat} (a0 : Int32) (a1 : Int32) (x : zv_X) : mJ3_checkIndex_8e157 N a0 a1 x = (pJ3_checkIndex_8e157 a0 a1).map fun v => (x, v) := by
  unfold mJ3_checkIndex_8e157 pJ3_checkIndex_8e157
  first | rfl | (simp only [qJ3_checkIndex_8e157_0, zps, zpn, zpbm, zpmb, apply_ite (Option.map _)]; done) | (simp only [qJ3_checkIndex_8e157_0, zpbm, zpmb, zps, zpn]; repeat' split; all_goals rfl)
def pJ15_checkIndex_7cf53_0 (l0 : Int32) (l1 : Int32) : Option Int32 := (pJ3_checkIndex_8e157 l0 l1).bind fun o1 => some (o1)
theorem qJ15_checkIndex_7cf53_0 {N : Nat} (l0 : Int32) (l1 : Int32) (x : zv_X) : mJ15_checkIndex_7cf53_0 N l0 l1 x = (pJ15_checkIndex_7cf53_0 l0 l1).map fun v => (x, v) := by
  unfold mJ15_checkIndex_7cf53_0 pJ15_checkIndex_7cf53_0
  first | rfl | (simp only [qJ3_checkIndex_8e157, zps, zpn, zpbm, zpmb, apply_ite (Option.map _)]; done) | (simp only [qJ3_checkIndex_8e157, zpbm, zpmb, zps, zpn]; repeat' split; all_goals rfl)
def pJ15_checkIndex_7cf53 (a0 : Int32) (a1 : Int32) : Option Int32 := pJ15_checkIndex_7cf53_0 a0 a1
theorem qJ15_checkIndex_7cf53 {N : Nat} (a0 : Int32) (a1 : Int32) (x : zv_X) : mJ15_checkIndex_7cf53 N a0 a1 x = (pJ15_checkIndex_7cf53 a0 a1).map fun v => (x, v) := by
  unfold mJ15_checkIndex_7cf53 pJ15_checkIndex_7cf53
  first | rfl | (simp only [qJ15_checkIndex_7cf53_0, zps, zpn, zpbm, zpmb, apply_ite (Option.map _)]; done) | (simp only [qJ15_checkIndex_7cf53_0, zpbm, zpmb, zps, zpn]; repeat' split; all_goals rfl)
def pX5_leaves_0 (l0 : Int32) : Option Int32 := some (l0 &&& (255 : Int32))
theorem qX5_leaves_0 {N : Nat} (l0 : Int32) (x : zv_X) : mX5_leaves_0 N l0 x = (pX5_leaves_0 l0).map fun v => (x, v) := by
  unfold mX5_leaves_0 pX5_leaves_0
  first | rfl | (simp only [zps, zpn, zpbm, zpmb, apply_ite (Option.map _)]; done) | (simp only [zpbm, zpmb, zps, zpn]; repeat' split; all_goals rfl)
def pX5_leaves (a0 : Int32) : Option Int32 := pX5_leaves_0 a0
theorem qX5_leaves {N : Nat} (a0 : Int32) (x : zv_X) : mX5_leaves N a0 x = (pX5_leaves a0).map fun v => (x, v) := by
  unfold mX5_leaves pX5_leaves
  first | rfl | (simp only [qX5_leaves_0, zps, zpn, zpbm, zpmb, apply_ite (Option.map _)]; done) | (simp only [qX5_leaves_0, zpbm, zpmb, zps, zpn]; repeat' split; all_goals rfl)
def pX5_takes_0 (l0 : Int32) : Option Int32 := some ((l0 >>> ((8 : Int32) &&& 31)) &&& (255 : Int32))
theorem qX5_takes_0 {N : Nat} (l0 : Int32) (x : zv_X) : mX5_takes_0 N l0 x = (pX5_takes_0 l0).map fun v => (x, v) := by
  unfold mX5_takes_0 pX5_takes_0
  first | rfl | (simp only [zps, zpn, zpbm, zpmb, apply_ite (Option.map _)]; done) | (simp only [zpbm, zpmb, zps, zpn]; repeat' split; all_goals rfl)
def pX5_takes (a0 : Int32) : Option Int32 := pX5_takes_0 a0
theorem qX5_takes {N : Nat} (a0 : Int32) (x : zv_X) : mX5_takes N a0 x = (pX5_takes a0).map fun v => (x, v) := by
  unfold mX5_takes pX5_takes
  first | rfl | (simp only [qX5_takes_0, zps, zpn, zpbm, zpmb, apply_ite (Option.map _)]; done) | (simp only [qX5_takes_0, zpbm, zpmb, zps, zpn]; repeat' split; all_goals rfl)
def pX6_guards_27 (s0 : Int32) : Option Int32 := if s0 = 0 ∨ s0 = 1 then some (s0) else none
theorem qX6_guards_27 {N : Nat} (s0 : Int32) (x : zv_X) : mX6_guards_27 N s0 x = (pX6_guards_27 s0).map fun v => (x, v) := by
  unfold mX6_guards_27 pX6_guards_27
  first | rfl | (simp only [zps, zpn, zpbm, zpmb, apply_ite (Option.map _)]; done) | (simp only [zpbm, zpmb, zps, zpn]; repeat' split; all_goals rfl)
def pX6_guards_26  : Option Int32 := pX6_guards_27 (0 : Int32)
theorem qX6_guards_26 {N : Nat}  (x : zv_X) : mX6_guards_26 N  x = (pX6_guards_26 ).map fun v => (x, v) := by
  unfold mX6_guards_26 pX6_guards_26
  first | rfl | (simp only [qX6_guards_27, zps, zpn, zpbm, zpmb, apply_ite (Option.map _)]; done) | (simp only [qX6_guards_27, zpbm, zpmb, zps, zpn]; repeat' split; all_goals rfl)
def pX5_bytes_0 (l0 : Int32) : Option Int32 := some (l0 >>> ((16 : Int32) &&& 31))
theorem qX5_bytes_0 {N : Nat} (l0 : Int32) (x : zv_X) : mX5_bytes_0 N l0 x = (pX5_bytes_0 l0).map fun v => (x, v) := by
  unfold mX5_bytes_0 pX5_bytes_0
  first | rfl | (simp only [zps, zpn, zpbm, zpmb, apply_ite (Option.map _)]; done) | (simp only [zpbm, zpmb, zps, zpn]; repeat' split; all_goals rfl)
def pX5_bytes (a0 : Int32) : Option Int32 := pX5_bytes_0 a0
theorem qX5_bytes {N : Nat} (a0 : Int32) (x : zv_X) : mX5_bytes N a0 x = (pX5_bytes a0).map fun v => (x, v) := by
  unfold mX5_bytes pX5_bytes
  first | rfl | (simp only [qX5_bytes_0, zps, zpn, zpbm, zpmb, apply_ite (Option.map _)]; done) | (simp only [qX5_bytes_0, zpbm, zpmb, zps, zpn]; repeat' split; all_goals rfl)
def pX5_goesOn_26 (s0 : Int32) : Option Int32 := if s0 = 0 ∨ s0 = 1 then some (s0) else none
theorem qX5_goesOn_26 {N : Nat} (s0 : Int32) (x : zv_X) : mX5_goesOn_26 N s0 x = (pX5_goesOn_26 s0).map fun v => (x, v) := by
  unfold mX5_goesOn_26 pX5_goesOn_26
  first | rfl | (simp only [zps, zpn, zpbm, zpmb, apply_ite (Option.map _)]; done) | (simp only [zpbm, zpmb, zps, zpn]; repeat' split; all_goals rfl)
def pX5_goesOn_21  : Option Int32 := pX5_goesOn_26 (1 : Int32)
theorem qX5_goesOn_21 {N : Nat}  (x : zv_X) : mX5_goesOn_21 N  x = (pX5_goesOn_21 ).map fun v => (x, v) := by
  unfold mX5_goesOn_21 pX5_goesOn_21
  first | rfl | (simp only [qX5_goesOn_26, zps, zpn, zpbm, zpmb, apply_ite (Option.map _)]; done) | (simp only [qX5_goesOn_26, zpbm, zpmb, zps, zpn]; repeat' split; all_goals rfl)
def pX5_goesOn_25  : Option Int32 := pX5_goesOn_26 (0 : Int32)
theorem qX5_goesOn_25 {N : Nat}  (x : zv_X) : mX5_goesOn_25 N  x = (pX5_goesOn_25 ).map fun v => (x, v) := by
  unfold mX5_goesOn_25 pX5_goesOn_25
  first | rfl | (simp only [qX5_goesOn_26, zps, zpn, zpbm, zpmb, apply_ite (Option.map _)]; done) | (simp only [qX5_goesOn_26, zpbm, zpmb, zps, zpn]; repeat' split; all_goals rfl)
def pX5_goesOn_0 (l0 : Int32) : Option Int32 := if l0 < (167 : Int32) then (pX5_goesOn_21) else (if l0 ≤ (177 : Int32) then (pX5_goesOn_25) else (if l0 = (191 : Int32) then (pX5_goesOn_25) else (pX5_goesOn_21)))
theorem qX5_goesOn_0 {N : Nat} (l0 : Int32) (x : zv_X) : mX5_goesOn_0 N l0 x = (pX5_goesOn_0 l0).map fun v => (x, v) := by
  unfold mX5_goesOn_0 pX5_goesOn_0
  first | rfl | (simp only [qX5_goesOn_21, qX5_goesOn_25, zps, zpn, zpbm, zpmb, apply_ite (Option.map _)]; done) | (simp only [qX5_goesOn_21, qX5_goesOn_25, zpbm, zpmb, zps, zpn]; repeat' split; all_goals rfl)
def pX5_goesOn (a0 : Int32) : Option Int32 := pX5_goesOn_0 a0
theorem qX5_goesOn {N : Nat} (a0 : Int32) (x : zv_X) : mX5_goesOn N a0 x = (pX5_goesOn a0).map fun v => (x, v) := by
  unfold mX5_goesOn pX5_goesOn
  first | rfl | (simp only [qX5_goesOn_0, zps, zpn, zpbm, zpmb, apply_ite (Option.map _)]; done) | (simp only [qX5_goesOn_0, zpbm, zpmb, zps, zpn]; repeat' split; all_goals rfl)
def pX5_jumps_33 (s0 : Int32) : Option Int32 := if s0 = 0 ∨ s0 = 1 then some (s0) else none
theorem qX5_jumps_33 {N : Nat} (s0 : Int32) (x : zv_X) : mX5_jumps_33 N s0 x = (pX5_jumps_33 s0).map fun v => (x, v) := by
  unfold mX5_jumps_33 pX5_jumps_33
  first | rfl | (simp only [zps, zpn, zpbm, zpmb, apply_ite (Option.map _)]; done) | (simp only [zpbm, zpmb, zps, zpn]; repeat' split; all_goals rfl)
def pX5_jumps_28  : Option Int32 := pX5_jumps_33 (1 : Int32)
theorem qX5_jumps_28 {N : Nat}  (x : zv_X) : mX5_jumps_28 N  x = (pX5_jumps_28 ).map fun v => (x, v) := by
  unfold mX5_jumps_28 pX5_jumps_28
  first | rfl | (simp only [qX5_jumps_33, zps, zpn, zpbm, zpmb, apply_ite (Option.map _)]; done) | (simp only [qX5_jumps_33, zpbm, zpmb, zps, zpn]; repeat' split; all_goals rfl)
def pX5_jumps_14 (l0 : Int32) : Option Int32 := if l0 = (198 : Int32) then (pX5_jumps_28) else (if l0 = (199 : Int32) then (pX5_jumps_28) else (pX5_jumps_33 (0 : Int32)))
theorem qX5_jumps_14 {N : Nat} (l0 : Int32) (x : zv_X) : mX5_jumps_14 N l0 x = (pX5_jumps_14 l0).map fun v => (x, v) := by
  unfold mX5_jumps_14 pX5_jumps_14
  first | rfl | (simp only [qX5_jumps_28, qX5_jumps_33, zps, zpn, zpbm, zpmb, apply_ite (Option.map _)]; done) | (simp only [qX5_jumps_28, qX5_jumps_33, zpbm, zpmb, zps, zpn]; repeat' split; all_goals rfl)
def pX5_jumps_0 (l0 : Int32) : Option Int32 := if l0 < (153 : Int32) then (pX5_jumps_14 l0) else (if l0 ≤ (167 : Int32) then (pX5_jumps_28) else (pX5_jumps_14 l0))
theorem qX5_jumps_0 {N : Nat} (l0 : Int32) (x : zv_X) : mX5_jumps_0 N l0 x = (pX5_jumps_0 l0).map fun v => (x, v) := by
  unfold mX5_jumps_0 pX5_jumps_0
  first | rfl | (simp only [qX5_jumps_14, qX5_jumps_28, zps, zpn, zpbm, zpmb, apply_ite (Option.map _)]; done) | (simp only [qX5_jumps_14, qX5_jumps_28, zpbm, zpmb, zps, zpn]; repeat' split; all_goals rfl)
def pX5_jumps (a0 : Int32) : Option Int32 := pX5_jumps_0 a0
theorem qX5_jumps {N : Nat} (a0 : Int32) (x : zv_X) : mX5_jumps N a0 x = (pX5_jumps a0).map fun v => (x, v) := by
  unfold mX5_jumps pX5_jumps
  first | rfl | (simp only [qX5_jumps_0, zps, zpn, zpbm, zpmb, apply_ite (Option.map _)]; done) | (simp only [qX5_jumps_0, zpbm, zpmb, zps, zpn]; repeat' split; all_goals rfl)
def pX5_pack_0 (l0 : Int32) (l1 : Int32) (l2 : Int32) : Option Int32 := some (((l0 <<< ((16 : Int32) &&& 31)) ||| (l1 <<< ((8 : Int32) &&& 31))) ||| l2)
theorem qX5_pack_0 {N : Nat} (l0 : Int32) (l1 : Int32) (l2 : Int32) (x : zv_X) : mX5_pack_0 N l0 l1 l2 x = (pX5_pack_0 l0 l1 l2).map fun v => (x, v) := by
  unfold mX5_pack_0 pX5_pack_0
  first | rfl | (simp only [zps, zpn, zpbm, zpmb, apply_ite (Option.map _)]; done) | (simp only [zpbm, zpmb, zps, zpn]; repeat' split; all_goals rfl)
def pX5_pack (a0 : Int32) (a1 : Int32) (a2 : Int32) : Option Int32 := pX5_pack_0 a0 a1 a2
theorem qX5_pack {N : Nat} (a0 : Int32) (a1 : Int32) (a2 : Int32) (x : zv_X) : mX5_pack N a0 a1 a2 x = (pX5_pack a0 a1 a2).map fun v => (x, v) := by
  unfold mX5_pack pX5_pack
  first | rfl | (simp only [qX5_pack_0, zps, zpn, zpbm, zpmb, apply_ite (Option.map _)]; done) | (simp only [qX5_pack_0, zpbm, zpmb, zps, zpn]; repeat' split; all_goals rfl)
def pX5_shapeOfHeapUse_142  : Option Int32 := some ((0 : Int32))
theorem qX5_shapeOfHeapUse_142 {N : Nat}  (x : zv_X) : mX5_shapeOfHeapUse_142 N  x = (pX5_shapeOfHeapUse_142 ).map fun v => (x, v) := by
  unfold mX5_shapeOfHeapUse_142 pX5_shapeOfHeapUse_142
  first | rfl | (simp only [zps, zpn, zpbm, zpmb, apply_ite (Option.map _)]; done) | (simp only [zpbm, zpmb, zps, zpn]; repeat' split; all_goals rfl)
def pX5_shapeOfHeapUse_0 (l0 : Int32) : Option Int32 := if l0 = (180 : Int32) then ((pX5_pack (3 : Int32) (3 : Int32) (0 : Int32)).bind fun o1 => some (o1)) else if l0 = (181 : Int32) then ((pX5_pack (3 : Int32) (0 : Int32) (0 : Int32)).bind fun o4 => some (o4)) else if l0 = (182 : Int32) then (pX5_shapeOfHeapUse_142) else if l0 = (183 : Int32) then (pX5_shapeOfHeapUse_142) else if l0 = (184 : Int32) then ((pX5_pack (2 : Int32) (0 : Int32) (0 : Int32)).bind fun o9 => some (o9)) else if l0 = (185 : Int32) then (pX5_shapeOfHeapUse_142) else if l0 = (186 : Int32) then (pX5_shapeOfHeapUse_142) else if l0 = (187 : Int32) then ((pX5_pack (2 : Int32) (0 : Int32) (3 : Int32)).bind fun o14 => some (o14)) else if l0 = (188 : Int32) then ((pX5_pack (2 : Int32) (1 : Int32) (3 : Int32)).bind fun o17 => some (o17)) else if l0 = (189 : Int32) then ((pX5_pack (1 : Int32) (1 : Int32) (3 : Int32)).bind fun o20 => some (o20)) else if l0 = (190 : Int32) then ((pX5_pack (1 : Int32) (3 : Int32) (1 : Int32)).bind fun o23 => some (o23)) else if l0 = (191 : Int32) then ((pX5_pack (1 : Int32) (3 : Int32) (0 : Int32)).bind fun o26 => some (o26)) else if l0 = (192 : Int32) then ((pX5_pack (2 : Int32) (3 : Int32) (3 : Int32)).bind fun o29 => some (o29)) else if l0 = (193 : Int32) then ((pX5_pack (2 : Int32) (3 : Int32) (1 : Int32)).bind fun o32 => some (o32)) else (pX5_shapeOfHeapUse_142)
theorem qX5_shapeOfHeapUse_0 {N : Nat} (l0 : Int32) (x : zv_X) : mX5_shapeOfHeapUse_0 N l0 x = (pX5_shapeOfHeapUse_0 l0).map fun v => (x, v) := by
  unfold mX5_shapeOfHeapUse_0 pX5_shapeOfHeapUse_0
  first | rfl | (simp only [qX5_pack, qX5_shapeOfHeapUse_142, zps, zpn, zpbm, zpmb, apply_ite (Option.map _)]; done) | (simp only [qX5_pack, qX5_shapeOfHeapUse_142, zpbm, zpmb, zps, zpn]; repeat' split; all_goals rfl)
def pX5_shapeOfHeapUse (a0 : Int32) : Option Int32 := pX5_shapeOfHeapUse_0 a0
theorem qX5_shapeOfHeapUse {N : Nat} (a0 : Int32) (x : zv_X) : mX5_shapeOfHeapUse N a0 x = (pX5_shapeOfHeapUse a0).map fun v => (x, v) := by
  unfold mX5_shapeOfHeapUse pX5_shapeOfHeapUse
  first | rfl | (simp only [qX5_shapeOfHeapUse_0, zps, zpn, zpbm, zpmb, apply_ite (Option.map _)]; done) | (simp only [qX5_shapeOfHeapUse_0, zpbm, zpmb, zps, zpn]; repeat' split; all_goals rfl)
def pX5_shapeOfMove_498  : Option Int32 := some ((0 : Int32))
theorem qX5_shapeOfMove_498 {N : Nat}  (x : zv_X) : mX5_shapeOfMove_498 N  x = (pX5_shapeOfMove_498 ).map fun v => (x, v) := by
  unfold mX5_shapeOfMove_498 pX5_shapeOfMove_498
  first | rfl | (simp only [zps, zpn, zpbm, zpmb, apply_ite (Option.map _)]; done) | (simp only [zpbm, zpmb, zps, zpn]; repeat' split; all_goals rfl)
def pX5_shapeOfMove_394  : Option Int32 := (pX5_pack (1 : Int32) (0 : Int32) (2 : Int32)).bind fun o1 => some (o1)
theorem qX5_shapeOfMove_394 {N : Nat}  (x : zv_X) : mX5_shapeOfMove_394 N  x = (pX5_shapeOfMove_394 ).map fun v => (x, v) := by
  unfold mX5_shapeOfMove_394 pX5_shapeOfMove_394
  first | rfl | (simp only [qX5_pack, zps, zpn, zpbm, zpmb, apply_ite (Option.map _)]; done) | (simp only [qX5_pack, zpbm, zpmb, zps, zpn]; repeat' split; all_goals rfl)
def pX5_shapeOfMove_401  : Option Int32 := (pX5_pack (2 : Int32) (0 : Int32) (1 : Int32)).bind fun o1 => some (o1)
theorem qX5_shapeOfMove_401 {N : Nat}  (x : zv_X) : mX5_shapeOfMove_401 N  x = (pX5_shapeOfMove_401 ).map fun v => (x, v) := by
  unfold mX5_shapeOfMove_401 pX5_shapeOfMove_401
  first | rfl | (simp only [qX5_pack, zps, zpn, zpbm, zpmb, apply_ite (Option.map _)]; done) | (simp only [qX5_pack, zpbm, zpmb, zps, zpn]; repeat' split; all_goals rfl)
def pX5_shapeOfMove_450  : Option Int32 := (pX5_pack (1 : Int32) (13 : Int32) (1 : Int32)).bind fun o1 => some (o1)
theorem qX5_shapeOfMove_450 {N : Nat}  (x : zv_X) : mX5_shapeOfMove_450 N  x = (pX5_shapeOfMove_450 ).map fun v => (x, v) := by
  unfold mX5_shapeOfMove_450 pX5_shapeOfMove_450
  first | rfl | (simp only [qX5_pack, zps, zpn, zpbm, zpmb, apply_ite (Option.map _)]; done) | (simp only [qX5_pack, zpbm, zpmb, zps, zpn]; repeat' split; all_goals rfl)
def pX5_shapeOfMove_474  : Option Int32 := (pX5_pack (1 : Int32) (53 : Int32) (0 : Int32)).bind fun o1 => some (o1)
theorem qX5_shapeOfMove_474 {N : Nat}  (x : zv_X) : mX5_shapeOfMove_474 N  x = (pX5_shapeOfMove_474 ).map fun v => (x, v) := by
  unfold mX5_shapeOfMove_474 pX5_shapeOfMove_474
  first | rfl | (simp only [qX5_pack, zps, zpn, zpbm, zpmb, apply_ite (Option.map _)]; done) | (simp only [qX5_pack, zpbm, zpmb, zps, zpn]; repeat' split; all_goals rfl)
def pX5_shapeOfMove_18 (l0 : Int32) : Option Int32 := if l0 = (0 : Int32) then ((pX5_pack (1 : Int32) (0 : Int32) (0 : Int32)).bind fun o1 => some (o1)) else if l0 = (1 : Int32) then ((pX5_pack (1 : Int32) (0 : Int32) (3 : Int32)).bind fun o4 => some (o4)) else if l0 = (2 : Int32) then (pX5_shapeOfMove_498) else if l0 = (3 : Int32) then (pX5_shapeOfMove_498) else if l0 = (4 : Int32) then (pX5_shapeOfMove_498) else if l0 = (5 : Int32) then (pX5_shapeOfMove_498) else if l0 = (6 : Int32) then (pX5_shapeOfMove_498) else if l0 = (7 : Int32) then (pX5_shapeOfMove_498) else if l0 = (8 : Int32) then (pX5_shapeOfMove_498) else if l0 = (9 : Int32) then (pX5_shapeOfMove_394) else if l0 = (10 : Int32) then (pX5_shapeOfMove_394) else if l0 = (11 : Int32) then (pX5_shapeOfMove_498) else if l0 = (12 : Int32) then (pX5_shapeOfMove_498) else if l0 = (13 : Int32) then (pX5_shapeOfMove_498) else if l0 = (14 : Int32) then (pX5_shapeOfMove_498) else if l0 = (15 : Int32) then (pX5_shapeOfMove_498) else if l0 = (16 : Int32) then (pX5_shapeOfMove_401) else if l0 = (17 : Int32) then ((pX5_pack (3 : Int32) (0 : Int32) (1 : Int32)).bind fun o22 => some (o22)) else if l0 = (18 : Int32) then (pX5_shapeOfMove_498) else if l0 = (19 : Int32) then (pX5_shapeOfMove_498) else if l0 = (20 : Int32) then (pX5_shapeOfMove_498) else if l0 = (21 : Int32) then (pX5_shapeOfMove_401) else if l0 = (22 : Int32) then ((pX5_pack (2 : Int32) (0 : Int32) (2 : Int32)).bind fun o29 => some (o29)) else if l0 = (23 : Int32) then (pX5_shapeOfMove_498) else if l0 = (24 : Int32) then (pX5_shapeOfMove_498) else if l0 = (25 : Int32) then ((pX5_pack (2 : Int32) (0 : Int32) (3 : Int32)).bind fun o34 => some (o34)) else if l0 = (26 : Int32) then (pX5_shapeOfMove_498) else if l0 = (27 : Int32) then (pX5_shapeOfMove_498) else if l0 = (28 : Int32) then (pX5_shapeOfMove_498) else if l0 = (29 : Int32) then (pX5_shapeOfMove_498) else if l0 = (30 : Int32) then (pX5_shapeOfMove_498) else if l0 = (31 : Int32) then (pX5_shapeOfMove_498) else if l0 = (32 : Int32) then (pX5_shapeOfMove_498) else if l0 = (33 : Int32) then (pX5_shapeOfMove_498) else if l0 = (34 : Int32) then (pX5_shapeOfMove_498) else if l0 = (35 : Int32) then (pX5_shapeOfMove_498) else if l0 = (36 : Int32) then (pX5_shapeOfMove_498) else if l0 = (37 : Int32) then (pX5_shapeOfMove_498) else if l0 = (38 : Int32) then (pX5_shapeOfMove_498) else if l0 = (39 : Int32) then (pX5_shapeOfMove_498) else if l0 = (40 : Int32) then (pX5_shapeOfMove_498) else if l0 = (41 : Int32) then (pX5_shapeOfMove_498) else if l0 = (42 : Int32) then (pX5_shapeOfMove_498) else if l0 = (43 : Int32) then (pX5_shapeOfMove_498) else if l0 = (44 : Int32) then (pX5_shapeOfMove_498) else if l0 = (45 : Int32) then (pX5_shapeOfMove_498) else if l0 = (46 : Int32) then (pX5_shapeOfMove_450) else if l0 = (47 : Int32) then ((pX5_pack (1 : Int32) (13 : Int32) (2 : Int32)).bind fun o58 => some (o58)) else if l0 = (48 : Int32) then (pX5_shapeOfMove_498) else if l0 = (49 : Int32) then (pX5_shapeOfMove_498) else if l0 = (50 : Int32) then ((pX5_pack (1 : Int32) (13 : Int32) (3 : Int32)).bind fun o63 => some (o63)) else if l0 = (51 : Int32) then (pX5_shapeOfMove_450) else if l0 = (52 : Int32) then (pX5_shapeOfMove_450) else if l0 = (53 : Int32) then (pX5_shapeOfMove_450) else if l0 = (54 : Int32) then ((pX5_pack (2 : Int32) (1 : Int32) (0 : Int32)).bind fun o69 => some (o69)) else if l0 = (55 : Int32) then ((pX5_pack (2 : Int32) (2 : Int32) (0 : Int32)).bind fun o72 => some (o72)) else if l0 = (56 : Int32) then (pX5_shapeOfMove_498) else if l0 = (57 : Int32) then (pX5_shapeOfMove_498) else if l0 = (58 : Int32) then ((pX5_pack (2 : Int32) (3 : Int32) (0 : Int32)).bind fun o77 => some (o77)) else if l0 = (59 : Int32) then (pX5_shapeOfMove_498) else if l0 = (60 : Int32) then (pX5_shapeOfMove_498) else if l0 = (61 : Int32) then (pX5_shapeOfMove_498) else if l0 = (62 : Int32) then (pX5_shapeOfMove_498) else if l0 = (63 : Int32) then (pX5_shapeOfMove_498) else if l0 = (64 : Int32) then (pX5_shapeOfMove_498) else if l0 = (65 : Int32) then (pX5_shapeOfMove_498) else if l0 = (66 : Int32) then (pX5_shapeOfMove_498) else if l0 = (67 : Int32) then (pX5_shapeOfMove_498) else if l0 = (68 : Int32) then (pX5_shapeOfMove_498) else if l0 = (69 : Int32) then (pX5_shapeOfMove_498) else if l0 = (70 : Int32) then (pX5_shapeOfMove_498) else if l0 = (71 : Int32) then (pX5_shapeOfMove_498) else if l0 = (72 : Int32) then (pX5_shapeOfMove_498) else if l0 = (73 : Int32) then (pX5_shapeOfMove_498) else if l0 = (74 : Int32) then (pX5_shapeOfMove_498) else if l0 = (75 : Int32) then (pX5_shapeOfMove_498) else if l0 = (76 : Int32) then (pX5_shapeOfMove_498) else if l0 = (77 : Int32) then (pX5_shapeOfMove_498) else if l0 = (78 : Int32) then (pX5_shapeOfMove_498) else if l0 = (79 : Int32) then (pX5_shapeOfMove_474) else if l0 = (80 : Int32) then ((pX5_pack (1 : Int32) (54 : Int32) (0 : Int32)).bind fun o101 => some (o101)) else if l0 = (81 : Int32) then (pX5_shapeOfMove_498) else if l0 = (82 : Int32) then (pX5_shapeOfMove_498) else if l0 = (83 : Int32) then ((pX5_pack (1 : Int32) (55 : Int32) (0 : Int32)).bind fun o106 => some (o106)) else if l0 = (84 : Int32) then (pX5_shapeOfMove_474) else if l0 = (85 : Int32) then (pX5_shapeOfMove_474) else if l0 = (86 : Int32) then (pX5_shapeOfMove_474) else (pX5_shapeOfMove_498)
theorem qX5_shapeOfMove_18 {N : Nat} (l0 : Int32) (x : zv_X) : mX5_shapeOfMove_18 N l0 x = (pX5_shapeOfMove_18 l0).map fun v => (x, v) := by
  unfold mX5_shapeOfMove_18 pX5_shapeOfMove_18
  first | rfl | (simp only [qX5_pack, qX5_shapeOfMove_394, qX5_shapeOfMove_401, qX5_shapeOfMove_450, qX5_shapeOfMove_474, qX5_shapeOfMove_498, zps, zpn, zpbm, zpmb, apply_ite (Option.map _)]; done) | (simp only [qX5_pack, qX5_shapeOfMove_394, qX5_shapeOfMove_401, qX5_shapeOfMove_450, qX5_shapeOfMove_474, qX5_shapeOfMove_498, zpbm, zpmb, zps, zpn]; repeat' split; all_goals rfl)
def pX5_shapeOfMove_0 (l0 : Int32) : Option Int32 := if l0 < (2 : Int32) then (pX5_shapeOfMove_18 l0) else (if (8 : Int32) < l0 then (pX5_shapeOfMove_18 l0) else ((pX5_pack (1 : Int32) (0 : Int32) (1 : Int32)).bind fun o1 => some (o1)))
theorem qX5_shapeOfMove_0 {N : Nat} (l0 : Int32) (x : zv_X) : mX5_shapeOfMove_0 N l0 x = (pX5_shapeOfMove_0 l0).map fun v => (x, v) := by
  unfold mX5_shapeOfMove_0 pX5_shapeOfMove_0
  first | rfl | (simp only [qX5_pack, qX5_shapeOfMove_18, zps, zpn, zpbm, zpmb, apply_ite (Option.map _)]; done) | (simp only [qX5_pack, qX5_shapeOfMove_18, zpbm, zpmb, zps, zpn]; repeat' split; all_goals rfl)
def pX5_shapeOfMove (a0 : Int32) : Option Int32 := pX5_shapeOfMove_0 a0
theorem qX5_shapeOfMove {N : Nat} (a0 : Int32) (x : zv_X) : mX5_shapeOfMove N a0 x = (pX5_shapeOfMove a0).map fun v => (x, v) := by
  unfold mX5_shapeOfMove pX5_shapeOfMove
  first | rfl | (simp only [qX5_shapeOfMove_0, zps, zpn, zpbm, zpmb, apply_ite (Option.map _)]; done) | (simp only [qX5_shapeOfMove_0, zpbm, zpmb, zps, zpn]; repeat' split; all_goals rfl)
def pX5_shapeOfReckoning_264  : Option Int32 := (pX5_pack (1 : Int32) (0 : Int32) (0 : Int32)).bind fun o1 => some (o1)
theorem qX5_shapeOfReckoning_264 {N : Nat}  (x : zv_X) : mX5_shapeOfReckoning_264 N  x = (pX5_shapeOfReckoning_264 ).map fun v => (x, v) := by
  unfold mX5_shapeOfReckoning_264 pX5_shapeOfReckoning_264
  first | rfl | (simp only [qX5_pack, zps, zpn, zpbm, zpmb, apply_ite (Option.map _)]; done) | (simp only [qX5_pack, zpbm, zpmb, zps, zpn]; repeat' split; all_goals rfl)
def pX5_shapeOfReckoning_359  : Option Int32 := some ((0 : Int32))
theorem qX5_shapeOfReckoning_359 {N : Nat}  (x : zv_X) : mX5_shapeOfReckoning_359 N  x = (pX5_shapeOfReckoning_359 ).map fun v => (x, v) := by
  unfold mX5_shapeOfReckoning_359 pX5_shapeOfReckoning_359
  first | rfl | (simp only [zps, zpn, zpbm, zpmb, apply_ite (Option.map _)]; done) | (simp only [zpbm, zpmb, zps, zpn]; repeat' split; all_goals rfl)
def pX5_shapeOfReckoning_278  : Option Int32 := (pX5_pack (1 : Int32) (5 : Int32) (1 : Int32)).bind fun o1 => some (o1)
theorem qX5_shapeOfReckoning_278 {N : Nat}  (x : zv_X) : mX5_shapeOfReckoning_278 N  x = (pX5_shapeOfReckoning_278 ).map fun v => (x, v) := by
  unfold mX5_shapeOfReckoning_278 pX5_shapeOfReckoning_278
  first | rfl | (simp only [qX5_pack, zps, zpn, zpbm, zpmb, apply_ite (Option.map _)]; done) | (simp only [qX5_pack, zpbm, zpmb, zps, zpn]; repeat' split; all_goals rfl)
def pX5_shapeOfReckoning_292  : Option Int32 := (pX5_pack (1 : Int32) (10 : Int32) (2 : Int32)).bind fun o1 => some (o1)
theorem qX5_shapeOfReckoning_292 {N : Nat}  (x : zv_X) : mX5_shapeOfReckoning_292 N  x = (pX5_shapeOfReckoning_292 ).map fun v => (x, v) := by
  unfold mX5_shapeOfReckoning_292 pX5_shapeOfReckoning_292
  first | rfl | (simp only [qX5_pack, zps, zpn, zpbm, zpmb, apply_ite (Option.map _)]; done) | (simp only [qX5_pack, zpbm, zpmb, zps, zpn]; repeat' split; all_goals rfl)
def pX5_shapeOfReckoning_316  : Option Int32 := (pX5_pack (1 : Int32) (1 : Int32) (1 : Int32)).bind fun o1 => some (o1)
theorem qX5_shapeOfReckoning_316 {N : Nat}  (x : zv_X) : mX5_shapeOfReckoning_316 N  x = (pX5_shapeOfReckoning_316 ).map fun v => (x, v) := by
  unfold mX5_shapeOfReckoning_316 pX5_shapeOfReckoning_316
  first | rfl | (simp only [qX5_pack, zps, zpn, zpbm, zpmb, apply_ite (Option.map _)]; done) | (simp only [qX5_pack, zpbm, zpmb, zps, zpn]; repeat' split; all_goals rfl)
def pX5_shapeOfReckoning_285  : Option Int32 := (pX5_pack (1 : Int32) (5 : Int32) (1 : Int32)).bind fun o1 => some (o1)
theorem qX5_shapeOfReckoning_285 {N : Nat}  (x : zv_X) : mX5_shapeOfReckoning_285 N  x = (pX5_shapeOfReckoning_285 ).map fun v => (x, v) := by
  unfold mX5_shapeOfReckoning_285 pX5_shapeOfReckoning_285
  first | rfl | (simp only [qX5_pack, zps, zpn, zpbm, zpmb, apply_ite (Option.map _)]; done) | (simp only [qX5_pack, zpbm, zpmb, zps, zpn]; repeat' split; all_goals rfl)
def pX5_shapeOfReckoning_308  : Option Int32 := (pX5_pack (1 : Int32) (9 : Int32) (2 : Int32)).bind fun o1 => some (o1)
theorem qX5_shapeOfReckoning_308 {N : Nat}  (x : zv_X) : mX5_shapeOfReckoning_308 N  x = (pX5_shapeOfReckoning_308 ).map fun v => (x, v) := by
  unfold mX5_shapeOfReckoning_308 pX5_shapeOfReckoning_308
  first | rfl | (simp only [qX5_pack, zps, zpn, zpbm, zpmb, apply_ite (Option.map _)]; done) | (simp only [qX5_pack, zpbm, zpmb, zps, zpn]; repeat' split; all_goals rfl)
def pX5_shapeOfReckoning_300  : Option Int32 := (pX5_pack (1 : Int32) (10 : Int32) (2 : Int32)).bind fun o1 => some (o1)
theorem qX5_shapeOfReckoning_300 {N : Nat}  (x : zv_X) : mX5_shapeOfReckoning_300 N  x = (pX5_shapeOfReckoning_300 ).map fun v => (x, v) := by
  unfold mX5_shapeOfReckoning_300 pX5_shapeOfReckoning_300
  first | rfl | (simp only [qX5_pack, zps, zpn, zpbm, zpmb, apply_ite (Option.map _)]; done) | (simp only [qX5_pack, zpbm, zpmb, zps, zpn]; repeat' split; all_goals rfl)
def pX5_shapeOfReckoning_0 (l0 : Int32) : Option Int32 := if l0 = (87 : Int32) then (pX5_shapeOfReckoning_264) else if l0 = (88 : Int32) then ((pX5_pack (1 : Int32) (2 : Int32) (0 : Int32)).bind fun o2 => some (o2)) else if l0 = (89 : Int32) then (pX5_shapeOfReckoning_264) else if l0 = (90 : Int32) then (pX5_shapeOfReckoning_359) else if l0 = (91 : Int32) then (pX5_shapeOfReckoning_359) else if l0 = (92 : Int32) then (pX5_shapeOfReckoning_359) else if l0 = (93 : Int32) then (pX5_shapeOfReckoning_359) else if l0 = (94 : Int32) then (pX5_shapeOfReckoning_359) else if l0 = (95 : Int32) then (pX5_shapeOfReckoning_264) else if l0 = (96 : Int32) then (pX5_shapeOfReckoning_278) else if l0 = (97 : Int32) then (pX5_shapeOfReckoning_292) else if l0 = (98 : Int32) then (pX5_shapeOfReckoning_359) else if l0 = (99 : Int32) then (pX5_shapeOfReckoning_359) else if l0 = (100 : Int32) then (pX5_shapeOfReckoning_278) else if l0 = (101 : Int32) then (pX5_shapeOfReckoning_292) else if l0 = (102 : Int32) then (pX5_shapeOfReckoning_359) else if l0 = (103 : Int32) then (pX5_shapeOfReckoning_359) else if l0 = (104 : Int32) then (pX5_shapeOfReckoning_278) else if l0 = (105 : Int32) then (pX5_shapeOfReckoning_292) else if l0 = (106 : Int32) then (pX5_shapeOfReckoning_359) else if l0 = (107 : Int32) then (pX5_shapeOfReckoning_359) else if l0 = (108 : Int32) then (pX5_shapeOfReckoning_278) else if l0 = (109 : Int32) then (pX5_shapeOfReckoning_292) else if l0 = (110 : Int32) then (pX5_shapeOfReckoning_359) else if l0 = (111 : Int32) then (pX5_shapeOfReckoning_359) else if l0 = (112 : Int32) then (pX5_shapeOfReckoning_278) else if l0 = (113 : Int32) then (pX5_shapeOfReckoning_292) else if l0 = (114 : Int32) then (pX5_shapeOfReckoning_359) else if l0 = (115 : Int32) then (pX5_shapeOfReckoning_359) else if l0 = (116 : Int32) then (pX5_shapeOfReckoning_316) else if l0 = (117 : Int32) then ((pX5_pack (1 : Int32) (2 : Int32) (2 : Int32)).bind fun o33 => some (o33)) else if l0 = (118 : Int32) then (pX5_shapeOfReckoning_359) else if l0 = (119 : Int32) then (pX5_shapeOfReckoning_359) else if l0 = (120 : Int32) then (pX5_shapeOfReckoning_285) else if l0 = (121 : Int32) then (pX5_shapeOfReckoning_308) else if l0 = (122 : Int32) then (pX5_shapeOfReckoning_285) else if l0 = (123 : Int32) then (pX5_shapeOfReckoning_308) else if l0 = (124 : Int32) then (pX5_shapeOfReckoning_285) else if l0 = (125 : Int32) then (pX5_shapeOfReckoning_308) else if l0 = (126 : Int32) then (pX5_shapeOfReckoning_285) else if l0 = (127 : Int32) then (pX5_shapeOfReckoning_300) else if l0 = (128 : Int32) then (pX5_shapeOfReckoning_285) else if l0 = (129 : Int32) then (pX5_shapeOfReckoning_300) else if l0 = (130 : Int32) then (pX5_shapeOfReckoning_285) else if l0 = (131 : Int32) then (pX5_shapeOfReckoning_300) else if l0 = (132 : Int32) then ((pX5_pack (3 : Int32) (0 : Int32) (0 : Int32)).bind fun o50 => some (o50)) else if l0 = (133 : Int32) then ((pX5_pack (1 : Int32) (1 : Int32) (2 : Int32)).bind fun o53 => some (o53)) else if l0 = (134 : Int32) then (pX5_shapeOfReckoning_359) else if l0 = (135 : Int32) then (pX5_shapeOfReckoning_359) else if l0 = (136 : Int32) then ((pX5_pack (1 : Int32) (2 : Int32) (1 : Int32)).bind fun o58 => some (o58)) else if l0 = (137 : Int32) then (pX5_shapeOfReckoning_359) else if l0 = (138 : Int32) then (pX5_shapeOfReckoning_359) else if l0 = (139 : Int32) then (pX5_shapeOfReckoning_359) else if l0 = (140 : Int32) then (pX5_shapeOfReckoning_359) else if l0 = (141 : Int32) then (pX5_shapeOfReckoning_359) else if l0 = (142 : Int32) then (pX5_shapeOfReckoning_359) else if l0 = (143 : Int32) then (pX5_shapeOfReckoning_359) else if l0 = (144 : Int32) then (pX5_shapeOfReckoning_359) else if l0 = (145 : Int32) then (pX5_shapeOfReckoning_316) else if l0 = (146 : Int32) then (pX5_shapeOfReckoning_316) else if l0 = (147 : Int32) then (pX5_shapeOfReckoning_316) else if l0 = (148 : Int32) then ((pX5_pack (1 : Int32) (10 : Int32) (1 : Int32)).bind fun o72 => some (o72)) else (pX5_shapeOfReckoning_359)
theorem qX5_shapeOfReckoning_0 {N : Nat} (l0 : Int32) (x : zv_X) : mX5_shapeOfReckoning_0 N l0 x = (pX5_shapeOfReckoning_0 l0).map fun v => (x, v) := by
  unfold mX5_shapeOfReckoning_0 pX5_shapeOfReckoning_0
  first | rfl | (simp only [qX5_pack, qX5_shapeOfReckoning_264, qX5_shapeOfReckoning_278, qX5_shapeOfReckoning_285, qX5_shapeOfReckoning_292, qX5_shapeOfReckoning_300, qX5_shapeOfReckoning_308, qX5_shapeOfReckoning_316, qX5_shapeOfReckoning_359, zps, zpn, zpbm, zpmb, apply_ite (Option.map _)]; done) | (simp only [qX5_pack, qX5_shapeOfReckoning_264, qX5_shapeOfReckoning_278, qX5_shapeOfReckoning_285, qX5_shapeOfReckoning_292, qX5_shapeOfReckoning_300, qX5_shapeOfReckoning_308, qX5_shapeOfReckoning_316, qX5_shapeOfReckoning_359, zpbm, zpmb, zps, zpn]; repeat' split; all_goals rfl)
def pX5_shapeOfReckoning (a0 : Int32) : Option Int32 := pX5_shapeOfReckoning_0 a0
theorem qX5_shapeOfReckoning {N : Nat} (a0 : Int32) (x : zv_X) : mX5_shapeOfReckoning N a0 x = (pX5_shapeOfReckoning a0).map fun v => (x, v) := by
  unfold mX5_shapeOfReckoning pX5_shapeOfReckoning
  first | rfl | (simp only [qX5_shapeOfReckoning_0, zps, zpn, zpbm, zpmb, apply_ite (Option.map _)]; done) | (simp only [qX5_shapeOfReckoning_0, zpbm, zpmb, zps, zpn]; repeat' split; all_goals rfl)
def pX5_shapeOfWay_184  : Option Int32 := (pX5_pack (3 : Int32) (15 : Int32) (0 : Int32)).bind fun o1 => some (o1)
theorem qX5_shapeOfWay_184 {N : Nat}  (x : zv_X) : mX5_shapeOfWay_184 N  x = (pX5_shapeOfWay_184 ).map fun v => (x, v) := by
  unfold mX5_shapeOfWay_184 pX5_shapeOfWay_184
  first | rfl | (simp only [qX5_pack, zps, zpn, zpbm, zpmb, apply_ite (Option.map _)]; done) | (simp only [qX5_pack, zpbm, zpmb, zps, zpn]; repeat' split; all_goals rfl)
def pX5_shapeOfWay_234  : Option Int32 := some ((0 : Int32))
theorem qX5_shapeOfWay_234 {N : Nat}  (x : zv_X) : mX5_shapeOfWay_234 N  x = (pX5_shapeOfWay_234 ).map fun v => (x, v) := by
  unfold mX5_shapeOfWay_234 pX5_shapeOfWay_234
  first | rfl | (simp only [zps, zpn, zpbm, zpmb, apply_ite (Option.map _)]; done) | (simp only [zpbm, zpmb, zps, zpn]; repeat' split; all_goals rfl)
def pX5_shapeOfWay_192  : Option Int32 := (pX5_pack (3 : Int32) (3 : Int32) (0 : Int32)).bind fun o1 => some (o1)
theorem qX5_shapeOfWay_192 {N : Nat}  (x : zv_X) : mX5_shapeOfWay_192 N  x = (pX5_shapeOfWay_192 ).map fun v => (x, v) := by
  unfold mX5_shapeOfWay_192 pX5_shapeOfWay_192
  first | rfl | (simp only [qX5_pack, zps, zpn, zpbm, zpmb, apply_ite (Option.map _)]; done) | (simp only [qX5_pack, zpbm, zpmb, zps, zpn]; repeat' split; all_goals rfl)
def pX5_shapeOfWay_0 (l0 : Int32) : Option Int32 := if (158 : Int32) < l0 then (if (164 : Int32) < l0 then (if l0 = (165 : Int32) then (pX5_shapeOfWay_184) else if l0 = (166 : Int32) then (pX5_shapeOfWay_184) else if l0 = (167 : Int32) then ((pX5_pack (3 : Int32) (0 : Int32) (0 : Int32)).bind fun o3 => some (o3)) else if l0 = (168 : Int32) then (pX5_shapeOfWay_234) else if l0 = (169 : Int32) then (pX5_shapeOfWay_234) else if l0 = (170 : Int32) then (pX5_shapeOfWay_234) else if l0 = (171 : Int32) then (pX5_shapeOfWay_234) else if l0 = (172 : Int32) then ((pX5_pack (1 : Int32) (1 : Int32) (0 : Int32)).bind fun o10 => some (o10)) else if l0 = (173 : Int32) then ((pX5_pack (1 : Int32) (2 : Int32) (0 : Int32)).bind fun o13 => some (o13)) else if l0 = (174 : Int32) then (pX5_shapeOfWay_234) else if l0 = (175 : Int32) then (pX5_shapeOfWay_234) else if l0 = (176 : Int32) then ((pX5_pack (1 : Int32) (3 : Int32) (0 : Int32)).bind fun o18 => some (o18)) else if l0 = (177 : Int32) then ((pX5_pack (1 : Int32) (0 : Int32) (0 : Int32)).bind fun o21 => some (o21)) else if l0 = (178 : Int32) then (pX5_shapeOfWay_234) else if l0 = (179 : Int32) then (pX5_shapeOfWay_234) else if l0 = (180 : Int32) then (pX5_shapeOfWay_234) else if l0 = (181 : Int32) then (pX5_shapeOfWay_234) else if l0 = (182 : Int32) then (pX5_shapeOfWay_234) else if l0 = (183 : Int32) then (pX5_shapeOfWay_234) else if l0 = (184 : Int32) then (pX5_shapeOfWay_234) else if l0 = (185 : Int32) then (pX5_shapeOfWay_234) else if l0 = (186 : Int32) then (pX5_shapeOfWay_234) else if l0 = (187 : Int32) then (pX5_shapeOfWay_234) else if l0 = (188 : Int32) then (pX5_shapeOfWay_234) else if l0 = (189 : Int32) then (pX5_shapeOfWay_234) else if l0 = (190 : Int32) then (pX5_shapeOfWay_234) else if l0 = (191 : Int32) then (pX5_shapeOfWay_234) else if l0 = (192 : Int32) then (pX5_shapeOfWay_234) else if l0 = (193 : Int32) then (pX5_shapeOfWay_234) else if l0 = (194 : Int32) then (pX5_shapeOfWay_234) else if l0 = (195 : Int32) then (pX5_shapeOfWay_234) else if l0 = (196 : Int32) then (pX5_shapeOfWay_234) else if l0 = (197 : Int32) then (pX5_shapeOfWay_234) else if l0 = (198 : Int32) then (pX5_shapeOfWay_192) else if l0 = (199 : Int32) then (pX5_shapeOfWay_192) else (pX5_shapeOfWay_234)) else ((pX5_pack (3 : Int32) (5 : Int32) (0 : Int32)).bind fun o46 => some (o46))) else ((pX5_pack (3 : Int32) (1 : Int32) (0 : Int32)).bind fun o49 => some (o49))
theorem qX5_shapeOfWay_0 {N : Nat} (l0 : Int32) (x : zv_X) : mX5_shapeOfWay_0 N l0 x = (pX5_shapeOfWay_0 l0).map fun v => (x, v) := by
  unfold mX5_shapeOfWay_0 pX5_shapeOfWay_0
  first | rfl | (simp only [qX5_pack, qX5_shapeOfWay_184, qX5_shapeOfWay_192, qX5_shapeOfWay_234, zps, zpn, zpbm, zpmb, apply_ite (Option.map _)]; done) | (simp only [qX5_pack, qX5_shapeOfWay_184, qX5_shapeOfWay_192, qX5_shapeOfWay_234, zpbm, zpmb, zps, zpn]; repeat' split; all_goals rfl)
def pX5_shapeOfWay (a0 : Int32) : Option Int32 := pX5_shapeOfWay_0 a0
theorem qX5_shapeOfWay {N : Nat} (a0 : Int32) (x : zv_X) : mX5_shapeOfWay N a0 x = (pX5_shapeOfWay a0).map fun v => (x, v) := by
  unfold mX5_shapeOfWay pX5_shapeOfWay
  first | rfl | (simp only [qX5_shapeOfWay_0, zps, zpn, zpbm, zpmb, apply_ite (Option.map _)]; done) | (simp only [qX5_shapeOfWay_0, zpbm, zpmb, zps, zpn]; repeat' split; all_goals rfl)
def pX5_shape_48 (s0 : Int32) : Option Int32 := some (s0)
theorem qX5_shape_48 {N : Nat} (s0 : Int32) (x : zv_X) : mX5_shape_48 N s0 x = (pX5_shape_48 s0).map fun v => (x, v) := by
  unfold mX5_shape_48 pX5_shape_48
  first | rfl | (simp only [zps, zpn, zpbm, zpmb, apply_ite (Option.map _)]; done) | (simp only [zpbm, zpmb, zps, zpn]; repeat' split; all_goals rfl)
def pX5_shape_37 (l0 : Int32) : Option Int32 := (pX5_shapeOfWay l0).bind fun o1 => pX5_shape_48 o1
theorem qX5_shape_37 {N : Nat} (l0 : Int32) (x : zv_X) : mX5_shape_37 N l0 x = (pX5_shape_37 l0).map fun v => (x, v) := by
  unfold mX5_shape_37 pX5_shape_37
  first | rfl | (simp only [qX5_shapeOfWay, qX5_shape_48, zps, zpn, zpbm, zpmb, apply_ite (Option.map _)]; done) | (simp only [qX5_shapeOfWay, qX5_shape_48, zpbm, zpmb, zps, zpn]; repeat' split; all_goals rfl)
def pX5_shape_0 (l0 : Int32) : Option Int32 := if (87 : Int32) ≤ l0 then (if (153 : Int32) ≤ l0 then (if l0 < (180 : Int32) then (pX5_shape_37 l0) else (if l0 < (198 : Int32) then ((pX5_shapeOfHeapUse l0).bind fun o1 => pX5_shape_48 o1) else (pX5_shape_37 l0))) else ((pX5_shapeOfReckoning l0).bind fun o5 => some (o5))) else ((pX5_shapeOfMove l0).bind fun o8 => some (o8))
theorem qX5_shape_0 {N : Nat} (l0 : Int32) (x : zv_X) : mX5_shape_0 N l0 x = (pX5_shape_0 l0).map fun v => (x, v) := by
  unfold mX5_shape_0 pX5_shape_0
  first | rfl | (simp only [qX5_shapeOfHeapUse, qX5_shapeOfMove, qX5_shapeOfReckoning, qX5_shape_37, qX5_shape_48, zps, zpn, zpbm, zpmb, apply_ite (Option.map _)]; done) | (simp only [qX5_shapeOfHeapUse, qX5_shapeOfMove, qX5_shapeOfReckoning, qX5_shape_37, qX5_shape_48, zpbm, zpmb, zps, zpn]; repeat' split; all_goals rfl)
def pX5_shape (a0 : Int32) : Option Int32 := pX5_shape_0 a0
theorem qX5_shape {N : Nat} (a0 : Int32) (x : zv_X) : mX5_shape N a0 x = (pX5_shape a0).map fun v => (x, v) := by
  unfold mX5_shape pX5_shape
  first | rfl | (simp only [qX5_shape_0, zps, zpn, zpbm, zpmb, apply_ite (Option.map _)]; done) | (simp only [qX5_shape_0, zpbm, zpmb, zps, zpn]; repeat' split; all_goals rfl)
def pX2_reachedWords_51 (l1 : Int32) : Option Int32 := some (l1)
theorem qX2_reachedWords_51 {N : Nat} (l1 : Int32) (x : zv_X) : mX2_reachedWords_51 N l1 x = (pX2_reachedWords_51 l1).map fun v => (x, v) := by
  unfold mX2_reachedWords_51 pX2_reachedWords_51
  first | rfl | (simp only [zps, zpn, zpbm, zpmb, apply_ite (Option.map _)]; done) | (simp only [zpbm, zpmb, zps, zpn]; repeat' split; all_goals rfl)
def pX2_classes_23 (s0 : Int32) : Option Int32 := some (s0)
theorem qX2_classes_23 {N : Nat} (s0 : Int32) (x : zv_X) : mX2_classes_23 N s0 x = (pX2_classes_23 s0).map fun v => (x, v) := by
  unfold mX2_classes_23 pX2_classes_23
  first | rfl | (simp only [zps, zpn, zpbm, zpmb, apply_ite (Option.map _)]; done) | (simp only [zpbm, zpmb, zps, zpn]; repeat' split; all_goals rfl)
def pX4_holds_47 (s0 : Int32) : Option Int32 := if s0 = 0 ∨ s0 = 1 then some (s0) else none
theorem qX4_holds_47 {N : Nat} (s0 : Int32) (x : zv_X) : mX4_holds_47 N s0 x = (pX4_holds_47 s0).map fun v => (x, v) := by
  unfold mX4_holds_47 pX4_holds_47
  first | rfl | (simp only [zps, zpn, zpbm, zpmb, apply_ite (Option.map _)]; done) | (simp only [zpbm, zpmb, zps, zpn]; repeat' split; all_goals rfl)
def pX4_holds_59 (s0 : Int32) : Option Int32 := if s0 = 0 ∨ s0 = 1 then some (s0) else none
theorem qX4_holds_59 {N : Nat} (s0 : Int32) (x : zv_X) : mX4_holds_59 N s0 x = (pX4_holds_59 s0).map fun v => (x, v) := by
  unfold mX4_holds_59 pX4_holds_59
  first | rfl | (simp only [zps, zpn, zpbm, zpmb, apply_ite (Option.map _)]; done) | (simp only [zpbm, zpmb, zps, zpn]; repeat' split; all_goals rfl)
def pX4_holds_71 (s0 : Int32) : Option Int32 := if s0 = 0 ∨ s0 = 1 then some (s0) else none
theorem qX4_holds_71 {N : Nat} (s0 : Int32) (x : zv_X) : mX4_holds_71 N s0 x = (pX4_holds_71 s0).map fun v => (x, v) := by
  unfold mX4_holds_71 pX4_holds_71
  first | rfl | (simp only [zps, zpn, zpbm, zpmb, apply_ite (Option.map _)]; done) | (simp only [zpbm, zpmb, zps, zpn]; repeat' split; all_goals rfl)
def pX4_holds_83 (s0 : Int32) : Option Int32 := if s0 = 0 ∨ s0 = 1 then some (s0) else none
theorem qX4_holds_83 {N : Nat} (s0 : Int32) (x : zv_X) : mX4_holds_83 N s0 x = (pX4_holds_83 s0).map fun v => (x, v) := by
  unfold mX4_holds_83 pX4_holds_83
  first | rfl | (simp only [zps, zpn, zpbm, zpmb, apply_ite (Option.map _)]; done) | (simp only [zpbm, zpmb, zps, zpn]; repeat' split; all_goals rfl)
def pX4_holds_95 (s0 : Int32) : Option Int32 := if s0 = 0 ∨ s0 = 1 then some (s0) else none
theorem qX4_holds_95 {N : Nat} (s0 : Int32) (x : zv_X) : mX4_holds_95 N s0 x = (pX4_holds_95 s0).map fun v => (x, v) := by
  unfold mX4_holds_95 pX4_holds_95
  first | rfl | (simp only [zps, zpn, zpbm, zpmb, apply_ite (Option.map _)]; done) | (simp only [zpbm, zpmb, zps, zpn]; repeat' split; all_goals rfl)
def pX4_holds_107 (s0 : Int32) : Option Int32 := if s0 = 0 ∨ s0 = 1 then some (s0) else none
theorem qX4_holds_107 {N : Nat} (s0 : Int32) (x : zv_X) : mX4_holds_107 N s0 x = (pX4_holds_107 s0).map fun v => (x, v) := by
  unfold mX4_holds_107 pX4_holds_107
  first | rfl | (simp only [zps, zpn, zpbm, zpmb, apply_ite (Option.map _)]; done) | (simp only [zpbm, zpmb, zps, zpn]; repeat' split; all_goals rfl)
def pX4_holds_0 (l0 : Int32) (l1 : Int64) (l3 : Int64) : Option Int32 := if l0 = (153 : Int32) then (if (lg_cmp l1 l3) = 0 then (pX4_holds_47 (1 : Int32)) else (pX4_holds_47 (0 : Int32))) else if l0 = (154 : Int32) then (if (lg_cmp l1 l3) = 0 then (pX4_holds_59 (0 : Int32)) else (pX4_holds_59 (1 : Int32))) else if l0 = (155 : Int32) then (if 0 ≤ (lg_cmp l1 l3) then (pX4_holds_71 (0 : Int32)) else (pX4_holds_71 (1 : Int32))) else if l0 = (156 : Int32) then (if (lg_cmp l1 l3) < 0 then (pX4_holds_83 (0 : Int32)) else (pX4_holds_83 (1 : Int32))) else if l0 = (157 : Int32) then (if (lg_cmp l1 l3) ≤ 0 then (pX4_holds_95 (0 : Int32)) else (pX4_holds_95 (1 : Int32))) else (if 0 < (lg_cmp l1 l3) then (pX4_holds_107 (0 : Int32)) else (pX4_holds_107 (1 : Int32)))
theorem qX4_holds_0 {N : Nat} (l0 : Int32) (l1 : Int64) (l3 : Int64) (x : zv_X) : mX4_holds_0 N l0 l1 l3 x = (pX4_holds_0 l0 l1 l3).map fun v => (x, v) := by
  unfold mX4_holds_0 pX4_holds_0
  first | rfl | (simp only [qX4_holds_107, qX4_holds_47, qX4_holds_59, qX4_holds_71, qX4_holds_83, qX4_holds_95, zps, zpn, zpbm, zpmb, apply_ite (Option.map _)]; done) | (simp only [qX4_holds_107, qX4_holds_47, qX4_holds_59, qX4_holds_71, qX4_holds_83, qX4_holds_95, zpbm, zpmb, zps, zpn]; repeat' split; all_goals rfl)
def pX4_holds (a0 : Int32) (a1 : Int64) (a2 : Int64) : Option Int32 := pX4_holds_0 a0 a1 a2
theorem qX4_holds {N : Nat} (a0 : Int32) (a1 : Int64) (a2 : Int64) (x : zv_X) : mX4_holds N a0 a1 a2 x = (pX4_holds a0 a1 a2).map fun v => (x, v) := by
  unfold mX4_holds pX4_holds
  first | rfl | (simp only [qX4_holds_0, zps, zpn, zpbm, zpmb, apply_ite (Option.map _)]; done) | (simp only [qX4_holds_0, zpbm, zpmb, zps, zpn]; repeat' split; all_goals rfl)
def pX4_isOf_21 (s0 : Int32) : Option Int32 := if s0 = 0 ∨ s0 = 1 then some (s0) else none
theorem qX4_isOf_21 {N : Nat} (s0 : Int32) (x : zv_X) : mX4_isOf_21 N s0 x = (pX4_isOf_21 s0).map fun v => (x, v) := by
  unfold mX4_isOf_21 pX4_isOf_21
  first | rfl | (simp only [zps, zpn, zpbm, zpmb, apply_ite (Option.map _)]; done) | (simp only [zpbm, zpmb, zps, zpn]; repeat' split; all_goals rfl)
def pX4_cast_38 (s0 : Int32) : Option Int32 := some (s0)
theorem qX4_cast_38 {N : Nat} (s0 : Int32) (x : zv_X) : mX4_cast_38 N s0 x = (pX4_cast_38 s0).map fun v => (x, v) := by
  unfold mX4_cast_38 pX4_cast_38
  first | rfl | (simp only [zps, zpn, zpbm, zpmb, apply_ite (Option.map _)]; done) | (simp only [zpbm, zpmb, zps, zpn]; repeat' split; all_goals rfl)
def pJ13_compare_74951_21 (s0 : Int32) : Option Int32 := some (s0)
theorem qJ13_compare_74951_21 {N : Nat} (s0 : Int32) (x : zv_X) : mJ13_compare_74951_21 N s0 x = (pJ13_compare_74951_21 s0).map fun v => (x, v) := by
  unfold mJ13_compare_74951_21 pJ13_compare_74951_21
  first | rfl | (simp only [zps, zpn, zpbm, zpmb, apply_ite (Option.map _)]; done) | (simp only [zpbm, zpmb, zps, zpn]; repeat' split; all_goals rfl)
def pJ13_compare_74951_0 (l0 : Int64) (l2 : Int64) : Option Int32 := if 0 ≤ (lg_cmp l0 l2) then (if (lg_cmp l0 l2) = 0 then (pJ13_compare_74951_21 (0 : Int32)) else (pJ13_compare_74951_21 (1 : Int32))) else (pJ13_compare_74951_21 (-1 : Int32))
theorem qJ13_compare_74951_0 {N : Nat} (l0 : Int64) (l2 : Int64) (x : zv_X) : mJ13_compare_74951_0 N l0 l2 x = (pJ13_compare_74951_0 l0 l2).map fun v => (x, v) := by
  unfold mJ13_compare_74951_0 pJ13_compare_74951_0
  first | rfl | (simp only [qJ13_compare_74951_21, zps, zpn, zpbm, zpmb, apply_ite (Option.map _)]; done) | (simp only [qJ13_compare_74951_21, zpbm, zpmb, zps, zpn]; repeat' split; all_goals rfl)
def pJ13_compare_74951 (a0 : Int64) (a1 : Int64) : Option Int32 := pJ13_compare_74951_0 a0 a1
theorem qJ13_compare_74951 {N : Nat} (a0 : Int64) (a1 : Int64) (x : zv_X) : mJ13_compare_74951 N a0 a1 x = (pJ13_compare_74951 a0 a1).map fun v => (x, v) := by
  unfold mJ13_compare_74951 pJ13_compare_74951
  first | rfl | (simp only [qJ13_compare_74951_0, zps, zpn, zpbm, zpmb, apply_ite (Option.map _)]; done) | (simp only [qJ13_compare_74951_0, zpbm, zpmb, zps, zpn]; repeat' split; all_goals rfl)
def pX4_converted_0 (l0 : Int32) (l1 : Int64) : Option Int64 := if l0 = (136 : Int32) then (some (Int32.toInt64 (Int64.toInt32 l1))) else if l0 = (145 : Int32) then (some (Int32.toInt64 ((Int32.toInt8 (Int64.toInt32 l1)).toInt32))) else if l0 = (146 : Int32) then (some (Int32.toInt64 ((Int32.toUInt32 (Int64.toInt32 l1) % 65536).toInt32))) else if l0 = (147 : Int32) then (some (Int32.toInt64 ((Int32.toInt16 (Int64.toInt32 l1)).toInt32))) else (some (l1))
theorem qX4_converted_0 {N : Nat} (l0 : Int32) (l1 : Int64) (x : zv_X) : mX4_converted_0 N l0 l1 x = (pX4_converted_0 l0 l1).map fun v => (x, v) := by
  unfold mX4_converted_0 pX4_converted_0
  first | rfl | (simp only [zps, zpn, zpbm, zpmb, apply_ite (Option.map _)]; done) | (simp only [zpbm, zpmb, zps, zpn]; repeat' split; all_goals rfl)
def pX4_converted (a0 : Int32) (a1 : Int64) : Option Int64 := pX4_converted_0 a0 a1
theorem qX4_converted {N : Nat} (a0 : Int32) (a1 : Int64) (x : zv_X) : mX4_converted N a0 a1 x = (pX4_converted a0 a1).map fun v => (x, v) := by
  unfold mX4_converted pX4_converted
  first | rfl | (simp only [qX4_converted_0, zps, zpn, zpbm, zpmb, apply_ite (Option.map _)]; done) | (simp only [qX4_converted_0, zpbm, zpmb, zps, zpn]; repeat' split; all_goals rfl)
def pX4_leave_61  : Option Int32 := some ((0 : Int32))
theorem qX4_leave_61 {N : Nat}  (x : zv_X) : mX4_leave_61 N  x = (pX4_leave_61 ).map fun v => (x, v) := by
  unfold mX4_leave_61 pX4_leave_61
  first | rfl | (simp only [zps, zpn, zpbm, zpmb, apply_ite (Option.map _)]; done) | (simp only [zpbm, zpmb, zps, zpn]; repeat' split; all_goals rfl)
def pX4_isForSort_59 (s0 : Int32) : Option Int32 := if s0 = 0 ∨ s0 = 1 then some (s0) else none
theorem qX4_isForSort_59 {N : Nat} (s0 : Int32) (x : zv_X) : mX4_isForSort_59 N s0 x = (pX4_isForSort_59 s0).map fun v => (x, v) := by
  unfold mX4_isForSort_59 pX4_isForSort_59
  first | rfl | (simp only [zps, zpn, zpbm, zpmb, apply_ite (Option.map _)]; done) | (simp only [zpbm, zpmb, zps, zpn]; repeat' split; all_goals rfl)
def pX4_isForSort_71 (s0 : Int32) : Option Int32 := if s0 = 0 ∨ s0 = 1 then some (s0) else none
theorem qX4_isForSort_71 {N : Nat} (s0 : Int32) (x : zv_X) : mX4_isForSort_71 N s0 x = (pX4_isForSort_71 s0).map fun v => (x, v) := by
  unfold mX4_isForSort_71 pX4_isForSort_71
  first | rfl | (simp only [zps, zpn, zpbm, zpmb, apply_ite (Option.map _)]; done) | (simp only [zpbm, zpmb, zps, zpn]; repeat' split; all_goals rfl)
def pX4_isForSort_123 (s0 : Int32) : Option Int32 := if s0 = 0 ∨ s0 = 1 then some (s0) else none
theorem qX4_isForSort_123 {N : Nat} (s0 : Int32) (x : zv_X) : mX4_isForSort_123 N s0 x = (pX4_isForSort_123 s0).map fun v => (x, v) := by
  unfold mX4_isForSort_123 pX4_isForSort_123
  first | rfl | (simp only [zps, zpn, zpbm, zpmb, apply_ite (Option.map _)]; done) | (simp only [zpbm, zpmb, zps, zpn]; repeat' split; all_goals rfl)
def pX4_isForSort_112 (l1 : Int32) : Option Int32 := if l1 = (9 : Int32) then (pX4_isForSort_123 (1 : Int32)) else (pX4_isForSort_123 (0 : Int32))
theorem qX4_isForSort_112 {N : Nat} (l1 : Int32) (x : zv_X) : mX4_isForSort_112 N l1 x = (pX4_isForSort_112 l1).map fun v => (x, v) := by
  unfold mX4_isForSort_112 pX4_isForSort_112
  first | rfl | (simp only [qX4_isForSort_123, zps, zpn, zpbm, zpmb, apply_ite (Option.map _)]; done) | (simp only [qX4_isForSort_123, zpbm, zpmb, zps, zpn]; repeat' split; all_goals rfl)
def pX4_isForSort_83 (s0 : Int32) : Option Int32 := if s0 = 0 ∨ s0 = 1 then some (s0) else none
theorem qX4_isForSort_83 {N : Nat} (s0 : Int32) (x : zv_X) : mX4_isForSort_83 N s0 x = (pX4_isForSort_83 s0).map fun v => (x, v) := by
  unfold mX4_isForSort_83 pX4_isForSort_83
  first | rfl | (simp only [zps, zpn, zpbm, zpmb, apply_ite (Option.map _)]; done) | (simp only [zpbm, zpmb, zps, zpn]; repeat' split; all_goals rfl)
def pX4_isForSort_100 (s0 : Int32) : Option Int32 := if s0 = 0 ∨ s0 = 1 then some (s0) else none
theorem qX4_isForSort_100 {N : Nat} (s0 : Int32) (x : zv_X) : mX4_isForSort_100 N s0 x = (pX4_isForSort_100 s0).map fun v => (x, v) := by
  unfold mX4_isForSort_100 pX4_isForSort_100
  first | rfl | (simp only [zps, zpn, zpbm, zpmb, apply_ite (Option.map _)]; done) | (simp only [zpbm, zpmb, zps, zpn]; repeat' split; all_goals rfl)
def pX4_isForSort_95  : Option Int32 := pX4_isForSort_100 (1 : Int32)
theorem qX4_isForSort_95 {N : Nat}  (x : zv_X) : mX4_isForSort_95 N  x = (pX4_isForSort_95 ).map fun v => (x, v) := by
  unfold mX4_isForSort_95 pX4_isForSort_95
  first | rfl | (simp only [qX4_isForSort_100, zps, zpn, zpbm, zpmb, apply_ite (Option.map _)]; done) | (simp only [qX4_isForSort_100, zpbm, zpmb, zps, zpn]; repeat' split; all_goals rfl)
def pX4_isForSort_111 (s0 : Int32) : Option Int32 := if s0 = 0 ∨ s0 = 1 then some (s0) else none
theorem qX4_isForSort_111 {N : Nat} (s0 : Int32) (x : zv_X) : mX4_isForSort_111 N s0 x = (pX4_isForSort_111 s0).map fun v => (x, v) := by
  unfold mX4_isForSort_111 pX4_isForSort_111
  first | rfl | (simp only [zps, zpn, zpbm, zpmb, apply_ite (Option.map _)]; done) | (simp only [zpbm, zpmb, zps, zpn]; repeat' split; all_goals rfl)
def pX4_isForSort_0 (l0 : Int32) (l1 : Int32) : Option Int32 := if (l0 + (46 : Int32)) = (46 : Int32) then (if l1 = (10 : Int32) then (pX4_isForSort_59 (1 : Int32)) else (pX4_isForSort_59 (0 : Int32))) else if (l0 + (46 : Int32)) = (47 : Int32) then (if l1 = (11 : Int32) then (pX4_isForSort_71 (1 : Int32)) else (pX4_isForSort_71 (0 : Int32))) else if (l0 + (46 : Int32)) = (48 : Int32) then (pX4_isForSort_112 l1) else if (l0 + (46 : Int32)) = (49 : Int32) then (pX4_isForSort_112 l1) else if (l0 + (46 : Int32)) = (50 : Int32) then (if l1 = (12 : Int32) then (pX4_isForSort_83 (1 : Int32)) else (pX4_isForSort_83 (0 : Int32))) else if (l0 + (46 : Int32)) = (51 : Int32) then (if l1 = (8 : Int32) then (pX4_isForSort_95) else (if l1 = (4 : Int32) then (pX4_isForSort_95) else (pX4_isForSort_100 (0 : Int32)))) else if (l0 + (46 : Int32)) = (52 : Int32) then (if l1 = (5 : Int32) then (pX4_isForSort_111 (1 : Int32)) else (pX4_isForSort_111 (0 : Int32))) else (pX4_isForSort_112 l1)
theorem qX4_isForSort_0 {N : Nat} (l0 : Int32) (l1 : Int32) (x : zv_X) : mX4_isForSort_0 N l0 l1 x = (pX4_isForSort_0 l0 l1).map fun v => (x, v) := by
  unfold mX4_isForSort_0 pX4_isForSort_0
  first | rfl | (simp only [qX4_isForSort_100, qX4_isForSort_111, qX4_isForSort_112, qX4_isForSort_59, qX4_isForSort_71, qX4_isForSort_83, qX4_isForSort_95, zps, zpn, zpbm, zpmb, apply_ite (Option.map _)]; done) | (simp only [qX4_isForSort_100, qX4_isForSort_111, qX4_isForSort_112, qX4_isForSort_59, qX4_isForSort_71, qX4_isForSort_83, qX4_isForSort_95, zpbm, zpmb, zps, zpn]; repeat' split; all_goals rfl)
def pX4_isForSort (a0 : Int32) (a1 : Int32) : Option Int32 := pX4_isForSort_0 a0 a1
theorem qX4_isForSort {N : Nat} (a0 : Int32) (a1 : Int32) (x : zv_X) : mX4_isForSort N a0 a1 x = (pX4_isForSort a0 a1).map fun v => (x, v) := by
  unfold mX4_isForSort pX4_isForSort
  first | rfl | (simp only [qX4_isForSort_0, zps, zpn, zpbm, zpmb, apply_ite (Option.map _)]; done) | (simp only [qX4_isForSort_0, zpbm, zpmb, zps, zpn]; repeat' split; all_goals rfl)
def pX4_faultOfElement_45 (s0 : Int32) : Option Int32 := some (s0)
theorem qX4_faultOfElement_45 {N : Nat} (s0 : Int32) (x : zv_X) : mX4_faultOfElement_45 N s0 x = (pX4_faultOfElement_45 s0).map fun v => (x, v) := by
  unfold mX4_faultOfElement_45 pX4_faultOfElement_45
  first | rfl | (simp only [zps, zpn, zpbm, zpmb, apply_ite (Option.map _)]; done) | (simp only [zpbm, zpmb, zps, zpn]; repeat' split; all_goals rfl)
def pX4_faultOfElement_40  : Option Int32 := pX4_faultOfElement_45 (3 : Int32)
theorem qX4_faultOfElement_40 {N : Nat}  (x : zv_X) : mX4_faultOfElement_40 N  x = (pX4_faultOfElement_40 ).map fun v => (x, v) := by
  unfold mX4_faultOfElement_40 pX4_faultOfElement_40
  first | rfl | (simp only [qX4_faultOfElement_45, zps, zpn, zpbm, zpmb, apply_ite (Option.map _)]; done) | (simp only [qX4_faultOfElement_45, zpbm, zpmb, zps, zpn]; repeat' split; all_goals rfl)
def pX2_wordsOfArray_48 (l1 : Int64) : Option Int64 := some ((2 : Int64) + ((l1 + (3 : Int64)) / (4 : Int64)))
theorem qX2_wordsOfArray_48 {N : Nat} (l1 : Int64) (x : zv_X) : mX2_wordsOfArray_48 N l1 x = (pX2_wordsOfArray_48 l1).map fun v => (x, v) := by
  unfold mX2_wordsOfArray_48 pX2_wordsOfArray_48
  first | rfl | (simp only [zps, zpn, zpbm, zpmb, apply_ite (Option.map _)]; done) | (simp only [zpbm, zpmb, zps, zpn]; repeat' split; all_goals rfl)
def pX2_wordsOfArray_62 (l1 : Int64) : Option Int64 := some ((2 : Int64) + ((l1 + (1 : Int64)) / (2 : Int64)))
theorem qX2_wordsOfArray_62 {N : Nat} (l1 : Int64) (x : zv_X) : mX2_wordsOfArray_62 N l1 x = (pX2_wordsOfArray_62 l1).map fun v => (x, v) := by
  unfold mX2_wordsOfArray_62 pX2_wordsOfArray_62
  first | rfl | (simp only [zps, zpn, zpbm, zpmb, apply_ite (Option.map _)]; done) | (simp only [zpbm, zpmb, zps, zpn]; repeat' split; all_goals rfl)
def pX2_wordsOfArray_84 (l1 : Int64) : Option Int64 := some ((2 : Int64) + l1)
theorem qX2_wordsOfArray_84 {N : Nat} (l1 : Int64) (x : zv_X) : mX2_wordsOfArray_84 N l1 x = (pX2_wordsOfArray_84 l1).map fun v => (x, v) := by
  unfold mX2_wordsOfArray_84 pX2_wordsOfArray_84
  first | rfl | (simp only [zps, zpn, zpbm, zpmb, apply_ite (Option.map _)]; done) | (simp only [zpbm, zpmb, zps, zpn]; repeat' split; all_goals rfl)
def pX2_wordsOfArray_0 (l0 : Int32) (l1 : Int64) : Option Int64 := if l0 = (4 : Int32) then (pX2_wordsOfArray_48 l1) else if l0 = (5 : Int32) then (pX2_wordsOfArray_62 l1) else if l0 = (6 : Int32) then (pX2_wordsOfArray_84 l1) else if l0 = (7 : Int32) then (pX2_wordsOfArray_84 l1) else if l0 = (8 : Int32) then (pX2_wordsOfArray_48 l1) else if l0 = (9 : Int32) then (pX2_wordsOfArray_62 l1) else if l0 = (10 : Int32) then (pX2_wordsOfArray_84 l1) else if l0 = (11 : Int32) then (some ((2 : Int64) + ((2 : Int64) * l1))) else (pX2_wordsOfArray_84 l1)
theorem qX2_wordsOfArray_0 {N : Nat} (l0 : Int32) (l1 : Int64) (x : zv_X) : mX2_wordsOfArray_0 N l0 l1 x = (pX2_wordsOfArray_0 l0 l1).map fun v => (x, v) := by
  unfold mX2_wordsOfArray_0 pX2_wordsOfArray_0
  first | rfl | (simp only [qX2_wordsOfArray_48, qX2_wordsOfArray_62, qX2_wordsOfArray_84, zps, zpn, zpbm, zpmb, apply_ite (Option.map _)]; done) | (simp only [qX2_wordsOfArray_48, qX2_wordsOfArray_62, qX2_wordsOfArray_84, zpbm, zpmb, zps, zpn]; repeat' split; all_goals rfl)
def pX2_wordsOfArray (a0 : Int32) (a1 : Int64) : Option Int64 := pX2_wordsOfArray_0 a0 a1
theorem qX2_wordsOfArray {N : Nat} (a0 : Int32) (a1 : Int64) (x : zv_X) : mX2_wordsOfArray N a0 a1 x = (pX2_wordsOfArray a0 a1).map fun v => (x, v) := by
  unfold mX2_wordsOfArray pX2_wordsOfArray
  first | rfl | (simp only [qX2_wordsOfArray_0, zps, zpn, zpbm, zpmb, apply_ite (Option.map _)]; done) | (simp only [qX2_wordsOfArray_0, zpbm, zpmb, zps, zpn]; repeat' split; all_goals rfl)
def pX4_faultOfObject_20 (s0 : Int32) : Option Int32 := some (s0)
theorem qX4_faultOfObject_20 {N : Nat} (s0 : Int32) (x : zv_X) : mX4_faultOfObject_20 N s0 x = (pX4_faultOfObject_20 s0).map fun v => (x, v) := by
  unfold mX4_faultOfObject_20 pX4_faultOfObject_20
  first | rfl | (simp only [zps, zpn, zpbm, zpmb, apply_ite (Option.map _)]; done) | (simp only [zpbm, zpmb, zps, zpn]; repeat' split; all_goals rfl)
def pX4_combined_0 (l0 : Int32) (l1 : Int64) (l3 : Int64) : Option Int64 := if l0 = (96 : Int32) then (some (l1 + l3)) else if l0 = (100 : Int32) then (some (l1 - l3)) else if l0 = (104 : Int32) then (some (l1 * l3)) else if l0 = (108 : Int32) then (if l3 = 0 then none else (some (l1 / l3))) else if l0 = (112 : Int32) then (if l3 = 0 then none else (some (l1 - l1 / l3 * l3))) else if l0 = (126 : Int32) then (some (l1 &&& l3)) else if l0 = (128 : Int32) then (some (l1 ||| l3)) else (some (l1 ^^^ l3))
theorem qX4_combined_0 {N : Nat} (l0 : Int32) (l1 : Int64) (l3 : Int64) (x : zv_X) : mX4_combined_0 N l0 l1 l3 x = (pX4_combined_0 l0 l1 l3).map fun v => (x, v) := by
  unfold mX4_combined_0 pX4_combined_0
  first | rfl | (simp only [zps, zpn, zpbm, zpmb, apply_ite (Option.map _)]; done) | (simp only [zpbm, zpmb, zps, zpn]; repeat' split; all_goals rfl)
def pX4_combined (a0 : Int32) (a1 : Int64) (a2 : Int64) : Option Int64 := pX4_combined_0 a0 a1 a2
theorem qX4_combined {N : Nat} (a0 : Int32) (a1 : Int64) (a2 : Int64) (x : zv_X) : mX4_combined N a0 a1 a2 x = (pX4_combined a0 a1 a2).map fun v => (x, v) := by
  unfold mX4_combined pX4_combined
  first | rfl | (simp only [qX4_combined_0, zps, zpn, zpbm, zpmb, apply_ite (Option.map _)]; done) | (simp only [qX4_combined_0, zpbm, zpmb, zps, zpn]; repeat' split; all_goals rfl)
def pX4_moved_68 (l6 : Int32) (s0 : Int64) : Option Int64 := some ((Int64.toUInt64 s0 >>> ((Int32.toInt64 l6).toUInt64 &&& Int64.toUInt64 63)).toInt64)
theorem qX4_moved_68 {N : Nat} (l6 : Int32) (s0 : Int64) (x : zv_X) : mX4_moved_68 N l6 s0 x = (pX4_moved_68 l6 s0).map fun v => (x, v) := by
  unfold mX4_moved_68 pX4_moved_68
  first | rfl | (simp only [zps, zpn, zpbm, zpmb, apply_ite (Option.map _)]; done) | (simp only [zpbm, zpmb, zps, zpn]; repeat' split; all_goals rfl)
def pX4_moved_14 (l0 : Int32) (l1 : Int64) (l5 : Int32) (s0 : Int32) (s1 : Int32) : Option Int64 := if l0 = (120 : Int32) then (some (l1 <<< (Int32.toInt64 (s1 &&& s0) &&& 63))) else if l0 = (122 : Int32) then (some (l1 >>> (Int32.toInt64 (s1 &&& s0) &&& 63))) else (if l5 = 0 then (pX4_moved_68 (s1 &&& s0) l1) else (pX4_moved_68 (s1 &&& s0) (l1 &&& (4294967295 : Int64))))
theorem qX4_moved_14 {N : Nat} (l0 : Int32) (l1 : Int64) (l5 : Int32) (s0 : Int32) (s1 : Int32) (x : zv_X) : mX4_moved_14 N l0 l1 l5 s0 s1 x = (pX4_moved_14 l0 l1 l5 s0 s1).map fun v => (x, v) := by
  unfold mX4_moved_14 pX4_moved_14
  first | rfl | (simp only [qX4_moved_68, zps, zpn, zpbm, zpmb, apply_ite (Option.map _)]; done) | (simp only [qX4_moved_68, zpbm, zpmb, zps, zpn]; repeat' split; all_goals rfl)
def pX4_moved_0 (l0 : Int32) (l1 : Int64) (l3 : Int64) (l5 : Int32) : Option Int64 := if l5 = 0 then (pX4_moved_14 l0 l1 l5 (63 : Int32) (Int64.toInt32 l3)) else (pX4_moved_14 l0 l1 l5 (31 : Int32) (Int64.toInt32 l3))
theorem qX4_moved_0 {N : Nat} (l0 : Int32) (l1 : Int64) (l3 : Int64) (l5 : Int32) (x : zv_X) : mX4_moved_0 N l0 l1 l3 l5 x = (pX4_moved_0 l0 l1 l3 l5).map fun v => (x, v) := by
  unfold mX4_moved_0 pX4_moved_0
  first | rfl | (simp only [qX4_moved_14, zps, zpn, zpbm, zpmb, apply_ite (Option.map _)]; done) | (simp only [qX4_moved_14, zpbm, zpmb, zps, zpn]; repeat' split; all_goals rfl)
def pX4_moved (a0 : Int32) (a1 : Int64) (a2 : Int64) (a3 : Int32) : Option Int64 := pX4_moved_0 a0 a1 a2 a3
theorem qX4_moved {N : Nat} (a0 : Int32) (a1 : Int64) (a2 : Int64) (a3 : Int32) (x : zv_X) : mX4_moved N a0 a1 a2 a3 x = (pX4_moved a0 a1 a2 a3).map fun v => (x, v) := by
  unfold mX4_moved pX4_moved
  first | rfl | (simp only [qX4_moved_0, zps, zpn, zpbm, zpmb, apply_ite (Option.map _)]; done) | (simp only [qX4_moved_0, zpbm, zpmb, zps, zpn]; repeat' split; all_goals rfl)
def pX2_isArray_13 (s0 : Int32) : Option Int32 := if s0 = 0 ∨ s0 = 1 then some (s0) else none
theorem qX2_isArray_13 {N : Nat} (s0 : Int32) (x : zv_X) : mX2_isArray_13 N s0 x = (pX2_isArray_13 s0).map fun v => (x, v) := by
  unfold mX2_isArray_13 pX2_isArray_13
  first | rfl | (simp only [zps, zpn, zpbm, zpmb, apply_ite (Option.map _)]; done) | (simp only [zpbm, zpmb, zps, zpn]; repeat' split; all_goals rfl)
def pL_cell_13 (s0 : Int32) : Option Int32 := some (s0)
theorem qL_cell_13 {N : Nat} (s0 : Int32) (x : zv_X) : mL_cell_13 N s0 x = (pL_cell_13 s0).map fun v => (x, v) := by
  unfold mL_cell_13 pL_cell_13
  first | rfl | (simp only [zps, zpn, zpbm, zpmb, apply_ite (Option.map _)]; done) | (simp only [zpbm, zpmb, zps, zpn]; repeat' split; all_goals rfl)
