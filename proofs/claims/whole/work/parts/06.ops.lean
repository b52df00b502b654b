/-! ===== what a mirror of a method is made of, and its rules ===== -/
def zm_f (x : zv_X) (a ci k : Nat) : Option Value := match x.1 a with
  | some (.inr (c, fs)) => if c = ci then fs[k]? else none
  | _ => none
theorem zm_f_ok {x : zv_X} {a ci k : Nat} {v : Value} (h : zm_f x a ci k = some v) : ∃ fs, x.1 a = some (.inr (ci, fs)) ∧ fs[k]? = some v := by
  unfold zm_f at h
  split at h
  · next c fs e =>
    split at h
    · next hc => subst hc; exact ⟨fs, e, h⟩
    · cases h
  · cases h
def zm_I (x : zv_X) (a ci k : Nat) : Option Int32 := match zm_f x a ci k with
  | some (.int v) => some v
  | _ => none
def zm_L (x : zv_X) (a ci k : Nat) : Option Int64 := match zm_f x a ci k with
  | some (.long v) => some v
  | _ => none
def zm_R (x : zv_X) (a ci k : Nat) : Option Nat := match zm_f x a ci k with
  | some (.ref v) => some v
  | _ => none
theorem zm_I_f {x : zv_X} {a ci k : Nat} {v : Int32} (h : zm_I x a ci k = some v) : zm_f x a ci k = some (.int v) := by
  unfold zm_I at h
  split at h
  · next w e => cases h; exact e
  · cases h
theorem zm_L_f {x : zv_X} {a ci k : Nat} {v : Int64} (h : zm_L x a ci k = some v) : zm_f x a ci k = some (.long v) := by
  unfold zm_L at h
  split at h
  · next w e => cases h; exact e
  · cases h
theorem zm_R_f {x : zv_X} {a ci k : Nat} {v : Nat} (h : zm_R x a ci k = some v) : zm_f x a ci k = some (.ref v) := by
  unfold zm_R at h
  split at h
  · next w e => cases h; exact e
  · cases h
def zm_p (x : zv_X) (a ci k : Nat) (v : Value) : Option zv_X := match x.1 a with
  | some (.inr (c, fs)) => if c = ci ∧ k < fs.length then some (zv_st x a (.inr (ci, fs.set k v))) else none
  | _ => none
theorem zm_p_ok {x x1 : zv_X} {a ci k : Nat} {v : Value} (h : zm_p x a ci k v = some x1) : ∃ fs, x.1 a = some (.inr (ci, fs)) ∧ k < fs.length ∧ x1 = zv_st x a (.inr (ci, fs.set k v)) := by
  unfold zm_p at h
  split at h
  · next c fs e =>
    split at h
    · next hc => obtain ⟨rfl, hk⟩ := hc; exact ⟨fs, e, hk, (Option.some.inj h).symm⟩
    · cases h
  · cases h
/-- is it an object of that class -/
def zm_k (x : zv_X) (a ci : Nat) : Bool := match x.1 a with
  | some (.inr (c, _)) => c == ci
  | _ => false
theorem zm_k_ok {x : zv_X} {a ci : Nat} (h : zm_k x a ci = true) : ∃ fs, x.1 a = some (.inr (ci, fs)) := by
  unfold zm_k at h
  split at h
  · next c fs e => have := beq_iff_eq.mp h; subst this; exact ⟨fs, e⟩
  · cases h
def zm_n (x : zv_X) (a : Nat) : Option Int32 := match x.1 a with
  | some (.inl (t, n, _)) => if t < 6 then some (Int32.ofNat n) else none
  | some (.inr _) => none
  | none => if a = x.2.2.2.1 then some 0 else none

def zm_aI (x : zv_X) (a : Nat) (i : Int32) : Option Int32 := match x.1 a with
  | some (.inl (0, n, .inl g)) => if i < 0 ∨ n ≤ i.toNatClampNeg then none else some (g i.toNatClampNeg)
  | _ => none
def zm_aL (x : zv_X) (a : Nat) (i : Int32) : Option Int64 := match x.1 a with
  | some (.inl (1, n, .inr (.inl g))) => if i < 0 ∨ n ≤ i.toNatClampNeg then none else some (g i.toNatClampNeg)
  | _ => none
def zm_aB (x : zv_X) (a : Nat) (i : Int32) : Option Int32 := match x.1 a with
  | some (.inl (2, n, .inl g)) => if i < 0 ∨ n ≤ i.toNatClampNeg then none else some (g i.toNatClampNeg)
  | some (.inl (3, n, .inl g)) => if i < 0 ∨ n ≤ i.toNatClampNeg then none else some (g i.toNatClampNeg)
  | _ => none
def zm_aR (x : zv_X) (a : Nat) (i : Int32) : Option Nat := match x.1 a with
  | some (.inl (t, n, .inr (.inr (.inr (.inr g))))) => if (t = 4 ∨ t = 5) ∧ ¬ (i < 0 ∨ n ≤ i.toNatClampNeg) then g i.toNatClampNeg else none
  | _ => none
def zm_sI (x : zv_X) (a : Nat) (i v : Int32) : Option zv_X := match x.1 a with
  | some (.inl (0, n, .inl g)) => if i < 0 ∨ n ≤ i.toNatClampNeg then none else some (zv_st x a (.inl (0, n, .inl (upd g i.toNatClampNeg v))))
  | _ => none
def zm_sL (x : zv_X) (a : Nat) (i : Int32) (v : Int64) : Option zv_X := match x.1 a with
  | some (.inl (1, n, .inr (.inl g))) => if i < 0 ∨ n ≤ i.toNatClampNeg then none else some (zv_st x a (.inl (1, n, .inr (.inl (vp_updL g i.toNatClampNeg v)))))
  | _ => none
def zm_sB (x : zv_X) (a : Nat) (i v : Int32) : Option zv_X := match x.1 a with
  | some (.inl (2, n, .inl g)) => if i < 0 ∨ n ≤ i.toNatClampNeg then none else some (zv_st x a (.inl (2, n, .inl (upd g i.toNatClampNeg v.toInt8.toInt32))))
  | some (.inl (3, n, .inl g)) => if i < 0 ∨ n ≤ i.toNatClampNeg then none else if v = 0 ∨ v = 1 then some (zv_st x a (.inl (3, n, .inl (upd g i.toNatClampNeg v)))) else none
  | _ => none
/-- new arrays -/
def zm_na (t : Nat) (x : zv_X) (n : Int32) : Option zv_X := if n < 0 ∨ 100000 < n.toNatClampNeg then none else some (zv_nw x (.inl (t, n.toNatClampNeg, .inl fun _ => 0)) n.toNatClampNeg)
def zm_nL (x : zv_X) (n : Int32) : Option zv_X := if n < 0 ∨ 100000 < n.toNatClampNeg then none else some (zv_nw x (.inl (1, n.toNatClampNeg, .inr (.inl fun _ => 0))) n.toNatClampNeg)
theorem zb {α β : Type} {o : Option α} {g : α → Option β} {b : β} (h : o.bind g = some b) : ∃ v, o = some v ∧ g v = some b := Option.bind_eq_some_iff.mp h
theorem zif {α : Type} {c : Prop} [Decidable c] {A B : Option α} {o : α} (h : (if c then A else B) = some o) : (c ∧ A = some o) ∨ (¬ c ∧ B = some o) := by
  by_cases hc : c
  · rw [if_pos hc] at h; exact Or.inl ⟨hc, h⟩
  · rw [if_neg hc] at h; exact Or.inr ⟨hc, h⟩
theorem zg {α : Type} {c : Prop} [Decidable c] {A : Option α} {o : α} (h : (if c then A else none) = some o) : c ∧ A = some o := by
  rcases zif h with h | h
  · exact h
  · cases h.2
/-- fewer locals -/
theorem zv_fewer {f : zv_G} {pc : Nat} {L L' : List (Nat × Value)} {st : List Value} {x : zv_X} (ks : List Nat) (hl : lv_pick L ks = L') (k : zv_V f pc L' st x) : zv_V f pc L st x :=
  ⟨k.1, fun h0 D p l e s m args below meth c H locs ls hF h hP hS => k.2 h0 D p l e s m args below meth c H locs ls hF (lv_sub h ks hl) hP hS⟩
section ZR
variable {f : zv_G} {pc : Nat} {L : List (Nat × Value)} {st : List Value} {x : zv_X} {a : Nat} {β : Type} {o : β}

theorem zr_gI {idx ci k : Nat} {g : Int32 → Option β} (hdg : decode f.2.2.1 pc = .ok (.getfield idx, 3)) (hw : zv_fg f.2.1 idx ci k) (h : (zm_I x a ci k).bind g = some o) (kk : ∀ v, zm_I x a ci k = some v → g v = some o → zv_V f (pc + 3) L (.int v :: st) x) : zv_V f pc L (.ref a :: st) x := by
  obtain ⟨v, e, h⟩ := zb h
  obtain ⟨fs, e1, e2⟩ := zm_f_ok (zm_I_f e)
  exact zv_get hdg hw e1 e2 (kk v e h)
theorem zr_gL {idx ci k : Nat} {g : Int64 → Option β} (hdg : decode f.2.2.1 pc = .ok (.getfield idx, 3)) (hw : zv_fg f.2.1 idx ci k) (h : (zm_L x a ci k).bind g = some o) (kk : ∀ v, zm_L x a ci k = some v → g v = some o → zv_V f (pc + 3) L (.long v :: st) x) : zv_V f pc L (.ref a :: st) x := by
  obtain ⟨v, e, h⟩ := zb h
  obtain ⟨fs, e1, e2⟩ := zm_f_ok (zm_L_f e)
  exact zv_get hdg hw e1 e2 (kk v e h)
theorem zr_gR {idx ci k : Nat} {g : Nat → Option β} (hdg : decode f.2.2.1 pc = .ok (.getfield idx, 3)) (hw : zv_fg f.2.1 idx ci k) (h : (zm_R x a ci k).bind g = some o) (kk : ∀ v, zm_R x a ci k = some v → g v = some o → zv_V f (pc + 3) L (.ref v :: st) x) : zv_V f pc L (.ref a :: st) x := by
  obtain ⟨v, e, h⟩ := zb h
  obtain ⟨fs, e1, e2⟩ := zm_f_ok (zm_R_f e)
  exact zv_get hdg hw e1 e2 (kk v e h)
theorem zr_p {idx ci k : Nat} {ty : FieldType} {fin : Bool} {v : Value} {g : zv_X → Option β} (hdg : decode f.2.2.1 pc = .ok (.putfield idx, 3)) (hw : zv_fl f.2.1 idx ci k ty fin) (hfin : fin = true → f.2.2.2.2.2.1.1 = "<init>") (hn : narrow ty v = v) (hfit : fits ty v = true) (h : (zm_p x a ci k v).bind g = some o) (kk : ∀ x1, zm_p x a ci k v = some x1 → g x1 = some o → zv_V f (pc + 3) L st x1) : zv_V f pc L (v :: .ref a :: st) x := by
  obtain ⟨x1, e, h⟩ := zb h
  obtain ⟨fs, e1, e2, rfl⟩ := zm_p_ok e
  exact zv_put hdg hw hfin hn hfit e1 e2 (kk _ e h)
theorem zr_pZ {idx ci k : Nat} {fin : Bool} {v : Int32} {g : zv_X → Option β} (hdg : decode f.2.2.1 pc = .ok (.putfield idx, 3)) (hw : zv_fl f.2.1 idx ci k .boolean fin) (hfin : fin = true → f.2.2.2.2.2.1.1 = "<init>") (h : (if v = 0 ∨ v = 1 then (zm_p x a ci k (.int v)).bind g else none) = some o) (kk : ∀ x1, zm_p x a ci k (.int v) = some x1 → g x1 = some o → zv_V f (pc + 3) L st x1) : zv_V f pc L (.int v :: .ref a :: st) x := by
  obtain ⟨hv, h⟩ := zg h
  exact zr_p hdg hw hfin (by rcases hv with rfl | rfl <;> rfl) (by rcases hv with rfl | rfl <;> rfl) h kk
theorem zr_aI {i : Int32} {g : Int32 → Option β} (hdg : decode f.2.2.1 pc = .ok (.iaload, 1)) (h : (zm_aI x a i).bind g = some o) (kk : ∀ v, zm_aI x a i = some v → g v = some o → zv_V f (pc + 1) L (.int v :: st) x) : zv_V f pc L (.int i :: .ref a :: st) x := by
  obtain ⟨v, e, h⟩ := zb h
  have e9 := e
  unfold zm_aI at e
  split at e
  · next n g9 ea =>
    split at e
    · cases e
    · next hin => cases e; exact zv_iald hdg ea hin (kk _ e9 h)
  · cases e
theorem zr_aL {i : Int32} {g : Int64 → Option β} (hdg : decode f.2.2.1 pc = .ok (.laload, 1)) (h : (zm_aL x a i).bind g = some o) (kk : ∀ v, zm_aL x a i = some v → g v = some o → zv_V f (pc + 1) L (.long v :: st) x) : zv_V f pc L (.int i :: .ref a :: st) x := by
  obtain ⟨v, e, h⟩ := zb h
  have e9 := e
  unfold zm_aL at e
  split at e
  · next n g9 ea =>
    split at e
    · cases e
    · next hin => cases e; exact zv_lald hdg ea hin (kk _ e9 h)
  · cases e
theorem zr_aB {i : Int32} {g : Int32 → Option β} (hdg : decode f.2.2.1 pc = .ok (.baload, 1)) (h : (zm_aB x a i).bind g = some o) (kk : ∀ v, zm_aB x a i = some v → g v = some o → zv_V f (pc + 1) L (.int v :: st) x) : zv_V f pc L (.int i :: .ref a :: st) x := by
  obtain ⟨v, e, h⟩ := zb h
  have e9 := e
  unfold zm_aB at e
  split at e
  · next n g9 ea =>
    split at e
    · cases e
    · next hin => cases e; exact zv_bald hdg ea hin (kk _ e9 h)
  · next n g9 ea =>
    split at e
    · cases e
    · next hin => cases e; exact zv_zald hdg ea hin (kk _ e9 h)
  · cases e
theorem zr_aR {i : Int32} {g : Nat → Option β} (hdg : decode f.2.2.1 pc = .ok (.aaload, 1)) (h : (zm_aR x a i).bind g = some o) (kk : ∀ v, zm_aR x a i = some v → g v = some o → zv_V f (pc + 1) L (.ref v :: st) x) : zv_V f pc L (.int i :: .ref a :: st) x := by
  obtain ⟨v, e, h⟩ := zb h
  have e9 := e
  unfold zm_aR at e
  split at e
  · next t n g9 ea =>
    split at e
    · next hc => exact zv_aald hdg ea hc.1 hc.2 e (kk _ e9 h)
    · cases e
  · cases e
theorem zr_sI {i v : Int32} {g : zv_X → Option β} (hdg : decode f.2.2.1 pc = .ok (.iastore, 1)) (h : (zm_sI x a i v).bind g = some o) (kk : ∀ x1, zm_sI x a i v = some x1 → g x1 = some o → zv_V f (pc + 1) L st x1) : zv_V f pc L (.int v :: .int i :: .ref a :: st) x := by
  obtain ⟨x1, e, h⟩ := zb h
  have e9 := e
  unfold zm_sI at e
  split at e
  · next n g9 ea =>
    split at e
    · cases e
    · next hin => cases e; exact zv_iast hdg ea hin (kk _ e9 h)
  · cases e
theorem zr_sL {i : Int32} {v : Int64} {g : zv_X → Option β} (hdg : decode f.2.2.1 pc = .ok (.lastore, 1)) (h : (zm_sL x a i v).bind g = some o) (kk : ∀ x1, zm_sL x a i v = some x1 → g x1 = some o → zv_V f (pc + 1) L st x1) : zv_V f pc L (.long v :: .int i :: .ref a :: st) x := by
  obtain ⟨x1, e, h⟩ := zb h
  have e9 := e
  unfold zm_sL at e
  split at e
  · next n g9 ea =>
    split at e
    · cases e
    · next hin => cases e; exact zv_last hdg ea hin (kk _ e9 h)
  · cases e
theorem zr_sB {i v : Int32} {g : zv_X → Option β} (hdg : decode f.2.2.1 pc = .ok (.bastore, 1)) (h : (zm_sB x a i v).bind g = some o) (kk : ∀ x1, zm_sB x a i v = some x1 → g x1 = some o → zv_V f (pc + 1) L st x1) : zv_V f pc L (.int v :: .int i :: .ref a :: st) x := by
  obtain ⟨x1, e, h⟩ := zb h
  have e9 := e
  unfold zm_sB at e
  split at e
  · next n g9 ea =>
    split at e
    · cases e
    · next hin => cases e; exact zv_bast hdg ea hin (kk _ e9 h)
  · next n g9 ea =>
    split at e
    · cases e
    · next hin =>
      split at e
      · next hv => cases e; exact zv_zast hdg ea hin hv (kk _ e9 h)
      · cases e
  · cases e
theorem zv_alen0 (hdg : decode f.2.2.1 pc = .ok (.arraylength, 1)) (ha : a = x.2.2.2.1) (kk : zv_V f (pc + 1) L (.int 0 :: st) x) : zv_V f pc L (.ref a :: st) x :=
  ⟨kk.1, fun h0 D p l e s m args below meth c H locs ls hF hl hP hS => by
    obtain ⟨cell, h1, h2, h3, h4, h5, h6, h7⟩ := (hF.Z.kept (H1 := H) (fun a h1 h2 => hS.2.1 a h1 h2)).2.2.1
    have e : a = f.2.2.2.2.2.2.1.2.2.2.1 := ha.trans (congrArg Prod.fst h0.2.2.1.symm)
    subst e
    exact W.alen (n := 0) hF.1 hF.2.1 h1 h2 (by rw [h5]; rfl) rfl rfl hdg (kk.2 h0 D p l e s m args below meth c H locs ls hF hl hP hS)⟩
theorem zr_n {g : Int32 → Option β} (hdg : decode f.2.2.1 pc = .ok (.arraylength, 1)) (h : (zm_n x a).bind g = some o) (kk : ∀ v, zm_n x a = some v → g v = some o → zv_V f (pc + 1) L (.int v :: st) x) : zv_V f pc L (.ref a :: st) x := by
  obtain ⟨v, e, h⟩ := zb h
  have e9 := e
  unfold zm_n at e
  split at e
  · next t n y ea =>
    split at e
    · next ht => cases e; exact zv_alen hdg ea ht (kk _ e9 h)
    · cases e
  · cases e
  · next ea =>
    split at e
    · next ht => cases e; exact zv_alen0 hdg ht (kk _ e9 h)
    · cases e

theorem zr_nI {n : Int32} {g : zv_X → Option β} (hdg : decode f.2.2.1 pc = .ok (.newarray .int, 2)) (hw : Cond.arrayClass .int ∈ zv_U) (h : (zm_na 0 x n).bind g = some o) (kk : ∀ x1, zm_na 0 x n = some x1 → g x1 = some o → zv_V f (pc + 2) L (.ref x.2.1 :: st) x1) : zv_V f pc L (.int n :: st) x := by
  obtain ⟨x1, e, h⟩ := zb h
  have e9 := e
  unfold zm_na at e
  split at e
  · cases e
  · next hn => cases e; exact zv_newI hdg hw (fun q => hn (Or.inl q)) rfl (Nat.not_lt.mp fun q => hn (Or.inr q)) (kk _ e9 h)
theorem zr_nB {n : Int32} {g : zv_X → Option β} (hdg : decode f.2.2.1 pc = .ok (.newarray .byte, 2)) (hw : Cond.arrayClass .byte ∈ zv_U) (h : (zm_na 2 x n).bind g = some o) (kk : ∀ x1, zm_na 2 x n = some x1 → g x1 = some o → zv_V f (pc + 2) L (.ref x.2.1 :: st) x1) : zv_V f pc L (.int n :: st) x := by
  obtain ⟨x1, e, h⟩ := zb h
  have e9 := e
  unfold zm_na at e
  split at e
  · cases e
  · next hn => cases e; exact zv_newB hdg hw (fun q => hn (Or.inl q)) rfl (Nat.not_lt.mp fun q => hn (Or.inr q)) (kk _ e9 h)
theorem zr_nZ {n : Int32} {g : zv_X → Option β} (hdg : decode f.2.2.1 pc = .ok (.newarray .boolean, 2)) (hw : Cond.arrayClass .boolean ∈ zv_U) (h : (zm_na 3 x n).bind g = some o) (kk : ∀ x1, zm_na 3 x n = some x1 → g x1 = some o → zv_V f (pc + 2) L (.ref x.2.1 :: st) x1) : zv_V f pc L (.int n :: st) x := by
  obtain ⟨x1, e, h⟩ := zb h
  have e9 := e
  unfold zm_na at e
  split at e
  · cases e
  · next hn => cases e; exact zv_newZ hdg hw (fun q => hn (Or.inl q)) rfl (Nat.not_lt.mp fun q => hn (Or.inr q)) (kk _ e9 h)
theorem zr_nL {n : Int32} {g : zv_X → Option β} (hdg : decode f.2.2.1 pc = .ok (.newarray .long, 2)) (hw : Cond.arrayClass .long ∈ zv_U) (h : (zm_nL x n).bind g = some o) (kk : ∀ x1, zm_nL x n = some x1 → g x1 = some o → zv_V f (pc + 2) L (.ref x.2.1 :: st) x1) : zv_V f pc L (.int n :: st) x := by
  obtain ⟨x1, e, h⟩ := zb h
  have e9 := e
  unfold zm_nL at e
  split at e
  · cases e
  · next hn => cases e; exact zv_newL hdg hw (fun q => hn (Or.inl q)) rfl (Nat.not_lt.mp fun q => hn (Or.inr q)) (kk _ e9 h)
theorem zr_icmp_eq {a9 b9 : Int32} {off : Int} {tgt : Nat} {A B : Option β} (hdg : decode f.2.2.1 pc = .ok (.if_icmp .eq off, 3)) (ht : (pc : Int) + off = (tgt : Int)) (h : (if a9 = b9 then A else B) = some o) (k1 : a9 = b9 → A = some o → zv_V f tgt L st x) (k2 : ¬ a9 = b9 → B = some o → zv_V f (pc + 3) L st x) : zv_V f pc L (.int b9 :: .int a9 :: st) x := zv_icmp_eq hdg ht (fun c => k1 c (by rw [if_pos c] at h; exact h)) (fun c => k2 c (by rw [if_neg c] at h; exact h))
theorem zr_if_eq {a9 : Int32} {off : Int} {tgt : Nat} {A B : Option β} (hdg : decode f.2.2.1 pc = .ok (.ifCond .eq off, 3)) (ht : (pc : Int) + off = (tgt : Int)) (h : (if a9 = 0 then A else B) = some o) (k1 : a9 = 0 → A = some o → zv_V f tgt L st x) (k2 : ¬ a9 = 0 → B = some o → zv_V f (pc + 3) L st x) : zv_V f pc L (.int a9 :: st) x := zv_if_eq hdg ht (fun c => k1 c (by rw [if_pos c] at h; exact h)) (fun c => k2 c (by rw [if_neg c] at h; exact h))
theorem zr_icmp_lt {a9 b9 : Int32} {off : Int} {tgt : Nat} {A B : Option β} (hdg : decode f.2.2.1 pc = .ok (.if_icmp .lt off, 3)) (ht : (pc : Int) + off = (tgt : Int)) (h : (if a9 < b9 then A else B) = some o) (k1 : a9 < b9 → A = some o → zv_V f tgt L st x) (k2 : ¬ a9 < b9 → B = some o → zv_V f (pc + 3) L st x) : zv_V f pc L (.int b9 :: .int a9 :: st) x := zv_icmp_lt hdg ht (fun c => k1 c (by rw [if_pos c] at h; exact h)) (fun c => k2 c (by rw [if_neg c] at h; exact h))
theorem zr_if_lt {a9 : Int32} {off : Int} {tgt : Nat} {A B : Option β} (hdg : decode f.2.2.1 pc = .ok (.ifCond .lt off, 3)) (ht : (pc : Int) + off = (tgt : Int)) (h : (if a9 < 0 then A else B) = some o) (k1 : a9 < 0 → A = some o → zv_V f tgt L st x) (k2 : ¬ a9 < 0 → B = some o → zv_V f (pc + 3) L st x) : zv_V f pc L (.int a9 :: st) x := zv_if_lt hdg ht (fun c => k1 c (by rw [if_pos c] at h; exact h)) (fun c => k2 c (by rw [if_neg c] at h; exact h))
theorem zr_icmp_ge {a9 b9 : Int32} {off : Int} {tgt : Nat} {A B : Option β} (hdg : decode f.2.2.1 pc = .ok (.if_icmp .ge off, 3)) (ht : (pc : Int) + off = (tgt : Int)) (h : (if b9 ≤ a9 then A else B) = some o) (k1 : b9 ≤ a9 → A = some o → zv_V f tgt L st x) (k2 : ¬ b9 ≤ a9 → B = some o → zv_V f (pc + 3) L st x) : zv_V f pc L (.int b9 :: .int a9 :: st) x := zv_icmp_ge hdg ht (fun c => k1 c (by rw [if_pos c] at h; exact h)) (fun c => k2 c (by rw [if_neg c] at h; exact h))
theorem zr_if_ge {a9 : Int32} {off : Int} {tgt : Nat} {A B : Option β} (hdg : decode f.2.2.1 pc = .ok (.ifCond .ge off, 3)) (ht : (pc : Int) + off = (tgt : Int)) (h : (if 0 ≤ a9 then A else B) = some o) (k1 : 0 ≤ a9 → A = some o → zv_V f tgt L st x) (k2 : ¬ 0 ≤ a9 → B = some o → zv_V f (pc + 3) L st x) : zv_V f pc L (.int a9 :: st) x := zv_if_ge hdg ht (fun c => k1 c (by rw [if_pos c] at h; exact h)) (fun c => k2 c (by rw [if_neg c] at h; exact h))
theorem zr_icmp_gt {a9 b9 : Int32} {off : Int} {tgt : Nat} {A B : Option β} (hdg : decode f.2.2.1 pc = .ok (.if_icmp .gt off, 3)) (ht : (pc : Int) + off = (tgt : Int)) (h : (if b9 < a9 then A else B) = some o) (k1 : b9 < a9 → A = some o → zv_V f tgt L st x) (k2 : ¬ b9 < a9 → B = some o → zv_V f (pc + 3) L st x) : zv_V f pc L (.int b9 :: .int a9 :: st) x := zv_icmp_gt hdg ht (fun c => k1 c (by rw [if_pos c] at h; exact h)) (fun c => k2 c (by rw [if_neg c] at h; exact h))
theorem zr_if_gt {a9 : Int32} {off : Int} {tgt : Nat} {A B : Option β} (hdg : decode f.2.2.1 pc = .ok (.ifCond .gt off, 3)) (ht : (pc : Int) + off = (tgt : Int)) (h : (if 0 < a9 then A else B) = some o) (k1 : 0 < a9 → A = some o → zv_V f tgt L st x) (k2 : ¬ 0 < a9 → B = some o → zv_V f (pc + 3) L st x) : zv_V f pc L (.int a9 :: st) x := zv_if_gt hdg ht (fun c => k1 c (by rw [if_pos c] at h; exact h)) (fun c => k2 c (by rw [if_neg c] at h; exact h))
theorem zr_icmp_le {a9 b9 : Int32} {off : Int} {tgt : Nat} {A B : Option β} (hdg : decode f.2.2.1 pc = .ok (.if_icmp .le off, 3)) (ht : (pc : Int) + off = (tgt : Int)) (h : (if a9 ≤ b9 then A else B) = some o) (k1 : a9 ≤ b9 → A = some o → zv_V f tgt L st x) (k2 : ¬ a9 ≤ b9 → B = some o → zv_V f (pc + 3) L st x) : zv_V f pc L (.int b9 :: .int a9 :: st) x := zv_icmp_le hdg ht (fun c => k1 c (by rw [if_pos c] at h; exact h)) (fun c => k2 c (by rw [if_neg c] at h; exact h))
theorem zr_if_le {a9 : Int32} {off : Int} {tgt : Nat} {A B : Option β} (hdg : decode f.2.2.1 pc = .ok (.ifCond .le off, 3)) (ht : (pc : Int) + off = (tgt : Int)) (h : (if a9 ≤ 0 then A else B) = some o) (k1 : a9 ≤ 0 → A = some o → zv_V f tgt L st x) (k2 : ¬ a9 ≤ 0 → B = some o → zv_V f (pc + 3) L st x) : zv_V f pc L (.int a9 :: st) x := zv_if_le hdg ht (fun c => k1 c (by rw [if_pos c] at h; exact h)) (fun c => k2 c (by rw [if_neg c] at h; exact h))
theorem zr_icmp_ne {a9 b9 : Int32} {off : Int} {tgt : Nat} {A B : Option β} (hdg : decode f.2.2.1 pc = .ok (.if_icmp .ne off, 3)) (ht : (pc : Int) + off = (tgt : Int)) (h : (if a9 = b9 then B else A) = some o) (k1 : ¬ a9 = b9 → A = some o → zv_V f tgt L st x) (k2 : a9 = b9 → B = some o → zv_V f (pc + 3) L st x) : zv_V f pc L (.int b9 :: .int a9 :: st) x := zv_icmp_ne hdg ht (fun c => k1 c (by rw [if_neg c] at h; exact h)) (fun c => k2 c (by rw [if_pos c] at h; exact h))
theorem zr_if_ne {a9 : Int32} {off : Int} {tgt : Nat} {A B : Option β} (hdg : decode f.2.2.1 pc = .ok (.ifCond .ne off, 3)) (ht : (pc : Int) + off = (tgt : Int)) (h : (if a9 = 0 then B else A) = some o) (k1 : ¬ a9 = 0 → A = some o → zv_V f tgt L st x) (k2 : a9 = 0 → B = some o → zv_V f (pc + 3) L st x) : zv_V f pc L (.int a9 :: st) x := zv_if_ne hdg ht (fun c => k1 c (by rw [if_neg c] at h; exact h)) (fun c => k2 c (by rw [if_pos c] at h; exact h))
theorem zr_acmp_eq {a9 b9 : Nat} {off : Int} {tgt : Nat} {A B : Option β} (hdg : decode f.2.2.1 pc = .ok (.if_acmp .eq off, 3)) (ht : (pc : Int) + off = (tgt : Int)) (h : (if a9 = b9 then A else B) = some o) (k1 : a9 = b9 → A = some o → zv_V f tgt L st x) (k2 : ¬ a9 = b9 → B = some o → zv_V f (pc + 3) L st x) : zv_V f pc L (.ref b9 :: .ref a9 :: st) x := zv_acmp_eq hdg ht (fun c => k1 c (by rw [if_pos c] at h; exact h)) (fun c => k2 c (by rw [if_neg c] at h; exact h))
theorem zr_tabIn {dflt lo hi : Int} {offs : Array Int} {len : Nat} {a9 k9 : Int32} {off : Int} {tgt : Nat} (hk : a9 = k9) (hdg : decode f.2.2.1 pc = .ok (.tableswitch dflt lo hi offs, len)) (h1 : ¬ k9.toInt < lo) (h2 : ¬ hi < k9.toInt) (ho : offs[(k9.toInt - lo).toNat]? = some off) (ht : (pc : Int) + off = (tgt : Int)) (kk : zv_V f tgt L st x) : zv_V f pc L (.int a9 :: st) x := by subst hk; exact zv_tableIn hdg h1 h2 ho ht kk
theorem zr_lookIn {dflt : Int} {ps : Array (Int × Int)} {len : Nat} {a9 k9 : Int32} {off : Int} {tgt : Nat} (hk : a9 = k9) (hdg : decode f.2.2.1 pc = .ok (.lookupswitch dflt ps, len)) (hp : (ps.toList.zip (ps.toList.drop 1)).all (fun (a, next) => a.1 < next.1) = true) (ho : Op.lookupswitch.offset ps.toList dflt k9.toInt = off) (ht : (pc : Int) + off = (tgt : Int)) (kk : zv_V f tgt L st x) : zv_V f pc L (.int a9 :: st) x := by subst hk; exact zv_lookup hdg hp ho ht kk
theorem zr_idiv {a9 b9 : Int32} {A : Option β} (hdg : decode f.2.2.1 pc = .ok (.idiv, 1)) (h : (if b9 = 0 then none else A) = some o) (kk : ¬ b9 = 0 → A = some o → zv_V f (pc + 1) L (.int (a9 / b9) :: st) x) : zv_V f pc L (.int b9 :: .int a9 :: st) x := by
  by_cases c : b9 = 0
  · rw [if_pos c] at h; cases h
  · rw [if_neg c] at h; exact zv_idiv hdg c (kk c h)
theorem zr_irem {a9 b9 : Int32} {A : Option β} (hdg : decode f.2.2.1 pc = .ok (.irem, 1)) (h : (if b9 = 0 then none else A) = some o) (kk : ¬ b9 = 0 → A = some o → zv_V f (pc + 1) L (.int (a9 - a9 / b9 * b9) :: st) x) : zv_V f pc L (.int b9 :: .int a9 :: st) x := by
  by_cases c : b9 = 0
  · rw [if_pos c] at h; cases h
  · rw [if_neg c] at h; exact zv_irem hdg c (kk c h)
theorem zr_ldiv {a9 b9 : Int64} {A : Option β} (hdg : decode f.2.2.1 pc = .ok (.ldiv, 1)) (h : (if b9 = 0 then none else A) = some o) (kk : ¬ b9 = 0 → A = some o → zv_V f (pc + 1) L (.long (a9 / b9) :: st) x) : zv_V f pc L (.long b9 :: .long a9 :: st) x := by
  by_cases c : b9 = 0
  · rw [if_pos c] at h; cases h
  · rw [if_neg c] at h; exact zv_ldiv hdg c (kk c h)
theorem zr_lrem {a9 b9 : Int64} {A : Option β} (hdg : decode f.2.2.1 pc = .ok (.lrem, 1)) (h : (if b9 = 0 then none else A) = some o) (kk : ¬ b9 = 0 → A = some o → zv_V f (pc + 1) L (.long (a9 - a9 / b9 * b9) :: st) x) : zv_V f pc L (.long b9 :: .long a9 :: st) x := by
  by_cases c : b9 = 0
  · rw [if_pos c] at h; cases h
  · rw [if_neg c] at h; exact zv_lrem hdg c (kk c h)
theorem zr_new {idx ci N : Nat} {C : String} {T : u_T} {ty : Nat → FieldType} {fs : List Value} {g : zv_X → Option β} (hdg : decode f.2.2.1 pc = .ok (.new idx, 3)) (hck : zv_ck ci C T N ty) (h1 : Cond.classLink f.2.1 idx C ∈ zv_U) (h2 : Cond.instantiable C N ∈ zv_U) (h3 : Cond.initialized C ∈ zv_U) (hfs : ∀ j, j < N → defaultValue (ty j) = vp_V fs j) (h : (some (zv_nw x (.inr (ci, fs)) N)).bind g = some o) (kk : ∀ x1, x1 = zv_nw x (.inr (ci, fs)) N → g x1 = some o → zv_V f (pc + 3) L (.ref x.2.1 :: st) x1) : zv_V f pc L st x := zv_new hdg hck h1 h2 h3 hfs (kk _ rfl h)
theorem zr_cast {idx ci : Nat} {q : vw_C} {nm : String} {g : Option β} (hdg : decode f.2.2.1 pc = .ok (.checkcast idx, 3)) (h1 : Cond.classLink f.2.1 idx nm ∈ zv_U) (hc : zv_cl[ci]? = some q) (hq : (q.1, nm) ∈ zv_casts) (h : (if zm_k x a ci = true then g else none) = some o) (kk : g = some o → zv_V f (pc + 3) L (.ref a :: st) x) : zv_V f pc L (.ref a :: st) x := by
  obtain ⟨hk, h⟩ := zg h
  obtain ⟨fs, hb⟩ := zm_k_ok hk
  exact zv_step (kk h) fun D p l e R s m args below meth c H locs ls cells slots Q hF hl hP hS kk => va_castY hF.1 hF.2.1 hF.ow (hF.ts _ h1) (hF.Z.1.2.1 _ hq) (zv_P.recv hF.K hP hb hc) hdg kk
end ZR
section ZRC
variable {f : zv_G} {pc : Nat} {L : List (Nat × Value)} {st0 st : List Value} {x : zv_X} {d idx n maxL : Nat} {y : MethodName} {cc : ByteArray} {ret : Option FieldType} {As : List Value} {α β : Type} {o : β} {X : α → zv_X}
theorem zr_cVi {V : α → Int32} {b ci : Nat} {q : vw_C} {M : Option α} {g : α → Option β} (hdg : decode f.2.2.1 pc = .ok (.invokevirtual idx, 3)) (hw : zv_mw y cc maxL ret n) (h1 : Cond.methodLink f.2.1 idx y ∈ zv_U) (h2 : Cond.instanceMethod y ∈ zv_U) (h3 : Cond.selects y.cls y y ∈ zv_U) (hc : zv_cl[ci]? = some q) (hq : q.1 = y.cls) (As : List Value) (hn : As.length = n) (hst : st0 = As.reverse ++ .ref b :: st) (hroom : (st.map fun v => v.category).sum ≤ 8) (hd : d + 1 ≤ f.1) (h : (if zm_k x b ci = true then M.bind g else none) = some o)
    (hT : ∀ o1, M = some o1 → zv_T d y cc maxL ret (.ref b :: As) x (X o1) (some (.int (V o1)))) (kk : ∀ o1, M = some o1 → g o1 = some o → zv_V f (pc + 3) L (.int (V o1) :: st) (X o1)) : zv_V f pc L st0 x := by
  obtain ⟨hk, h⟩ := zg h
  obtain ⟨o1, e, h⟩ := zb h
  obtain ⟨fs, hb⟩ := zm_k_ok hk
  exact zv_callV hdg hw h1 h2 h3 hd hn hst hroom hb hc hq (hT o1 e) (kk o1 e h)
theorem zr_cSi {V : α → Int32} {M : Option α} {g : α → Option β} (hdg : decode f.2.2.1 pc = .ok (.invokestatic idx, 3)) (hw : zv_mw y cc maxL ret n) (h1 : Cond.methodLink f.2.1 idx y ∈ zv_U) (h2 : Cond.static y ∈ zv_U) (As : List Value) (hn : As.length = n) (hst : st0 = As.reverse ++ st) (hroom : (st.map fun v => v.category).sum ≤ 8) (hd : d + 1 ≤ f.1) (h : M.bind g = some o)
    (hT : ∀ o1, M = some o1 → zv_T d y cc maxL ret As x (X o1) (some (.int (V o1)))) (kk : ∀ o1, M = some o1 → g o1 = some o → zv_V f (pc + 3) L (.int (V o1) :: st) (X o1)) : zv_V f pc L st0 x := by
  obtain ⟨o1, e, h⟩ := zb h
  exact zv_callS hdg hw h1 h2 hd hn hst hroom (hT o1 e) (kk o1 e h)
theorem zr_cVl {V : α → Int64} {b ci : Nat} {q : vw_C} {M : Option α} {g : α → Option β} (hdg : decode f.2.2.1 pc = .ok (.invokevirtual idx, 3)) (hw : zv_mw y cc maxL ret n) (h1 : Cond.methodLink f.2.1 idx y ∈ zv_U) (h2 : Cond.instanceMethod y ∈ zv_U) (h3 : Cond.selects y.cls y y ∈ zv_U) (hc : zv_cl[ci]? = some q) (hq : q.1 = y.cls) (As : List Value) (hn : As.length = n) (hst : st0 = As.reverse ++ .ref b :: st) (hroom : (st.map fun v => v.category).sum ≤ 8) (hd : d + 1 ≤ f.1) (h : (if zm_k x b ci = true then M.bind g else none) = some o)
    (hT : ∀ o1, M = some o1 → zv_T d y cc maxL ret (.ref b :: As) x (X o1) (some (.long (V o1)))) (kk : ∀ o1, M = some o1 → g o1 = some o → zv_V f (pc + 3) L (.long (V o1) :: st) (X o1)) : zv_V f pc L st0 x := by
  obtain ⟨hk, h⟩ := zg h
  obtain ⟨o1, e, h⟩ := zb h
  obtain ⟨fs, hb⟩ := zm_k_ok hk
  exact zv_callV hdg hw h1 h2 h3 hd hn hst hroom hb hc hq (hT o1 e) (kk o1 e h)
theorem zr_cSl {V : α → Int64} {M : Option α} {g : α → Option β} (hdg : decode f.2.2.1 pc = .ok (.invokestatic idx, 3)) (hw : zv_mw y cc maxL ret n) (h1 : Cond.methodLink f.2.1 idx y ∈ zv_U) (h2 : Cond.static y ∈ zv_U) (As : List Value) (hn : As.length = n) (hst : st0 = As.reverse ++ st) (hroom : (st.map fun v => v.category).sum ≤ 8) (hd : d + 1 ≤ f.1) (h : M.bind g = some o)
    (hT : ∀ o1, M = some o1 → zv_T d y cc maxL ret As x (X o1) (some (.long (V o1)))) (kk : ∀ o1, M = some o1 → g o1 = some o → zv_V f (pc + 3) L (.long (V o1) :: st) (X o1)) : zv_V f pc L st0 x := by
  obtain ⟨o1, e, h⟩ := zb h
  exact zv_callS hdg hw h1 h2 hd hn hst hroom (hT o1 e) (kk o1 e h)
theorem zr_cVr {V : α → Nat} {b ci : Nat} {q : vw_C} {M : Option α} {g : α → Option β} (hdg : decode f.2.2.1 pc = .ok (.invokevirtual idx, 3)) (hw : zv_mw y cc maxL ret n) (h1 : Cond.methodLink f.2.1 idx y ∈ zv_U) (h2 : Cond.instanceMethod y ∈ zv_U) (h3 : Cond.selects y.cls y y ∈ zv_U) (hc : zv_cl[ci]? = some q) (hq : q.1 = y.cls) (As : List Value) (hn : As.length = n) (hst : st0 = As.reverse ++ .ref b :: st) (hroom : (st.map fun v => v.category).sum ≤ 8) (hd : d + 1 ≤ f.1) (h : (if zm_k x b ci = true then M.bind g else none) = some o)
    (hT : ∀ o1, M = some o1 → zv_T d y cc maxL ret (.ref b :: As) x (X o1) (some (.ref (V o1)))) (kk : ∀ o1, M = some o1 → g o1 = some o → zv_V f (pc + 3) L (.ref (V o1) :: st) (X o1)) : zv_V f pc L st0 x := by
  obtain ⟨hk, h⟩ := zg h
  obtain ⟨o1, e, h⟩ := zb h
  obtain ⟨fs, hb⟩ := zm_k_ok hk
  exact zv_callV hdg hw h1 h2 h3 hd hn hst hroom hb hc hq (hT o1 e) (kk o1 e h)
theorem zr_cSr {V : α → Nat} {M : Option α} {g : α → Option β} (hdg : decode f.2.2.1 pc = .ok (.invokestatic idx, 3)) (hw : zv_mw y cc maxL ret n) (h1 : Cond.methodLink f.2.1 idx y ∈ zv_U) (h2 : Cond.static y ∈ zv_U) (As : List Value) (hn : As.length = n) (hst : st0 = As.reverse ++ st) (hroom : (st.map fun v => v.category).sum ≤ 8) (hd : d + 1 ≤ f.1) (h : M.bind g = some o)
    (hT : ∀ o1, M = some o1 → zv_T d y cc maxL ret As x (X o1) (some (.ref (V o1)))) (kk : ∀ o1, M = some o1 → g o1 = some o → zv_V f (pc + 3) L (.ref (V o1) :: st) (X o1)) : zv_V f pc L st0 x := by
  obtain ⟨o1, e, h⟩ := zb h
  exact zv_callS hdg hw h1 h2 hd hn hst hroom (hT o1 e) (kk o1 e h)
theorem zr_cVv {b ci : Nat} {q : vw_C} {M : Option α} {g : α → Option β} (hdg : decode f.2.2.1 pc = .ok (.invokevirtual idx, 3)) (hw : zv_mw y cc maxL ret n) (h1 : Cond.methodLink f.2.1 idx y ∈ zv_U) (h2 : Cond.instanceMethod y ∈ zv_U) (h3 : Cond.selects y.cls y y ∈ zv_U) (hc : zv_cl[ci]? = some q) (hq : q.1 = y.cls) (As : List Value) (hn : As.length = n) (hst : st0 = As.reverse ++ .ref b :: st) (hroom : (st.map fun v => v.category).sum ≤ 8) (hd : d + 1 ≤ f.1) (h : (if zm_k x b ci = true then M.bind g else none) = some o)
    (hT : ∀ o1, M = some o1 → zv_T d y cc maxL ret (.ref b :: As) x (X o1) (none)) (kk : ∀ o1, M = some o1 → g o1 = some o → zv_V f (pc + 3) L (st) (X o1)) : zv_V f pc L st0 x := by
  obtain ⟨hk, h⟩ := zg h
  obtain ⟨o1, e, h⟩ := zb h
  obtain ⟨fs, hb⟩ := zm_k_ok hk
  exact zv_callV hdg hw h1 h2 h3 hd hn hst hroom hb hc hq (hT o1 e) (kk o1 e h)
theorem zr_cSv {M : Option α} {g : α → Option β} (hdg : decode f.2.2.1 pc = .ok (.invokestatic idx, 3)) (hw : zv_mw y cc maxL ret n) (h1 : Cond.methodLink f.2.1 idx y ∈ zv_U) (h2 : Cond.static y ∈ zv_U) (As : List Value) (hn : As.length = n) (hst : st0 = As.reverse ++ st) (hroom : (st.map fun v => v.category).sum ≤ 8) (hd : d + 1 ≤ f.1) (h : M.bind g = some o)
    (hT : ∀ o1, M = some o1 → zv_T d y cc maxL ret As x (X o1) (none)) (kk : ∀ o1, M = some o1 → g o1 = some o → zv_V f (pc + 3) L (st) (X o1)) : zv_V f pc L st0 x := by
  obtain ⟨o1, e, h⟩ := zb h
  exact zv_callS hdg hw h1 h2 hd hn hst hroom (hT o1 e) (kk o1 e h)
theorem zr_cI {b : Nat} {M : Option α} {g : α → Option β} (hdg : decode f.2.2.1 pc = .ok (.invokespecial idx, 3)) (hw : zv_mw y cc maxL none n) (h1 : Cond.methodLink f.2.1 idx y ∈ zv_U) (h2 : Cond.instanceMethod y ∈ zv_U) (hy : y.name = "<init>") (As : List Value) (hn : As.length = n) (hst : st0 = As.reverse ++ .ref b :: st) (hroom : (st.map fun v => v.category).sum ≤ 8) (hd : d + 1 ≤ f.1) (h : M.bind g = some o)
    (hT : ∀ o1, M = some o1 → zv_T d y cc maxL none (.ref b :: As) x (X o1) none) (kk : ∀ o1, M = some o1 → g o1 = some o → zv_V f (pc + 3) L st (X o1)) : zv_V f pc L st0 x := by
  obtain ⟨o1, e, h⟩ := zb h
  exact zv_callI hdg hw h1 h2 hy hd hn hst hroom (hT o1 e) (kk o1 e h)
end ZRC

