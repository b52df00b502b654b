/-! ===== rules of the walk that read and change the memory; calls; ends ===== -/
section ZVA
variable {D : zv_D} {p : Program} {l : Launch} {s : State} {m : MethodId} {args : Array Value} {meth : Method} {c : Code} {f : zv_G}
theorem zv_F.rt (h : zv_F D p l s m args meth c f) : meth.sig.returnType = f.2.2.2.2.1 := h.2.2.1
theorem zv_F.ml (h : zv_F D p l s m args meth c f) : c.maxLocals = f.2.2.2.1 := h.2.2.2.1
theorem zv_F.ow (h : zv_F D p l s m args meth c f) : s.vm.findClass f.2.1 = some m.cls := h.2.2.2.2.1
theorem zv_F.ts (h : zv_F D p l s m args meth c f) : ∀ w ∈ zv_U, w.before args s = true := h.2.2.2.2.2.1
theorem zv_F.lk (h : zv_F D p l s m args meth c f) : meth.locks = false := h.2.2.2.2.2.2.1
theorem zv_F.nm (h : zv_F D p l s m args meth c f) : meth.name = f.2.2.2.2.2.1.1 := h.2.2.2.2.2.2.2.1
theorem zv_F.K (h : zv_F D p l s m args meth c f) : va_K D.1 zv_cl (zv_tys D.2) s := h.2.2.2.2.2.2.2.2.1
theorem zv_F.Z (h : zv_F D p l s m args meth c f) : zv_Z f.2.2.2.2.2.2.1.2.2.2 (zv_A f.2.2.2.2.2.2.1) s s.heap := h.2.2.2.2.2.2.2.2.2.1
theorem zv_F.sz (h : zv_F D p l s m args meth c f) : s.heap.size = f.2.2.2.2.2.2.1.2.1 := h.2.2.2.2.2.2.2.2.2.2.1
theorem zv_F.nt (h : zv_F D p l s m args meth c f) : l.stackTraces = false := h.2.2.2.2.2.2.2.2.2.2.2.1
end ZVA
theorem zv_P.one {D : zv_D} {x : zv_X} {H : Heap} {a : Nat} {e : zv_C} (hP : zv_P D x H) (ha : x.1 a = some e) : va_P D.1 zv_cl [(a, zv_e D.2 e)] H := by
  intro k q hk
  match k, hk with
  | 0, hk => cases hk; exact hP.2 a e ha
  | k + 1, hk => simp at hk
theorem zv_P.recv {D : zv_D} {x : zv_X} {H : Heap} {a ci : Nat} {fs : List Value} {q : vw_C} {s : State} (hK : va_K D.1 zv_cl (zv_tys D.2) s) (hP : zv_P D x H) (ha : x.1 a = some (.inr (ci, fs))) (hc : zv_cl[ci]? = some q) : ∃ cell : Cell, H[a]? = some cell ∧ cell.vm.isStatics = false ∧ s.vm.findClass q.1 = some cell.cls :=
  va_recv (ws := [(a, .inr (ci, fs))]) (q0 := 0) hK (hP.one ha) hc rfl
/-- a cell changes -/
def zv_st (x : zv_X) (a : Nat) (e : zv_C) : zv_X := (fun q => if q = a then some e else x.1 q, x.2)
/-- a cell comes -/
def zv_nw (x : zv_X) (e : zv_C) (n : Nat) : zv_X := (fun q => if q = x.2.1 then some e else x.1 q, x.2.1 + 1, x.2.2.1 + n, x.2.2.2)
theorem zv_st_A {x : zv_X} {a : Nat} {e e0 : zv_C} (ha : x.1 a = some e0) (q : Nat) : zv_A (zv_st x a e) q ↔ zv_A x q := by
  unfold zv_A zv_st
  by_cases h : q = a
  · subst h; simp [ha]
  · simp [h]
theorem zv_Le.st {x y : zv_X} {a : Nat} {e e0 : zv_C} (ha : x.1 a = some e0) (h : zv_Le (zv_st x a e) y) : zv_Le x y := ⟨h.1, h.2.1, h.2.2.1, fun q hq => (zv_st_A ha q).mp (h.2.2.2 q hq)⟩
theorem zv_Le.st' {x y : zv_X} {a : Nat} {e e0 : zv_C} (ha : x.1 a = some e0) (h : zv_Le y x) : zv_Le y (zv_st x a e) := ⟨h.1, h.2.1, h.2.2.1, fun q hq => h.A q ((zv_st_A ha q).mp (Or.inl hq))⟩
theorem zv_Le.nw (x : zv_X) (e : zv_C) (n : Nat) : zv_Le x (zv_nw x e n) := by
  refine ⟨Nat.le_succ _, Nat.le_add_right _ _, rfl, fun q hq => ?_⟩
  by_cases h : q = x.2.1
  · exact Or.inr (Nat.le_of_eq h.symm)
  · exact Or.inl (by simpa [zv_nw, h] using hq)
/-- a rule that changes one cell -/
theorem zv_hset {f : zv_G} {pc pc' : Nat} {L : List (Nat × Value)} {st st' : List Value} {x : zv_X} {a : Nat} {e0 e : zv_C} (ha : x.1 a = some e0) (k : zv_V f pc' L st' (zv_st x a e))
    (h : ∀ (D : zv_D) (p : Program) (l : Launch) (E : Env) (R : Room) (s : State) (m : MethodId) (args : Array Value) (below : List Frame) (meth : Method) (c : Code) (H : Heap) (locs : List Loc) (ls : Array Slot) (cells slots : Nat) (Q : State → Prop),
      zv_F D p l s m args meth c f → ls.size = f.2.2.2.1 → zv_P D x H → (∀ (H' : Heap) (locs' : List Loc), va_at D.1 zv_cl (a, zv_e D.2 e) H' → H'.size = H.size → (∀ q : Nat, q ≠ a → H'[q]? = H[q]?) → (∀ q ∈ locs', q.base = a) → W p l E R s m args below meth c H' (locs ++ locs') cells slots Q (F0 m pc' ls st')) → W p l E R s m args below meth c H locs cells slots Q (F0 m pc ls st)) : zv_V f pc L st x := by
  refine ⟨k.1.st ha, fun h0 D p l E s m args below meth c H locs ls hF hl hP hS => ?_⟩
  refine h D p l E _ s m args below meth c H locs ls _ _ _ hF hl.1 hP fun H' locs' hat hz hq hL => ?_
  have hA : zv_A f.2.2.2.2.2.2.1 a := h0.2.2.2 a (by rw [ha]; exact fun z => by cases z)
  refine k.2 (h0.st' ha) D p l E s m args below meth c H' (locs ++ locs') ls hF hl ⟨hz.trans hP.1, fun b e1 hb => ?_⟩ ⟨by rw [hz]; exact hS.1, fun q h1 h2 => ?_, fun q hq' => ?_⟩
  · by_cases hba : b = a
    · subst hba
      have : e = e1 := by simpa [zv_st] using hb
      subst this
      exact hat
    · have hb' : x.1 b = some e1 := by simpa [zv_st, hba] using hb
      exact (hP.2 b e1 hb').kept (hq b hba)
  · rw [hq q (fun z => h2 (z ▸ hA))]
    exact hS.2.1 q h1 h2
  · rcases List.mem_append.mp hq' with h1 | h1
    · exact hS.2.2 q h1
    · rw [hL q h1]; exact hA
/-- a rule that makes one cell -/
theorem zv_hnew {f : zv_G} {pc pc' : Nat} {L : List (Nat × Value)} {st st' : List Value} {x : zv_X} {e : zv_C} {n : Nat} (k : zv_V f pc' L st' (zv_nw x e n))
    (h : ∀ (D : zv_D) (p : Program) (l : Launch) (E : Env) (R : Room) (s : State) (m : MethodId) (args : Array Value) (below : List Frame) (meth : Method) (c : Code) (H : Heap) (locs : List Loc) (ls : Array Slot) (cells slots : Nat) (Q : State → Prop),
      zv_F D p l s m args meth c f → ls.size = f.2.2.2.1 → zv_P D x H → cells + 1 ≤ R.cells → slots + n ≤ R.slots → (∀ H' : Heap, va_at D.1 zv_cl (x.2.1, zv_e D.2 e) H' → H'.size = H.size + 1 → (∀ q : Nat, q < H.size → H'[q]? = H[q]?) → W p l E R s m args below meth c H' locs (cells + 1) (slots + n) Q (F0 m pc' ls st')) → W p l E R s m args below meth c H locs cells slots Q (F0 m pc ls st)) : zv_V f pc L st x := by
  have hle := (zv_Le.nw x e n).tr k.1
  refine ⟨hle, fun h0 D p l E s m args below meth c H locs ls hF hl hP hS => ?_⟩
  have k1 : x.2.1 + 1 ≤ f.2.2.2.2.2.2.2.1.2.1 := k.1.1
  have k2 : x.2.2.1 + n ≤ f.2.2.2.2.2.2.2.1.2.2.1 := k.1.2.1
  have g1 : f.2.2.2.2.2.2.1.2.1 ≤ x.2.1 := h0.1
  have g2 : f.2.2.2.2.2.2.1.2.2.1 ≤ x.2.2.1 := h0.2.1
  refine h D p l E _ s m args below meth c H locs ls _ _ _ hF hl.1 hP (by show _ ≤ f.2.2.2.2.2.2.2.1.2.1 - f.2.2.2.2.2.2.1.2.1; omega) (by show _ ≤ f.2.2.2.2.2.2.2.1.2.2.1 - f.2.2.2.2.2.2.1.2.2.1; omega) fun H' hat hz hq => ?_
  have e1 : x.2.1 - f.2.2.2.2.2.2.1.2.1 + 1 = (zv_nw x e n).2.1 - f.2.2.2.2.2.2.1.2.1 := by show _ = x.2.1 + 1 - _; omega
  have e2 : x.2.2.1 - f.2.2.2.2.2.2.1.2.2.1 + n = (zv_nw x e n).2.2.1 - f.2.2.2.2.2.2.1.2.2.1 := by show _ = x.2.2.1 + n - _; omega
  rw [e1, e2]
  have hH : H.size = x.2.1 := hP.1
  refine k.2 (h0.tr (zv_Le.nw x e n)) D p l E s m args below meth c H' locs ls hF hl ⟨by rw [hz, hH]; rfl, fun b e9 hb => ?_⟩ ⟨by rw [hz]; exact Nat.le_succ_of_le hS.1, fun q h1 h2 => ?_, hS.2.2⟩
  · by_cases hba : b = x.2.1
    · subst hba
      have : e = e9 := by simpa [zv_nw] using hb
      subst this
      exact hat
    · have hb' : x.1 b = some e9 := by simpa [zv_nw, hba] using hb
      have hat' := hP.2 b e9 hb'
      exact hat'.kept (hq b hat'.lt)
  · rw [hq q (Nat.lt_of_lt_of_le h1 hS.1)]
    exact hS.2.1 q h1 h2
/-- what the tables say of a class of ours -/
def zv_ck (ci : Nat) (C : String) (T : u_T) (N : Nat) (ty : Nat → FieldType) : Prop := zv_cl[ci]? = some (C, T, N) ∧ (∀ w ∈ u_ws C T N, w ∈ zv_U) ∧ (∀ k, k < N → parseFieldDescriptor (T k).2.2.1 = some (ty k)) ∧ ∀ a, a < N → ∀ b, b < N → a ≠ b → (T a).2.1 ≠ (T b).2.1
/-- a field's link, to read it -/
def zv_fg (own : String) (idx ci k : Nat) : Prop := ∃ (C : String) (T : u_T) (N : Nat) (tys : Nat → FieldType) (ref : String), zv_ck ci C T N tys ∧ k < N ∧ Cond.fieldLink own idx ref (T k).2.1 (T k).2.2.1 ∈ zv_U ∧ (ref = (T k).1 ∨ Cond.sameField ref (T k).1 (T k).2.1 (T k).2.2.1 ∈ zv_U)
/-- a field's link, to write it -/
def zv_fl (own : String) (idx ci k : Nat) (ty : FieldType) (fin : Bool) : Prop := ∃ (C : String) (T : u_T) (N : Nat) (tys : Nat → FieldType) (ref : String), zv_ck ci C T N tys ∧ k < N ∧ tys k = ty ∧ (T k).2.2.2 = fin ∧ (fin = true → (T k).1 = own) ∧ Cond.fieldLink own idx ref (T k).2.1 (T k).2.2.1 ∈ zv_U ∧ (ref = (T k).1 ∨ Cond.sameField ref (T k).1 (T k).2.1 (T k).2.2.1 ∈ zv_U)
section ZVM
variable {f : zv_G} {pc : Nat} {L : List (Nat × Value)} {st : List Value} {x : zv_X} {a : Nat}
theorem zv_get {idx ci k : Nat} {fs : List Value} {v : Value} (hdg : decode f.2.2.1 pc = .ok (.getfield idx, 3)) (hw : zv_fg f.2.1 idx ci k) (ha : x.1 a = some (.inr (ci, fs))) (hv : fs[k]? = some v) (kk : zv_V f (pc + 3) L (v :: st) x) : zv_V f pc L (.ref a :: st) x := by
  obtain ⟨C, T, N, tys, ref, hck, hk, hln, hsm⟩ := hw
  refine zv_step kk fun D p l e R s m args below meth c H locs ls cells slots Q hF hl hP hS kk => ?_
  refine va_get (D := D.1) (cl := zv_cl) (tys := zv_tys D.2) (ws := [(a, .inr (ci, fs))]) (ci := ci) hF.1 hF.2.1 hF.ts hck.2.1 hF.ow hF.K (hP.one ha) 0 rfl hck.1 k hk (hF.ts _ hln) (fun z hz => ?_) hv hdg kk
  rcases hsm with h | h
  · rw [h]; exact hz
  · exact u_same (hF.ts _ h) z hz
theorem zv_put {idx ci k : Nat} {ty : FieldType} {fin : Bool} {fs : List Value} {v : Value} (hdg : decode f.2.2.1 pc = .ok (.putfield idx, 3)) (hw : zv_fl f.2.1 idx ci k ty fin) (hfin : fin = true → f.2.2.2.2.2.1.1 = "<init>") (hn : narrow ty v = v) (hfit : fits ty v = true) (ha : x.1 a = some (.inr (ci, fs))) (hk : k < fs.length) (kk : zv_V f (pc + 3) L st (zv_st x a (.inr (ci, fs.set k v)))) : zv_V f pc L (v :: .ref a :: st) x := by
  obtain ⟨C, T, N, tys, ref, hck, hkN, hty, hfn, hdecl, hln, hsm⟩ := hw
  refine zv_hset ha kk fun D p l e R s m args below meth c H locs ls cells slots Q hF hl hP kk => ?_
  have hd : parseFieldDescriptor (T k).2.2.1 = some ty := by rw [← hty]; exact hck.2.2.1 k hkN
  have hap := va_apart (own := f.2.1) hF.ts hck.2.1 tys hck.2.2.1 hck.2.2.2 hF.K hck.1
  obtain ⟨r, h1, cell, q1, q2, q3, q4⟩ := hP.2 a _ ha
  have hr : r = (C, T, N) := Option.some.inj (h1.symm.trans hck.1)
  subst hr
  obtain ⟨hSl, hfc, kC, hkC, hkind⟩ := hF.K.1 ci _ hck.1
  obtain ⟨cf, kf, fi, fd, hi, hsl⟩ := hSl k hkN
  have hi2 : s.fieldFound? ref (T k).2.1 (T k).2.2.1 = some (cf, kf, fi, fd) := by
    rcases hsm with h | h
    · rw [h]; exact hi
    · exact u_same (hF.ts _ h) _ hi
  have hlay := hF.ts _ (hck.2.1 _ (u_in_lay hkN))
  have hst := (u_facts hfc hkC (u_lays hF.ts hck.2.1 hkN) hi).1
  have fine : ∀ H' : Heap, H'[a]? = some (cell.setSlot fd.slot v) → va_at D.1 zv_cl (a, zv_e D.2 (.inr (ci, fs.set k v))) H' := fun H' e1 => by
    rw [hsl] at e1
    exact ⟨_, hck.1, t_OB.to (V := updV (vp_V fs) k v) ⟨_, e1, q2, q3, t_set q4 hap hkN v⟩ (fun j _ => vp_updV_set hk v j)⟩
  cases fin with
  | false =>
    unfold u_lay at hlay
    rw [if_neg (by rw [hfn]; decide)] at hlay
    have h6 := u_store hfc hkC hkind hlay hi hd hn hfit
    refine W.putK hF.1 hF.2.1 (f := fd) ⟨hF.ow, hF.ts _ hln, ⟨_, _, _, hi2⟩, hst⟩ (by rw [q2]; exact h6) q1 q3 (by rw [hsl]; exact k2_hasslot (q4 k hkN)) rfl rfl hdg fun H' e1 e2 e3 => ?_
    exact kk H' _ (fine H' e1) e2 e3 (fun q hq => by rw [List.mem_singleton.mp hq])
  | true =>
    unfold u_lay at hlay
    rw [if_pos hfn] at hlay
    have hcf : m.cls = cf := by
      obtain ⟨_, _, c', _, _, _, -, -, hf', -, -, -, hown2, -⟩ := Cond.laysFinal_spec hlay
      have e1 : c' = cf := by have := hi.symm.trans hf'; simp at this; exact this.1.symm
      rw [hdecl rfl] at hown2
      rw [← e1]; exact Option.some.inj (hF.ow.symm.trans hown2)
    have h6 := u_fits hfc hkC hkind (Or.inr hlay) hi hd hn hfit
    refine W.putFinK hF.1 hF.2.1 hF.ow (hF.ts _ hln) hi2 hst hcf (hF.nm.trans (hfin rfl)) (by rw [q2]; exact h6) q1 q3 (by rw [hsl]; exact k2_hasslot (q4 k hkN)) rfl rfl hdg fun H' e1 e2 e3 => ?_
    exact kk H' _ (fine H' e1) e2 e3 (fun q hq => by rw [List.mem_singleton.mp hq])
theorem zv_iald {n : Nat} {g : Nat → Int32} {i : Int32} (hdg : decode f.2.2.1 pc = .ok (.iaload, 1)) (ha : x.1 a = some (.inl (0, n, .inl g))) (hin : vp_in i n) (kk : zv_V f (pc + 1) L (.int (g i.toNatClampNeg) :: st) x) : zv_V f pc L (.int i :: .ref a :: st) x := zv_step kk fun D p l e R s m args below meth c H locs ls cells slots Q hF hl hP hS kk => va_iald (ws := [(a, zv_e D.2 (.inl (0, n, .inl g)))]) hF.1 hF.2.1 hF.K (hP.one ha) 0 0 rfl rfl hin hdg kk
theorem zv_bald {n : Nat} {g : Nat → Int32} {i : Int32} (hdg : decode f.2.2.1 pc = .ok (.baload, 1)) (ha : x.1 a = some (.inl (2, n, .inl g))) (hin : vp_in i n) (kk : zv_V f (pc + 1) L (.int (g i.toNatClampNeg) :: st) x) : zv_V f pc L (.int i :: .ref a :: st) x := zv_step kk fun D p l e R s m args below meth c H locs ls cells slots Q hF hl hP hS kk => va_bald (ws := [(a, zv_e D.2 (.inl (2, n, .inl g)))]) hF.1 hF.2.1 hF.K (hP.one ha) 0 2 rfl rfl hin hdg kk
theorem zv_zald {n : Nat} {g : Nat → Int32} {i : Int32} (hdg : decode f.2.2.1 pc = .ok (.baload, 1)) (ha : x.1 a = some (.inl (3, n, .inl g))) (hin : vp_in i n) (kk : zv_V f (pc + 1) L (.int (g i.toNatClampNeg) :: st) x) : zv_V f pc L (.int i :: .ref a :: st) x := zv_step kk fun D p l e R s m args below meth c H locs ls cells slots Q hF hl hP hS kk => va_zald (ws := [(a, zv_e D.2 (.inl (3, n, .inl g)))]) hF.1 hF.2.1 hF.K (hP.one ha) 0 3 rfl rfl hin hdg kk
theorem zv_lald {n : Nat} {g : Nat → Int64} {i : Int32} (hdg : decode f.2.2.1 pc = .ok (.laload, 1)) (ha : x.1 a = some (.inl (1, n, .inr (.inl g)))) (hin : vp_in i n) (kk : zv_V f (pc + 1) L (.long (g i.toNatClampNeg) :: st) x) : zv_V f pc L (.int i :: .ref a :: st) x := zv_step kk fun D p l e R s m args below meth c H locs ls cells slots Q hF hl hP hS kk => va_lald (ws := [(a, zv_e D.2 (.inl (1, n, .inr (.inl g))))]) hF.1 hF.2.1 hF.K (hP.one ha) 0 1 rfl rfl hin hdg kk
theorem zv_aald {t n b : Nat} {g : Nat → Option Nat} {i : Int32} (hdg : decode f.2.2.1 pc = .ok (.aaload, 1)) (ha : x.1 a = some (.inl (t, n, .inr (.inr (.inr (.inr g)))))) (ht : t = 4 ∨ t = 5) (hin : vp_in i n) (hg : g i.toNatClampNeg = some b) (kk : zv_V f (pc + 1) L (.ref b :: st) x) : zv_V f pc L (.int i :: .ref a :: st) x := zv_step kk fun D p l e R s m args below meth c H locs ls cells slots Q hF hl hP hS kk => by
  rcases ht with rfl | rfl
  · exact va_aldq (ws := [(a, zv_e D.2 (.inl (4, n, .inr (.inr (.inr (.inr g))))))]) hF.1 hF.2.1 hF.K (hP.one ha) 0 4 rfl rfl hin hdg (by rw [hg]; exact kk)
  · exact va_aldq (ws := [(a, zv_e D.2 (.inl (5, n, .inr (.inr (.inr (.inr g))))))]) hF.1 hF.2.1 hF.K (hP.one ha) 0 5 rfl rfl hin hdg (by rw [hg]; exact kk)
theorem zv_alen {t n : Nat} {y : (Nat → Int32) ⊕ (Nat → Int64) ⊕ (Nat → UInt32) ⊕ (Nat → UInt64) ⊕ (Nat → Option Nat)} (hdg : decode f.2.2.1 pc = .ok (.arraylength, 1)) (ha : x.1 a = some (.inl (t, n, y))) (ht : t < 6) (kk : zv_V f (pc + 1) L (.int (Int32.ofNat n) :: st) x) : zv_V f pc L (.ref a :: st) x := zv_step kk fun D p l e R s m args below meth c H locs ls cells slots Q hF hl hP hS kk => by
  match t, ht with
  | 0, _ => exact va_alen (ws := [(a, zv_e D.2 (.inl (0, n, y)))]) hF.1 hF.2.1 hF.K (hP.one ha) 0 0 rfl rfl rfl hdg kk
  | 1, _ => exact va_alen (ws := [(a, zv_e D.2 (.inl (1, n, y)))]) hF.1 hF.2.1 hF.K (hP.one ha) 0 1 rfl rfl rfl hdg kk
  | 2, _ => exact va_alen (ws := [(a, zv_e D.2 (.inl (2, n, y)))]) hF.1 hF.2.1 hF.K (hP.one ha) 0 2 rfl rfl rfl hdg kk
  | 3, _ => exact va_alen (ws := [(a, zv_e D.2 (.inl (3, n, y)))]) hF.1 hF.2.1 hF.K (hP.one ha) 0 3 rfl rfl rfl hdg kk
  | 4, _ => exact va_alen (ws := [(a, zv_e D.2 (.inl (4, n, y)))]) hF.1 hF.2.1 hF.K (hP.one ha) 0 4 rfl rfl rfl hdg kk
  | 5, _ => exact va_alen (ws := [(a, zv_e D.2 (.inl (5, n, y)))]) hF.1 hF.2.1 hF.K (hP.one ha) 0 5 rfl rfl rfl hdg kk
theorem zv_updI (cA : ClassId) (n k : Nat) (g : Nat → Int32) (v : Int32) : (arrV cA n (fun j => .int (g j))).setSlot k (.int v) = vp_cell cA (n, .inl (upd g k v)) := by
  rw [vp_cell_i, arrV_store]
  congr 1
  funext q
  by_cases hq : q = k
  · subst hq; simp [updV, upd]
  · simp [updV, upd, hq]
theorem zv_iast {n : Nat} {g : Nat → Int32} {i v : Int32} (hdg : decode f.2.2.1 pc = .ok (.iastore, 1)) (ha : x.1 a = some (.inl (0, n, .inl g))) (hin : vp_in i n) (kk : zv_V f (pc + 1) L st (zv_st x a (.inl (0, n, .inl (upd g i.toNatClampNeg v))))) : zv_V f pc L (.int v :: .int i :: .ref a :: st) x := by
  refine zv_hset ha kk fun D p l e R s m args below meth c H locs ls cells slots Q hF hl hP kk => ?_
  refine W.iast hF.1 hF.2.1 (hP.2 a _ ha) ((hF.K.2 0 _ rfl).1 n (fun j => .int (g j))) (fun q => by cases q) (by show ¬ (i < 0 ∨ (arrV _ _ _).slots.size ≤ _); rw [arrV_size]; exact hin) rfl rfl hdg fun H1 e z oq => ?_
  exact kk H1 _ (by show H1[a]? = _; rw [e]; exact congrArg some (zv_updI _ _ _ _ _)) z oq (fun q hq => by rw [List.mem_singleton.mp hq])
theorem zv_bast {n : Nat} {g : Nat → Int32} {i v : Int32} (hdg : decode f.2.2.1 pc = .ok (.bastore, 1)) (ha : x.1 a = some (.inl (2, n, .inl g))) (hin : vp_in i n) (kk : zv_V f (pc + 1) L st (zv_st x a (.inl (2, n, .inl (upd g i.toNatClampNeg v.toInt8.toInt32))))) : zv_V f pc L (.int v :: .int i :: .ref a :: st) x := by
  refine zv_hset ha kk fun D p l e R s m args below meth c H locs ls cells slots Q hF hl hP kk => ?_
  refine W.bast hF.1 hF.2.1 (hP.2 a _ ha) ((hF.K.2 2 _ rfl).1 n (fun j => .int (g j))) (fun q => by cases q) (by show ¬ (i < 0 ∨ (arrV _ _ _).slots.size ≤ _); rw [arrV_size]; exact hin) rfl rfl hdg fun H1 e z oq => ?_
  exact kk H1 _ (by show H1[a]? = _; rw [e, narrow_byte]; exact congrArg some (zv_updI _ _ _ _ _)) z oq (fun q hq => by rw [List.mem_singleton.mp hq])
theorem zv_zast {n : Nat} {g : Nat → Int32} {i v : Int32} (hdg : decode f.2.2.1 pc = .ok (.bastore, 1)) (ha : x.1 a = some (.inl (3, n, .inl g))) (hin : vp_in i n) (hv : v = 0 ∨ v = 1) (kk : zv_V f (pc + 1) L st (zv_st x a (.inl (3, n, .inl (upd g i.toNatClampNeg v))))) : zv_V f pc L (.int v :: .int i :: .ref a :: st) x := by
  have hn : narrow .boolean (.int v) = .int v := by rcases hv with rfl | rfl <;> rfl
  refine zv_hset ha kk fun D p l e R s m args below meth c H locs ls cells slots Q hF hl hP kk => ?_
  refine W.zast hF.1 hF.2.1 (hP.2 a _ ha) ((hF.K.2 3 _ rfl).1 n (fun j => .int (g j))) (fun q => by cases q) (by show ¬ (i < 0 ∨ (arrV _ _ _).slots.size ≤ _); rw [arrV_size]; exact hin) rfl rfl hdg fun H1 e z oq => ?_
  exact kk H1 _ (by show H1[a]? = _; rw [e, hn]; exact congrArg some (zv_updI _ _ _ _ _)) z oq (fun q hq => by rw [List.mem_singleton.mp hq])
theorem zv_updL (cA : ClassId) (n k : Nat) (g : Nat → Int64) (v : Int64) : (arrV cA n (fun j => .long (g j))).setSlot k (.long v) = vp_cell cA (n, .inr (.inl (vp_updL g k v))) := by
  rw [vp_cell_l, arrV_store]
  congr 1
  funext q
  by_cases hq : q = k
  · subst hq; simp [updV, vp_updL]
  · simp [updV, vp_updL, hq]
theorem zv_last {n : Nat} {g : Nat → Int64} {i : Int32} {v : Int64} (hdg : decode f.2.2.1 pc = .ok (.lastore, 1)) (ha : x.1 a = some (.inl (1, n, .inr (.inl g)))) (hin : vp_in i n) (kk : zv_V f (pc + 1) L st (zv_st x a (.inl (1, n, .inr (.inl (vp_updL g i.toNatClampNeg v)))))) : zv_V f pc L (.long v :: .int i :: .ref a :: st) x := by
  refine zv_hset ha kk fun D p l e R s m args below meth c H locs ls cells slots Q hF hl hP kk => ?_
  refine W.last hF.1 hF.2.1 (hP.2 a _ ha) ((hF.K.2 1 _ rfl).1 n (fun j => .long (g j))) (fun q => by cases q) (by show ¬ (i < 0 ∨ (arrV _ _ _).slots.size ≤ _); rw [arrV_size]; exact hin) rfl rfl hdg fun H1 e z oq => ?_
  exact kk H1 _ (by show H1[a]? = _; rw [e]; exact congrArg some (zv_updL _ _ _ _ _)) z oq (fun q hq => by rw [List.mem_singleton.mp hq])
/-- an object is made -/
theorem zv_new {idx ci N : Nat} {C : String} {T : u_T} {ty : Nat → FieldType} {fs : List Value} (hdg : decode f.2.2.1 pc = .ok (.new idx, 3)) (hck : zv_ck ci C T N ty) (h1 : Cond.classLink f.2.1 idx C ∈ zv_U) (h2 : Cond.instantiable C N ∈ zv_U) (h3 : Cond.initialized C ∈ zv_U) (hfs : ∀ j, j < N → defaultValue (ty j) = vp_V fs j) (kk : zv_V f (pc + 3) L (.ref x.2.1 :: st) (zv_nw x (.inr (ci, fs)) N)) : zv_V f pc L st x := by
  refine zv_hnew kk fun D p l e R s m args below meth c H locs ls cells slots Q hF hl hP hc hs kk => ?_
  have hKn := hF.K.1 ci _ hck.1
  refine W.newcK hF.1 hF.2.1 hF.ow (hF.ts _ h1) (hF.ts _ h2) (hF.ts _ h3) rfl hdg hc hs hKn.2.1 hP.1 fun H1 kC hkC e1 z1 o1 => ?_
  exact kk H1 ⟨_, hck.1, (u_born ty hF.ts hck.2.1 hKn hkC e1 hck.2.2.1).to hfs⟩ (by rw [z1, hP.1]) (fun q hq => o1 q (by rw [← hP.1]; exact hq))
theorem zv_newI {n : Int32} {N : Nat} (hdg : decode f.2.2.1 pc = .ok (.newarray .int, 2)) (hw : Cond.arrayClass .int ∈ zv_U) (hn : ¬ n < 0) (hN : n.toNatClampNeg = N) (hB : N ≤ 100000) (kk : zv_V f (pc + 2) L (.ref x.2.1 :: st) (zv_nw x (.inl (0, N, .inl fun _ => 0)) N)) : zv_V f pc L (.int n :: st) x := by
  refine zv_hnew kk fun D p l e R s m args below meth c H locs ls cells slots Q hF hl hP hc hs kk => ?_
  refine va_newaK (atype := .int) hF.1 hF.2.1 (hF.ts _ hw) rfl hdg rfl hn hN (by show N * 4 ≤ _; omega) hc hs hP.1 fun H1 cA e1 z1 o1 hAr hNm => ?_
  have hcA : cA = D.2 0 := Option.some.inj (hNm.symm.trans (hF.K.2 0 _ rfl).2)
  refine kk H1 ?_ (by rw [z1, hP.1]) (fun q hq => o1 q (by rw [← hP.1]; exact hq))
  show H1[x.2.1]? = some (vp_cell (D.2 0) (N, .inl fun _ => 0))
  rw [e1, hcA]; rfl
theorem zv_newL {n : Int32} {N : Nat} (hdg : decode f.2.2.1 pc = .ok (.newarray .long, 2)) (hw : Cond.arrayClass .long ∈ zv_U) (hn : ¬ n < 0) (hN : n.toNatClampNeg = N) (hB : N ≤ 100000) (kk : zv_V f (pc + 2) L (.ref x.2.1 :: st) (zv_nw x (.inl (1, N, .inr (.inl fun _ => 0))) N)) : zv_V f pc L (.int n :: st) x := by
  refine zv_hnew kk fun D p l e R s m args below meth c H locs ls cells slots Q hF hl hP hc hs kk => ?_
  refine va_newaK (atype := .long) hF.1 hF.2.1 (hF.ts _ hw) rfl hdg rfl hn hN (by show N * 8 ≤ _; omega) hc hs hP.1 fun H1 cA e1 z1 o1 hAr hNm => ?_
  have hcA : cA = D.2 1 := Option.some.inj (hNm.symm.trans (hF.K.2 1 _ rfl).2)
  refine kk H1 ?_ (by rw [z1, hP.1]) (fun q hq => o1 q (by rw [← hP.1]; exact hq))
  show H1[x.2.1]? = some (vp_cell (D.2 1) (N, .inr (.inl fun _ => 0)))
  rw [e1, hcA]; rfl
theorem zv_newB {n : Int32} {N : Nat} (hdg : decode f.2.2.1 pc = .ok (.newarray .byte, 2)) (hw : Cond.arrayClass .byte ∈ zv_U) (hn : ¬ n < 0) (hN : n.toNatClampNeg = N) (hB : N ≤ 100000) (kk : zv_V f (pc + 2) L (.ref x.2.1 :: st) (zv_nw x (.inl (2, N, .inl fun _ => 0)) N)) : zv_V f pc L (.int n :: st) x := by
  refine zv_hnew kk fun D p l e R s m args below meth c H locs ls cells slots Q hF hl hP hc hs kk => ?_
  refine va_newaK (atype := .byte) hF.1 hF.2.1 (hF.ts _ hw) rfl hdg rfl hn hN (by show N * 1 ≤ _; omega) hc hs hP.1 fun H1 cA e1 z1 o1 hAr hNm => ?_
  have hcA : cA = D.2 2 := Option.some.inj (hNm.symm.trans (hF.K.2 2 _ rfl).2)
  refine kk H1 ?_ (by rw [z1, hP.1]) (fun q hq => o1 q (by rw [← hP.1]; exact hq))
  show H1[x.2.1]? = some (vp_cell (D.2 2) (N, .inl fun _ => 0))
  rw [e1, hcA]; rfl
theorem zv_newZ {n : Int32} {N : Nat} (hdg : decode f.2.2.1 pc = .ok (.newarray .boolean, 2)) (hw : Cond.arrayClass .boolean ∈ zv_U) (hn : ¬ n < 0) (hN : n.toNatClampNeg = N) (hB : N ≤ 100000) (kk : zv_V f (pc + 2) L (.ref x.2.1 :: st) (zv_nw x (.inl (3, N, .inl fun _ => 0)) N)) : zv_V f pc L (.int n :: st) x := by
  refine zv_hnew kk fun D p l e R s m args below meth c H locs ls cells slots Q hF hl hP hc hs kk => ?_
  refine va_newaK (atype := .boolean) hF.1 hF.2.1 (hF.ts _ hw) rfl hdg rfl hn hN (by show N * 1 ≤ _; omega) hc hs hP.1 fun H1 cA e1 z1 o1 hAr hNm => ?_
  have hcA : cA = D.2 3 := Option.some.inj (hNm.symm.trans (hF.K.2 3 _ rfl).2)
  refine kk H1 ?_ (by rw [z1, hP.1]) (fun q hq => o1 q (by rw [← hP.1]; exact hq))
  show H1[x.2.1]? = some (vp_cell (D.2 3) (N, .inl fun _ => 0))
  rw [e1, hcA]; rfl
end ZVM
