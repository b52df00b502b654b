/-! ===== ends, entries and calls ===== -/
section ZVE
variable {d nL : Nat} {own : String} {nm : String × List ExceptionTableEntry} {cc : ByteArray} {rt : Option FieldType} {x0 x : zv_X} {pc : Nat} {L : List (Nat × Value)}
theorem zv_Qend {D : zv_D} {s t : State} {H : Heap} {locs : List Loc} {r : Option Value} {args : Array Value} (hP : zv_P D x H) (hS : va_S (zv_A x0) s.heap H locs) (ht : t.heap = H) : zv_Q D x0 x r args s (.returned r) t := ⟨rfl, by rw [ht]; exact hP, hS.F ht⟩
theorem zv_iret {v : Int32} (hdg : decode cc pc = .ok (.ireturn, 1)) (hrt : rt = some .int) : zv_V (d, own, cc, nL, rt, nm, x0, x, zv_fin x0 x (some (.int v))) pc L [.int v] x :=
  ⟨zv_Le.rf x, fun h0 D p l e s m args below meth c H locs ls hF hl hP hS => W.iret (v := v) hF.1 hF.2.1 (hF.rt.trans hrt) (fun t ht hW => zv_Qend hP hS ht) hS.2.2 hdg hF.lk⟩
theorem zv_zret {v : Int32} (hdg : decode cc pc = .ok (.ireturn, 1)) (hrt : rt = some .boolean) (hv : v = 0 ∨ v = 1) : zv_V (d, own, cc, nL, rt, nm, x0, x, zv_fin x0 x (some (.int v))) pc L [.int v] x :=
  ⟨zv_Le.rf x, fun h0 D p l e s m args below meth c H locs ls hF hl hP hS => W.zret (v := v) hF.1 hF.2.1 (hF.rt.trans hrt) (by rcases hv with rfl | rfl <;> rfl) (fun t ht hW => zv_Qend hP hS ht) hS.2.2 hdg hF.lk⟩
theorem zv_lret {v : Int64} (hdg : decode cc pc = .ok (.lreturn, 1)) (hrt : rt = some .long) : zv_V (d, own, cc, nL, rt, nm, x0, x, zv_fin x0 x (some (.long v))) pc L [.long v] x :=
  ⟨zv_Le.rf x, fun h0 D p l e s m args below meth c H locs ls hF hl hP hS => W.lret (v := v) hF.1 hF.2.1 (hF.rt.trans hrt) (fun t ht hW => zv_Qend hP hS ht) hS.2.2 hdg hF.lk⟩
theorem zv_vret (hdg : decode cc pc = .ok (.return_, 1)) (hrt : rt = none) : zv_V (d, own, cc, nL, rt, nm, x0, x, zv_fin x0 x none) pc L [] x :=
  ⟨zv_Le.rf x, fun h0 D p l e s m args below meth c H locs ls hF hl hP hS => W.vret hF.1 hF.2.1 (hF.rt.trans hrt) (fun t ht hW => zv_Qend hP hS ht) hS.2.2 hdg hF.lk⟩
theorem zv_aret {v : Nat} (hdg : decode cc pc = .ok (.areturn, 1)) {ty : FieldType} (hrt : rt = some ty) (hty : (∃ n, ty = .object n) ∨ ∃ t, ty = .array t) : zv_V (d, own, cc, nL, rt, nm, x0, x, zv_fin x0 x (some (.ref v))) pc L [.ref v] x :=
  ⟨zv_Le.rf x, fun h0 D p l e s m args below meth c H locs ls hF hl hP hS => W.aret (v := .ref v) hF.1 hF.2.1 (hF.rt.trans hrt) hty (Or.inr ⟨v, rfl⟩) (fun t ht hW => zv_Qend hP hS ht) hS.2.2 hdg hF.lk⟩
end ZVE
/-- a method's contract out of its walk -/
theorem zv_enter {d maxL : Nat} {y : MethodName} {cc : ByteArray} {ret : Option FieldType} {as : List Value} {x x' : zv_X} {r : Option Value} (hy : plainName y.cls = true) (hlen : (lg_sl as).length ≤ maxL)
    (h : zv_V (d, y.cls, cc, maxL, ret, (y.name, []), x, x', zv_fin x x' r) 0 (lv_args 0 as) [] x) : zv_T d y cc maxL ret as x x' r := by
  refine ⟨h.1, fun l D hst => ?_⟩
  refine Met.ofW (cc := cc) (maxL := maxL) (ret := ret) hy rfl ?_
  intro p e s m args below meth c s₁ B hml hv
  obtain ⟨rfl, hP, hK, hZ⟩ := hv
  have hts := atoms_spec (ws := .code y cc maxL ret :: zv_U) B.pre
  have hown : s.vm.findClass y.cls = some m.cls := findClass_of_methodNamed B.named
  have hnm : meth.name = y.name := (name_of_methodNamed B.named B.method).1
  have hne : c.exceptionTable.toList = [] := by rw [Array.isEmpty_iff.mp (BodyLoose.noHandlers B (hts _ List.mem_cons_self))]
  rw [lg_entry_eq]
  have k := h.2 (zv_Le.rf x) D p l e s m as.toArray below meth c s.heap [] _ ⟨B.exec, B.bytes, B.returns, hml, hown, fun w hw => hts w (List.mem_cons_of_mem _ hw), B.notSynchronized, hnm, hK, hZ, hP.1, hst, hne⟩ (lv_entry as hlen) hP va_S.rf
  rw [Nat.sub_self, Nat.sub_self] at k
  exact k
/-- the words of a method that is called -/
def zv_mw (y : MethodName) (cc : ByteArray) (maxL : Nat) (ret : Option FieldType) (n : Nat) : Prop := Cond.code y cc maxL ret ∈ zv_U ∧ Cond.initialized y.cls ∈ zv_U ∧ (y.cls ≠ "java/lang/invoke/MethodHandle" ∧ y.cls ≠ "java/lang/invoke/VarHandle" ∧ (parseMethodDescriptor y.desc).map (fun d => d.parameters.length) = some n) ∧ maxL ≤ 40
theorem zv_gd {y : MethodName} {cc : ByteArray} {maxL : Nat} {ret : Option FieldType} (h : Cond.code y cc maxL ret ∈ zv_U) : GoodIn zv_U (.code y cc maxL ret :: zv_U) := fun w hw => by
  rcases List.mem_cons.mp hw with rfl | hw
  · exact ⟨h, zv_Ug _ h⟩
  · exact ⟨hw, zv_Ug _ hw⟩
theorem zv_blind {D : zv_D} {x : zv_X} {as : List Value} : FrameBlind (va_Pc as (fun U => zv_P D x U.heap ∧ va_K D.1 zv_cl (zv_tys D.2) U ∧ zv_Z x.2.2.2 (zv_A x) U U.heap)) := fun a U g mk q => by
  obtain ⟨h1, h2, h3, h4⟩ := q
  exact ⟨h1, h2, va_K.moved (u := U) (U := U.calling g mk a) (Vm.Alike.refl U.vm) h3, zv_Z.same (u := U) (U := U.calling g mk a) rfl h4⟩
section ZVC
variable {f : zv_G} {pc : Nat} {L : List (Nat × Value)} {st0 st : List Value} {x x1 : zv_X} {d idx n maxL : Nat} {y : MethodName} {cc : ByteArray} {ret : Option FieldType} {As : List Value} {r : Option Value}
/-- behind a call -/
theorem zv_back {as : List Value} (hT : zv_T d y cc maxL ret as x x1 r) (kk : zv_V f (pc + 3) L (r.toList ++ st) x1)
    (run : ∀ (D : zv_D) (p : Program) (l : Launch) (e : Env) (s : State) (m : MethodId) (args : Array Value) (below : List Frame) (meth : Method) (c : Code) (H : Heap) (locs : List Loc) (ls : Array Slot) (cells slots : Nat),
      zv_F D p l s m args meth c f → ls.size = f.2.2.2.1 → zv_P D x H → Met l y (.code y cc maxL ret :: zv_U) (zv_R d x x1) (va_Pc as (fun U => zv_P D x U.heap ∧ va_K D.1 zv_cl (zv_tys D.2) U ∧ zv_Z x.2.2.2 (zv_A x) U U.heap)) (zv_Q D x x1 r) (x1.2.1 - x.2.1) (x1.2.2.1 - x.2.2.1) (zv_A x) →
      (∀ U : State, U.heap = H → s.WarmedH U.vm → zv_P D x U.heap ∧ va_K D.1 zv_cl (zv_tys D.2) U ∧ zv_Z x.2.2.2 (zv_A x) U U.heap) → cells + (x1.2.1 - x.2.1) ≤ (zv_R f.1 f.2.2.2.2.2.2.1 f.2.2.2.2.2.2.2.1).cells ∧ slots + (x1.2.2.1 - x.2.2.1) ≤ (zv_R f.1 f.2.2.2.2.2.2.1 f.2.2.2.2.2.2.2.1).slots →
      va_Run p l e (zv_R f.1 f.2.2.2.2.2.2.1 f.2.2.2.2.2.2.2.1) s m args below meth c H locs cells slots (x1.2.1 - x.2.1) (x1.2.2.1 - x.2.2.1) (F0 m pc ls st0) st (zv_Q D x x1 r as.toArray) (zv_A x)) : zv_V f pc L st0 x := by
  refine ⟨hT.1.tr kk.1, fun h0 D p l e s m args below meth c H locs ls hF hl hP hS => ?_⟩
  have t1 : x.2.1 ≤ x1.2.1 := hT.1.1
  have t2 : x.2.2.1 ≤ x1.2.2.1 := hT.1.2.1
  have k1 : x1.2.1 ≤ f.2.2.2.2.2.2.2.1.2.1 := kk.1.1
  have k2 : x1.2.2.1 ≤ f.2.2.2.2.2.2.2.1.2.2.1 := kk.1.2.1
  have g1 : f.2.2.2.2.2.2.1.2.1 ≤ x.2.1 := h0.1
  have g2 : f.2.2.2.2.2.2.1.2.2.1 ≤ x.2.2.1 := h0.2.1
  have hH : H.size = x.2.1 := hP.1
  have hr := run D p l e s m args below meth c H locs ls (x.2.1 - f.2.2.2.2.2.2.1.2.1) (x.2.2.1 - f.2.2.2.2.2.2.1.2.2.1) hF hl.1 hP (hT.2 l D hF.nt) (fun U hU hW => by
    rw [hU]
    refine ⟨hP, va_K.moved hW.alike hF.K, ?_⟩
    have z1 := (hF.Z.kept (H1 := H) (fun a h1 h2 => hS.2.1 a h1 h2)).warm hW
    rw [h0.2.2.1] at z1
    exact z1.narrow (fun q hq => h0.A q hq)) ⟨by show _ ≤ f.2.2.2.2.2.2.2.1.2.1 - f.2.2.2.2.2.2.1.2.1; omega, by show _ ≤ f.2.2.2.2.2.2.2.1.2.2.1 - f.2.2.2.2.2.2.1.2.2.1; omega⟩
  intro T hTh X
  obtain ⟨v, st₀, t, T', L', e0, X', hL, e1, e2, ⟨hv, hP1, hFr⟩, go⟩ := hr T hTh X
  cases hv
  have c1 : x.2.1 - f.2.2.2.2.2.2.1.2.1 + (x1.2.1 - x.2.1) = x1.2.1 - f.2.2.2.2.2.2.1.2.1 := by omega
  have c2 : x.2.2.1 - f.2.2.2.2.2.2.1.2.2.1 + (x1.2.2.1 - x.2.2.1) = x1.2.2.1 - f.2.2.2.2.2.2.1.2.2.1 := by omega
  rw [c1, c2] at X'
  obtain ⟨hz, hk⟩ := hFr
  rw [e0] at hz hk
  obtain ⟨t2', a1, b1⟩ := kk.2 (h0.tr hT.1) D p l e s m args below meth c T'.heap (locs ++ L') ls hF hl (by rw [e1]; exact hP1) ⟨by rw [e1]; exact Nat.le_trans hS.1 hz, fun q h1 h2 => by rw [e1, hk q (Nat.lt_of_lt_of_le h1 hS.1) (fun z => h2 (h0.A q z))]; exact hS.2.1 q h1 h2, fun q hq => by
    rcases List.mem_append.mp hq with h | h
    · exact hS.2.2 q h
    · exact h0.A _ (hL q h)⟩ T' rfl X'
  exact ⟨t2', go t2' a1, b1⟩
theorem zv_roomOk {d D maxL : Nat} {x x1 x0 x' : zv_X} (hd : d + 1 ≤ D) (hm : maxL ≤ 40) : (zv_R d x x1).frames + 1 ≤ (zv_R D x0 x').frames ∧ 8 + (maxL + 11) + (zv_R d x x1).locals ≤ (zv_R D x0 x').locals := ⟨hd, by show 8 + (maxL + 11) + 64 * d ≤ 64 * D; omega⟩
theorem zv_callV {b ci : Nat} {fs : List Value} {q : vw_C} (hdg : decode f.2.2.1 pc = .ok (.invokevirtual idx, 3)) (hw : zv_mw y cc maxL ret n) (h1 : Cond.methodLink f.2.1 idx y ∈ zv_U) (h2 : Cond.instanceMethod y ∈ zv_U) (h3 : Cond.selects y.cls y y ∈ zv_U) (hd : d + 1 ≤ f.1) (hn : As.length = n) (hst : st0 = As.reverse ++ .ref b :: st) (hroom : (st.map fun v => v.category).sum ≤ 8) (hb : x.1 b = some (.inr (ci, fs))) (hc : zv_cl[ci]? = some q) (hq : q.1 = y.cls)
    (hT : zv_T d y cc maxL ret (.ref b :: As) x x1 r) (kk : zv_V f (pc + 3) L (r.toList ++ st) x1) : zv_V f pc L st0 x :=
  zv_back hT kk fun D p l e s m args below meth c H locs ls cells slots hF hls hP hM hU hR =>
    va_runV (As := As) (rest := st) (b := b) (C := y.cls) ⟨hF.1, hF.2.1, hF.ml, hF.ow, hF.ts⟩ hM ⟨callB_of n hF.ts (zv_gd hw.1) rfl rfl rfl (hF.ts _ hw.2.1) (hF.ts _ h1) hw.2.2.1 (zv_roomOk hd hw.2.2.2), hF.ts _ h2, hF.ts _ h3⟩ ⟨zv_blind, by rw [← hq]; exact zv_P.recv hF.K hP hb hc, fun U h1 h2 => ⟨rfl, hU U h1 h2⟩⟩ rfl hn hls hst (lv_room hroom) hdg hR
theorem zv_callS (hdg : decode f.2.2.1 pc = .ok (.invokestatic idx, 3)) (hw : zv_mw y cc maxL ret n) (h1 : Cond.methodLink f.2.1 idx y ∈ zv_U) (h2 : Cond.static y ∈ zv_U) (hd : d + 1 ≤ f.1) (hn : As.length = n) (hst : st0 = As.reverse ++ st) (hroom : (st.map fun v => v.category).sum ≤ 8)
    (hT : zv_T d y cc maxL ret As x x1 r) (kk : zv_V f (pc + 3) L (r.toList ++ st) x1) : zv_V f pc L st0 x :=
  zv_back hT kk fun D p l e s m args below meth c H locs ls cells slots hF hls hP hM hU hR =>
    va_runS (As := As) (rest := st) ⟨hF.1, hF.2.1, hF.ml, hF.ow, hF.ts⟩ hM ⟨callB_of n hF.ts (zv_gd hw.1) rfl rfl rfl (hF.ts _ hw.2.1) (hF.ts _ h1) hw.2.2.1 (zv_roomOk hd hw.2.2.2), hF.ts _ h2⟩ ⟨zv_blind, fun U h1 h2 => ⟨rfl, hU U h1 h2⟩⟩ rfl hn hls hst (lv_room hroom) hdg hR
theorem zv_callI {b : Nat} (hdg : decode f.2.2.1 pc = .ok (.invokespecial idx, 3)) (hw : zv_mw y cc maxL none n) (h1 : Cond.methodLink f.2.1 idx y ∈ zv_U) (h2 : Cond.instanceMethod y ∈ zv_U) (hy : y.name = "<init>") (hd : d + 1 ≤ f.1) (hn : As.length = n) (hst : st0 = As.reverse ++ .ref b :: st) (hroom : (st.map fun v => v.category).sum ≤ 8)
    (hT : zv_T d y cc maxL none (.ref b :: As) x x1 r) (kk : zv_V f (pc + 3) L (r.toList ++ st) x1) : zv_V f pc L st0 x :=
  zv_back hT kk fun D p l e s m args below meth c H locs ls cells slots hF hls hP hM hU hR =>
    va_runI (As := As) (rest := st) (b := b) ⟨hF.1, hF.2.1, hF.ml, hF.ow, hF.ts⟩ hM ⟨callB_of n hF.ts (zv_gd hw.1) rfl rfl rfl (hF.ts _ hw.2.1) (hF.ts _ h1) hw.2.2.1 (zv_roomOk hd hw.2.2.2), hy, hF.ts _ h2⟩ ⟨zv_blind, fun U h1 h2 => ⟨rfl, hU U h1 h2⟩⟩ rfl hn hls hst (lv_room hroom) hdg hR
/-- Object's constructor -/
theorem zv_obj {a : Nat} (hdg : decode f.2.2.1 pc = .ok (.invokespecial idx, 3)) (h1 : Cond.methodLink f.2.1 idx objectInit ∈ zv_U) (h2 : Cond.instanceMethod objectInit ∈ zv_U) (h3 : Cond.code objectInit ⟨#[0xb1]⟩ 1 none ∈ zv_U) (hd : 1 ≤ f.1) (hroom : (st.map fun v => v.category).sum ≤ 8) (kk : zv_V f (pc + 3) L st x) : zv_V f pc L (.ref a :: st) x :=
  ⟨kk.1, fun h0 D p l e s m args below meth c H locs ls hF hl hP hS => W.objInit hF.1 hF.2.1 hF.ow (hF.ts _ h1) (hF.ts _ h2) (hF.ts _ h3) rfl (by rw [hF.ml]; exact hl.1) rfl hdg hd (by have := lv_room (m := m) (pc := pc) (ls := ls) (rest := .ref a :: st) hroom; show _ + _ + 12 ≤ 64 * f.1; omega) (kk.2 h0 D p l e s m args below meth c H locs ls hF hl hP hS)⟩
end ZVC
