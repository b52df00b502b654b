/-! ===== contracts of helpers: the memory at the end but for how many cells there are ===== -/
def zv_sz (x : zv_X) (sz : Nat) : zv_X := (x.1, sz, x.2.2)
def zv_QE (D : zv_D) (x xo : zv_X) (r : Option Value) : Array Value → State → Outcome → State → Prop := fun _ st oc t => oc = .returned r ∧ (∃ sz : Nat, sz ≤ xo.2.1 ∧ zv_P D (zv_sz xo sz) t.heap) ∧ va_F (zv_A x) st t
def zv_finE (x xo : zv_X) (r : Option Value) : zv_D → List Frame → Array Value → State → State → Prop := fun D below args s => MQ below (zv_QE D x xo r) args s (xo.2.1 - x.2.1) (xo.2.2.1 - x.2.2.1) (zv_A x)
def zv_TE (d : Nat) (y : MethodName) (cc : ByteArray) (maxL : Nat) (ret : Option FieldType) (hh : List (Nat × Nat × Nat × Nat)) (as : List Value) (x xo : zv_X) (r : Option Value) : Prop :=
  zv_Le x xo ∧ ∀ (l : Launch) (D : zv_D), l.stackTraces = false →
    Met l y (.codeWith y cc maxL ret hh :: zv_U) (zv_R d x xo) (va_Pc as (fun U => zv_P D x U.heap ∧ va_K D.1 zv_cl (zv_tys D.2) U ∧ zv_Z x.2.2.2 (zv_A x) U U.heap)) (zv_QE D x xo r) (xo.2.1 - x.2.1) (xo.2.2.1 - x.2.2.1) (zv_A x)
theorem zh_enter {d maxL : Nat} {y : MethodName} {cc : ByteArray} {ret : Option FieldType} {hh : List (Nat × Nat × Nat × Nat)} {as : List Value} {x xo : zv_X} {r : Option Value} (hy : plainName y.cls = true) (hlen : (lg_sl as).length ≤ maxL)
    (h : zv_V (d, y.cls, cc, maxL, ret, (y.name, tableOf hh), x, xo, zv_finE x xo r) 0 (lv_args 0 as) [] x) : zv_TE d y cc maxL ret hh as x xo r := by
  refine ⟨h.1, fun l D hst => ?_⟩
  refine va_MetW (cc := cc) (maxL := maxL) (ret := ret) (hh := hh) hy rfl ?_
  intro p e s m args below meth c s₁ B hml hv
  obtain ⟨rfl, hP, hK, hZ⟩ := hv
  have hts := atoms_spec (ws := .codeWith y cc maxL ret hh :: zv_U) B.pre
  have hown : s.vm.findClass y.cls = some m.cls := findClass_of_methodNamed B.named
  have hnm : meth.name = y.name := (name_of_methodNamed B.named B.method).1
  have hne : c.exceptionTable.toList = tableOf hh := vx_table (x := y) B (hts _ List.mem_cons_self)
  rw [lg_entry_eq]
  have k := h.2 (zv_Le.rf x) D p l e s m as.toArray below meth c s.heap [] _ ⟨B.exec, B.bytes, B.returns, hml, hown, fun w hw => hts w (List.mem_cons_of_mem _ hw), B.notSynchronized, hnm, hK, hZ, hP.1, hst, hne⟩ (lv_entry as hlen) hP va_S.rf
  rw [Nat.sub_self, Nat.sub_self] at k
  exact k
theorem zh_iret {d nL sz : Nat} {own : String} {nm : String × List ExceptionTableEntry} {cc : ByteArray} {rt : Option FieldType} {x0 xo : zv_X} {pc : Nat} {L : List (Nat × Value)} {v : Int32} (hdg : decode cc pc = .ok (.ireturn, 1)) (hrt : rt = some .int) (hsz : sz ≤ xo.2.1) : zv_V (d, own, cc, nL, rt, nm, x0, xo, zv_finE x0 xo (some (.int v))) pc L [.int v] (zv_sz xo sz) := by
  refine ⟨⟨hsz, Nat.le_refl _, rfl, fun _ h => Or.inl h⟩, fun h0 D p l e s m args below meth c H locs ls hF hl hP hS => ?_⟩
  refine W.widen (k := xo.2.1 - x0.2.1) (n := xo.2.2.1 - x0.2.2.1) (Nat.sub_le_sub_right hsz _) (Nat.le_refl _) ?_
  exact W.iret (v := v) hF.1 hF.2.1 (hF.rt.trans hrt) (fun t ht hW => ⟨rfl, ⟨sz, hsz, by rw [ht]; exact hP⟩, hS.F ht⟩) hS.2.2 hdg hF.lk
/-- fewer cells are booked where the heap's size is known -/
theorem zh_tight {p : Program} {l : Launch} {e : Env} {R : Room} {s : State} {m : MethodId} {args : Array Value} {below : List Frame} {meth : Method} {c : Code} {T : State} {locs : List Loc} {cells slots k : Nat} (X : Stand p l e R s m args below meth c T locs cells slots) (h : T.heap.size ≤ s.heap.size + k) : Stand p l e R s m args below meth c T locs k slots :=
  { X with same := ⟨X.same.1, X.same.2.1, h, X.same.2.2.2⟩ }
/-- a call that returns or throws; what is thrown is caught here -/
theorem zx_callV {f : zv_G} {pc : Nat} {L : List (Nat × Value)} {st0 st : List Value} {x : zv_X} {d idx n maxL : Nat} {y : MethodName} {cc : ByteArray} {ret : Option FieldType} {As : List Value} {o : zv_X × (Int32 ⊕ String)} {b ci : Nat} {fs : List Value} {q : vw_C} (hdg : decode f.2.2.1 pc = .ok (.invokevirtual idx, 3)) (hw : zv_mw y cc maxL ret n) (h1 : Cond.methodLink f.2.1 idx y ∈ zv_U) (h2 : Cond.instanceMethod y ∈ zv_U) (h3 : Cond.selects y.cls y y ∈ zv_U) (hd : d + 1 ≤ f.1) (hn : As.length = n) (hst : st0 = As.reverse ++ .ref b :: st) (hroom : (st.map fun v => v.category).sum ≤ 8) (hb : x.1 b = some (.inr (ci, fs))) (hc : zv_cl[ci]? = some q) (hq : q.1 = y.cls)
    (hT : zv_TX d y cc maxL ret (.ref b :: As) x o)
    (kr : ∀ v, o.2 = .inl v → zv_V f (pc + 3) L (.int v :: st) o.1)
    (kx : ∀ E, o.2 = .inr E → ∃ (pre : List ExceptionTableEntry) (z : ExceptionTableEntry) (suf : List ExceptionTableEntry), f.2.2.2.2.2.1.2 = pre ++ z :: suf ∧ (∀ w ∈ pre, w.catchType ≠ 0 ∧ covers w pc = true ∧ ∃ nm : String, Cond.classLink f.2.1 w.catchType nm ∈ zv_U ∧ (E, nm) ∈ zv_ncs) ∧ covers z pc = true ∧ z.catchType ≠ 0 ∧ Cond.classLink f.2.1 z.catchType E ∈ zv_U ∧ (E, E) ∈ zv_casts ∧
      ∀ (a sz : Nat), sz ≤ o.1.2.1 → x.2.1 ≤ sz → zv_V f z.handlerPc L [.ref a] (zv_sz o.1 sz)) : zv_V f pc L st0 x := by
  obtain ⟨xo, oo⟩ := o
  have hle : zv_Le x f.2.2.2.2.2.2.2.1 := by
    cases oo with
    | inl v => exact hT.1.tr (kr v rfl).1
    | inr E =>
      obtain ⟨pre, z, suf, -, -, -, -, -, -, kv⟩ := kx E rfl
      have h9 := (kv 0 xo.2.1 (Nat.le_refl _) hT.1.1).1
      exact hT.1.tr h9
  refine ⟨hle, fun h0 D p l e s m args below meth c H locs ls hF hl hP hS => ?_⟩
  have t1 : x.2.1 ≤ xo.2.1 := hT.1.1
  have t2 : x.2.2.1 ≤ xo.2.2.1 := hT.1.2.1
  have g1 : f.2.2.2.2.2.2.1.2.1 ≤ x.2.1 := h0.1
  have g2 : f.2.2.2.2.2.2.1.2.2.1 ≤ x.2.2.1 := h0.2.1
  have hH : H.size = x.2.1 := hP.1
  have kend : xo.2.1 ≤ f.2.2.2.2.2.2.2.1.2.1 ∧ xo.2.2.1 ≤ f.2.2.2.2.2.2.2.1.2.2.1 := by
    cases oo with
    | inl v => exact ⟨(kr v rfl).1.1, (kr v rfl).1.2.1⟩
    | inr E =>
      obtain ⟨pre, z, suf, -, -, -, -, -, -, kv⟩ := kx E rfl
      have h9 := (kv 0 xo.2.1 (Nat.le_refl _) hT.1.1).1
      exact ⟨h9.1, h9.2.1⟩
  have hU : ∀ U : State, U.heap = H → s.WarmedH U.vm → zv_P D x U.heap ∧ va_K D.1 zv_cl (zv_tys D.2) U ∧ zv_Z x.2.2.2 (zv_A x) U U.heap := fun U hU hW => by
    rw [hU]
    refine ⟨hP, va_K.moved hW.alike hF.K, ?_⟩
    have z1 := (hF.Z.kept (H1 := H) (fun a h1 h2 => hS.2.1 a h1 h2)).warm hW
    rw [h0.2.2.1] at z1
    exact z1.narrow (fun q hq => h0.A q hq)
  have hr : vx_Run p l e (zv_R f.1 f.2.2.2.2.2.2.1 f.2.2.2.2.2.2.2.1) s m args below meth c H locs (x.2.1 - f.2.2.2.2.2.2.1.2.1) (x.2.2.1 - f.2.2.2.2.2.2.1.2.2.1) (xo.2.1 - x.2.1) (xo.2.2.1 - x.2.2.1) (F0 m pc ls st0) st (zv_qX D x (xo, oo) (Value.ref b :: As).toArray) (zv_xX D x (xo, oo)) (zv_A x) :=
    vx_runV (As := As) (rest := st) (b := b) (C := y.cls) ⟨hF.1, hF.2.1, hF.ml, hF.ow, hF.ts⟩ (hT.2 l D hF.nt) ⟨callB_of n hF.ts (zv_gd hw.1) rfl rfl rfl (hF.ts _ hw.2.1) (hF.ts _ h1) hw.2.2.1 (zv_roomOk hd hw.2.2.2), hF.ts _ h2, hF.ts _ h3⟩ ⟨zv_blind, by rw [← hq]; exact zv_P.recv hF.K hP hb hc, fun U h1 h2 => ⟨rfl, hU U h1 h2⟩⟩ rfl hn hl.1 hst (lv_room hroom) hdg ⟨by show _ ≤ f.2.2.2.2.2.2.2.1.2.1 - f.2.2.2.2.2.2.1.2.1; have := kend.1; omega, by show _ ≤ f.2.2.2.2.2.2.2.1.2.2.1 - f.2.2.2.2.2.2.1.2.2.1; have := kend.2; omega⟩
  have c1 : x.2.1 - f.2.2.2.2.2.2.1.2.1 + (xo.2.1 - x.2.1) = xo.2.1 - f.2.2.2.2.2.2.1.2.1 := by omega
  have c2 : x.2.2.1 - f.2.2.2.2.2.2.1.2.2.1 + (xo.2.2.1 - x.2.2.1) = xo.2.2.1 - f.2.2.2.2.2.2.1.2.2.1 := by omega
  have keep : ∀ (st₀ t T' : State) (L' : List Loc), st₀.heap = H → T'.heap = t.heap → (∀ z ∈ L', zv_A x z.base) → va_F (zv_A x) st₀ t → va_S (zv_A f.2.2.2.2.2.2.1) s.heap T'.heap (locs ++ L') := fun st₀ t T' L' e0 e1 hL hFr => by
    obtain ⟨hz, hk⟩ := hFr
    rw [e0] at hz hk
    exact ⟨by rw [e1]; exact Nat.le_trans hS.1 hz, fun q h1 h2 => by rw [e1, hk q (Nat.lt_of_lt_of_le h1 hS.1) (fun z => h2 (h0.A q z))]; exact hS.2.1 q h1 h2, fun q hq => by
      rcases List.mem_append.mp hq with h | h
      · exact hS.2.2 q h
      · exact h0.A _ (hL q h)⟩
  intro T hTh X
  rcases hr T hTh X with ⟨v, st₀, t, T', L', e0, X', hL, e1, e2, hQ, go⟩ | ⟨qa, st₀, t, T', L', E, ce, e0, X', hL, e1, e2, hX, hce, hcv, hcl, go⟩
  · cases oo with
    | inr E => exact hQ.elim
    | inl v0 =>
      obtain ⟨hv, hP1, hFr⟩ := hQ
      cases hv
      rw [c1, c2] at X'
      obtain ⟨t2', a1, b1⟩ := (kr v0 rfl).2 (h0.tr hT.1) D p l e s m args below meth c T'.heap (locs ++ L') ls hF hl (by rw [e1]; exact hP1) (keep st₀ t T' L' e0 e1 hL hFr) T' rfl X'
      exact ⟨t2', go t2' a1, b1⟩
  · cases oo with
    | inl v0 => exact hX.elim
    | inr E0 =>
      obtain ⟨rfl, ⟨sz, hsz, hP1⟩, hFr⟩ := hX
      obtain ⟨pre, z, suf, s1, s2, s3, s4, s5, s6, kv⟩ := kx E rfl
      rw [c1, c2] at X'
      have hz1 : t.heap.size = sz := hP1.1
      have hz2 : x.2.1 ≤ sz := by
        have := hFr.1
        rw [e0, hH, hz1] at this
        exact this
      have hz3 : sz ≤ xo.2.1 := by
        have := X'.heapSize
        rw [e1, hz1, hF.sz] at this
        omega
      have kv1 := kv qa sz hz3 hz2
      have hle1 : zv_Le f.2.2.2.2.2.2.1 (zv_sz xo sz) := by
        have h5 := h0.tr hT.1
        exact ⟨Nat.le_trans g1 hz2, h5.2.1, h5.2.2.1, h5.2.2.2⟩
      have hw1 := kv1.2 hle1 D p l e s m args below meth c T'.heap (locs ++ L') ls hF hl (by rw [e1]; exact hP1) (keep st₀ t T' L' e0 e1 hL hFr)
      have hct : vx_W p l e (zv_R f.1 f.2.2.2.2.2.2.1 f.2.2.2.2.2.2.2.1) s m args below meth c T'.heap (locs ++ L') ((zv_sz xo sz).2.1 - f.2.2.2.2.2.2.1.2.1) ((zv_sz xo sz).2.2.1 - f.2.2.2.2.2.2.1.2.2.1) (f.2.2.2.2.2.2.2.2 D below args s) (F0 m pc ls st) qa :=
        zh_catch (E := E) (ce := ce) (name := E) hF.ow pre z suf (hF.2.2.2.2.2.2.2.2.2.2.2.2.trans s1) (fun w hw => by
          obtain ⟨w0, w1, nm, w2, w3⟩ := s2 w hw
          exact ⟨w0, w1, nm, hF.ts _ w2, hF.Z.1.2.2.2.2.2.1 _ w3⟩) s3 s4 (hF.ts _ s5) (va_Nw.use rfl (hF.Z.1.2.1 _ s6)) (by rw [e1]; exact hce) hcv hcl hw1
      obtain ⟨t2', a1, b1⟩ := hct T' rfl (zh_tight X' (by rw [e1, hz1, hF.sz]; show sz ≤ f.2.2.2.2.2.2.1.2.1 + (sz - f.2.2.2.2.2.2.1.2.1); omega))
      exact ⟨t2', go.trans a1, b1⟩
/-- a call of a helper -/
theorem zh_callS {f : zv_G} {pc : Nat} {L : List (Nat × Value)} {st0 st : List Value} {x xo : zv_X} {d idx n maxL : Nat} {y : MethodName} {cc : ByteArray} {ret : Option FieldType} {hh : List (Nat × Nat × Nat × Nat)} {As : List Value} {r : Option Value} (hdg : decode f.2.2.1 pc = .ok (.invokestatic idx, 3)) (w0 : Cond.codeWith y cc maxL ret hh ∈ zv_U) (w1 : Cond.initialized y.cls ∈ zv_U) (w2 : y.cls ≠ "java/lang/invoke/MethodHandle" ∧ y.cls ≠ "java/lang/invoke/VarHandle" ∧ (parseMethodDescriptor y.desc).map (fun d => d.parameters.length) = some n) (w3 : maxL ≤ 40) (h1 : Cond.methodLink f.2.1 idx y ∈ zv_U) (h2 : Cond.static y ∈ zv_U) (hd : d + 1 ≤ f.1) (hn : As.length = n) (hst : st0 = As.reverse ++ st) (hroom : (st.map fun v => v.category).sum ≤ 8)
    (hT : zv_TE d y cc maxL ret hh As x xo r) (kk : ∀ sz, x.2.1 ≤ sz → sz ≤ xo.2.1 → zv_V f (pc + 3) L (r.toList ++ st) (zv_sz xo sz)) : zv_V f pc L st0 x := by
  have hx1 := (kk xo.2.1 hT.1.1 (Nat.le_refl _)).1
  refine ⟨hT.1.tr hx1, fun h0 D p l e s m args below meth c H locs ls hF hl hP hS => ?_⟩
  have t1 : x.2.1 ≤ xo.2.1 := hT.1.1
  have t2 : x.2.2.1 ≤ xo.2.2.1 := hT.1.2.1
  have k1 : xo.2.1 ≤ f.2.2.2.2.2.2.2.1.2.1 := hx1.1
  have k2 : xo.2.2.1 ≤ f.2.2.2.2.2.2.2.1.2.2.1 := hx1.2.1
  have g1 : f.2.2.2.2.2.2.1.2.1 ≤ x.2.1 := h0.1
  have g2 : f.2.2.2.2.2.2.1.2.2.1 ≤ x.2.2.1 := h0.2.1
  have hH : H.size = x.2.1 := hP.1
  have hG : GoodIn zv_U (.codeWith y cc maxL ret hh :: zv_U) := fun w hw => by
    rcases List.mem_cons.mp hw with rfl | hw
    · exact ⟨w0, zv_Ug _ w0⟩
    · exact ⟨hw, zv_Ug _ hw⟩
  have hR := zv_roomOk (d := d) (D := f.1) (maxL := maxL) (x := x) (x1 := xo) (x0 := f.2.2.2.2.2.2.1) (x' := f.2.2.2.2.2.2.2.1) hd w3
  have hr : va_Run p l e (zv_R f.1 f.2.2.2.2.2.2.1 f.2.2.2.2.2.2.2.1) s m args below meth c H locs (x.2.1 - f.2.2.2.2.2.2.1.2.1) (x.2.2.1 - f.2.2.2.2.2.2.1.2.2.1) (xo.2.1 - x.2.1) (xo.2.2.1 - x.2.2.1) (F0 m pc ls st0) st (zv_QE D x xo r As.toArray) (zv_A x) :=
    vx_runSW (As := As) (rest := st) (hh := hh) ⟨hF.1, hF.2.1, hF.ml, hF.ow, hF.ts⟩ (hT.2 l D hF.nt) ⟨⟨rfl, rfl, hR.1, hR.2, pay_in hF.ts hG, List.mem_cons_self⟩, hF.ts _ w0, hF.ts _ w1, ⟨w2.1, w2.2.1⟩, fun sig h => by have h3 := w2.2.2; rw [h] at h3; exact (Option.some.inj h3).symm, hF.ts _ h1, hF.ts _ h2⟩ ⟨zv_blind, fun U hU hW => ⟨rfl, by
      show zv_P D x U.heap ∧ va_K D.1 zv_cl (zv_tys D.2) U ∧ zv_Z x.2.2.2 (zv_A x) U U.heap
      rw [hU]
      refine ⟨hP, va_K.moved hW.alike hF.K, ?_⟩
      have z1 := (hF.Z.kept (H1 := H) (fun a h1 h2 => hS.2.1 a h1 h2)).warm hW
      rw [h0.2.2.1] at z1
      exact z1.narrow (fun q hq => h0.A q hq)⟩⟩ rfl hn hl.1 hst (lv_room hroom) hdg ⟨by show _ ≤ f.2.2.2.2.2.2.2.1.2.1 - f.2.2.2.2.2.2.1.2.1; omega, by show _ ≤ f.2.2.2.2.2.2.2.1.2.2.1 - f.2.2.2.2.2.2.1.2.2.1; omega⟩
  intro T hTh X
  obtain ⟨v, st₀, t, T', L', e0, X', hL, e1, e2, ⟨hv, ⟨sz, hsz, hP1⟩, hFr⟩, go⟩ := hr T hTh X
  cases hv
  have c2 : x.2.2.1 - f.2.2.2.2.2.2.1.2.2.1 + (xo.2.2.1 - x.2.2.1) = xo.2.2.1 - f.2.2.2.2.2.2.1.2.2.1 := by omega
  rw [c2] at X'
  obtain ⟨hz, hk⟩ := hFr
  rw [e0] at hz hk
  have hz1 : t.heap.size = sz := hP1.1
  have hz2 : x.2.1 ≤ sz := by rw [← hz1, ← hH]; exact hz
  have hle1 : zv_Le f.2.2.2.2.2.2.1 (zv_sz xo sz) := by
    have h5 := h0.tr hT.1
    exact ⟨Nat.le_trans g1 hz2, h5.2.1, h5.2.2.1, h5.2.2.2⟩
  obtain ⟨t2', a1, b1⟩ := (kk sz hz2 hsz).2 hle1 D p l e s m args below meth c T'.heap (locs ++ L') ls hF hl (by rw [e1]; exact hP1) ⟨by rw [e1]; exact Nat.le_trans hS.1 hz, fun q h1 h2 => by rw [e1, hk q (Nat.lt_of_lt_of_le h1 hS.1) (fun z => h2 (h0.A q z))]; exact hS.2.1 q h1 h2, fun q hq => by
    rcases List.mem_append.mp hq with h | h
    · exact hS.2.2 q h
    · exact h0.A _ (hL q h)⟩ T' rfl (zh_tight X' (by rw [e1, hz1, hF.sz]; show sz ≤ f.2.2.2.2.2.2.1.2.1 + (sz - f.2.2.2.2.2.2.1.2.1); omega))
  exact ⟨t2', go t2' a1, b1⟩
