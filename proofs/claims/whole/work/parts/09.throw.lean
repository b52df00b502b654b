/-! ===== methods that return an int or throw ===== -/
def zv_pad (x : zv_X) : zv_X := (x.1, x.2.1 + 1, x.2.2.1 + 6, x.2.2.2)
theorem zv_pad_le (x : zv_X) : zv_Le x (zv_pad x) := ⟨Nat.le_succ _, Nat.le_add_right _ _, rfl, fun _ h => Or.inl h⟩
/-- behind a throw: the memory is as it was, some cells may have come -/
def zv_XX (D : zv_D) (x0 x : zv_X) (E : String) : String → State → State → Prop := fun E' st t => E' = E ∧ (∃ sz : Nat, x.2.1 ≤ sz + 1 ∧ zv_P D (x.1, sz, x.2.2) t.heap) ∧ va_F (zv_A x0) st t
def zv_qX (D : zv_D) (x0 : zv_X) (o : zv_X × (Int32 ⊕ String)) : Array Value → State → Outcome → State → Prop := match o.2 with
  | .inl v => zv_Q D x0 o.1 (some (.int v))
  | .inr _ => fun _ _ _ _ => False
def zv_xX (D : zv_D) (x0 : zv_X) (o : zv_X × (Int32 ⊕ String)) : String → State → State → Prop := match o.2 with
  | .inl _ => fun _ _ _ => False
  | .inr E => zv_XX D x0 o.1 E
def zv_finX (x0 : zv_X) (o : zv_X × (Int32 ⊕ String)) : zv_D → List Frame → Array Value → State → State → Prop := fun D below args s => vx_MQ below (zv_qX D x0 o) (zv_xX D x0 o) args s (o.1.2.1 - x0.2.1) (o.1.2.2.1 - x0.2.2.1) (zv_A x0)
/-- the contract of such a method -/
def zv_TX (d : Nat) (y : MethodName) (cc : ByteArray) (maxL : Nat) (ret : Option FieldType) (as : List Value) (x : zv_X) (o : zv_X × (Int32 ⊕ String)) : Prop :=
  zv_Le x o.1 ∧ ∀ (l : Launch) (D : zv_D), l.stackTraces = false →
    vx_Met l y (.code y cc maxL ret :: zv_U) (zv_R d x o.1) (va_Pc as (fun U => zv_P D x U.heap ∧ va_K D.1 zv_cl (zv_tys D.2) U ∧ zv_Z x.2.2.2 (zv_A x) U U.heap)) (zv_qX D x o) (zv_xX D x o) (o.1.2.1 - x.2.1) (o.1.2.2.1 - x.2.2.1) (zv_A x)
theorem zx_enter {d maxL : Nat} {y : MethodName} {cc : ByteArray} {ret : Option FieldType} {as : List Value} {x : zv_X} {o : zv_X × (Int32 ⊕ String)} (hy : plainName y.cls = true) (hlen : (lg_sl as).length ≤ maxL)
    (h : zv_V (d, y.cls, cc, maxL, ret, (y.name, []), x, o.1, zv_finX x o) 0 (lv_args 0 as) [] x) : zv_TX d y cc maxL ret as x o := by
  refine ⟨h.1, fun l D hst => ?_⟩
  refine vx_ofW (cc := cc) (maxL := maxL) (ret := ret) hy rfl ?_
  intro p e s m args below meth c s₁ B hml hnh hv
  obtain ⟨rfl, hP, hK, hZ⟩ := hv
  have hts := atoms_spec (ws := .code y cc maxL ret :: zv_U) B.pre
  have hown : s.vm.findClass y.cls = some m.cls := findClass_of_methodNamed B.named
  have hnm : meth.name = y.name := (name_of_methodNamed B.named B.method).1
  have hne : c.exceptionTable.toList = [] := by rw [Array.isEmpty_iff.mp (BodyLoose.noHandlers B (hts _ List.mem_cons_self))]
  rw [lg_entry_eq]
  have k := h.2 (zv_Le.rf x) D p l e s m as.toArray below meth c s.heap [] _ ⟨B.exec, B.bytes, B.returns, hml, hown, fun w hw => hts w (List.mem_cons_of_mem _ hw), B.notSynchronized, hnm, hK, hZ, hP.1, hst, hne⟩ (lv_entry as hlen) hP va_S.rf
  rw [Nat.sub_self, Nat.sub_self] at k
  exact k
section ZX
variable {d nL : Nat} {own : String} {nm : String} {tb : List ExceptionTableEntry} {cc : ByteArray} {rt : Option FieldType} {x0 x : zv_X} {pc : Nat} {L : List (Nat × Value)}
theorem zx_iret {v : Int32} (hdg : decode cc pc = .ok (.ireturn, 1)) (hrt : rt = some .int) : zv_V (d, own, cc, nL, rt, (nm, tb), x0, x, zv_finX x0 (x, .inl v)) pc L [.int v] x :=
  ⟨zv_Le.rf x, fun h0 D p l e s m args below meth c H locs ls hF hl hP hS => vx_ret (W.iret (v := v) hF.1 hF.2.1 (hF.rt.trans hrt) (fun t ht hW => zv_Qend hP hS ht) hS.2.2 hdg hF.lk)⟩
/-- the words of 'throw new E(text)' in GuestFrames -/
def zx_tw (E : String) (ik ic : Nat) : Prop := Bundle.fit E = true ∧ Cond.classLink RX8 ik E ∈ zv_U ∧ Cond.initialized E ∈ zv_U ∧ (∀ w ∈ (vx_atS RX8 ic E ["java/lang/RuntimeException", "java/lang/Exception"]).filter goodWord, w ∈ lw_tbl) ∧ (∀ w ∈ (vx_atS RX8 ic E ["java/lang/RuntimeException", "java/lang/Exception"]).filter (fun w => !goodWord w), w ∈ Cond.castable E E :: zv_dcs.map Cond.declares) ∧ (∀ w ∈ Cond.classLink RX8 ik E :: Cond.initialized E :: vx_atS RX8 ic E ["java/lang/RuntimeException", "java/lang/Exception"], vx_ot w = true) ∧ (E, E) ∈ zv_casts
theorem zx_throw {E text : String} {ik is ic : Nat} {st : List Value} (hw : zx_tw E ik ic) (hs : (is, text) ∈ zv_strs) (d0 : decode cc pc = .ok (.new ik, 3)) (d3 : decode cc (pc + 3) = .ok (.dup, 1)) (d4 : decode cc (pc + 4) = .ok (.ldc is, 2)) (d6 : decode cc (pc + 6) = .ok (.invokespecial ic, 3)) (d9 : decode cc (pc + 9) = .ok (.athrow, 1)) (hd : 6 ≤ d) (hroom : (st.map fun v => v.category).sum ≤ 8) :
    zv_V (d, RX8, cc, nL, rt, (nm, []), x0, zv_pad x, zv_finX x0 (zv_pad x, .inr E)) pc L st x := by
  refine ⟨zv_pad_le x, fun h0 D p l e s m args below meth c H locs ls hF hl hP hS => ?_⟩
  obtain ⟨w1, w2, w3, w4, w5, w6, w7⟩ := hw
  obtain ⟨sa, hsa⟩ := hF.Z.1.2.2.2.2.1 _ hs
  have g1 : x0.2.1 ≤ x.2.1 := h0.1
  have g2 : x0.2.2.1 ≤ x.2.2.1 := h0.2.1
  have hH : H.size = x.2.1 := hP.1
  have hat : ∀ w ∈ vx_atS RX8 ic E ["java/lang/RuntimeException", "java/lang/Exception"], w.before args s = true := vx_hat (fun w hw => hF.ts w (List.mem_filter.mpr ⟨w4 w hw, (List.mem_filter.mp hw).2⟩)) w5 (vx_c (va_Nw.use rfl (hF.Z.1.2.1 _ w7)) (fun w hw => (List.mem_map.mp hw).elim fun y hy => by rw [← hy.2]; exact (hF.Z.1.2.2.2.2.2.2.2 y hy.1).use))
  refine vx_throwS (names := ["java/lang/RuntimeException", "java/lang/Exception"]) (A := zv_A x0) hF.1 hF.2.1 hF.nt hF.ow w1 (by decide) (hF.ts _ w2) (hF.ts _ w3) hsa hat w6 hF.Z.2.2.2.1 hF.Z.2.2.2.2.1 hS (by rw [hF.ml]; exact hl.1) d0 d3 d4 d6 d9 (fun z hz => ?_) (by show 2 + 3 < d; omega) (by show _ + (13 * (2 + 1) + 43) ≤ 64 * d; omega) (by show x.2.1 - x0.2.1 + 1 ≤ (x.2.1 + 1) - x0.2.1; omega) (by show x.2.2.1 - x0.2.2.1 + 6 ≤ (x.2.2.1 + 6) - x0.2.2.1; omega) hF.lk (fun t hvm hz hq => ?_) hS.2.2 (by show x.2.1 - x0.2.1 + 1 ≤ (x.2.1 + 1) - x0.2.1; omega) (by show x.2.2.1 - x0.2.2.1 + 6 ≤ (x.2.2.1 + 6) - x0.2.2.1; omega)
  · have hne : c.exceptionTable.toList = [] := hF.2.2.2.2.2.2.2.2.2.2.2.2
    rw [hne] at hz
    cases hz
  · refine ⟨rfl, ⟨t.heap.size, by show x.2.1 + 1 ≤ _; omega, rfl, fun a e ha => ?_⟩, Nat.le_trans hS.1 hz, fun q k1 k2 => ?_⟩
    · have hat' := hP.2 a e ha
      exact hat'.kept (hq a hat'.lt)
    · rw [hq q (Nat.lt_of_lt_of_le k1 hS.1)]
      exact hS.2.1 q k1 k2
end ZX
