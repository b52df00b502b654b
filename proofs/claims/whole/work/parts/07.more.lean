/-! ===== further rules: arrays of references, ArrayList's static, copies, clones, calls in the nest ===== -/
theorem zv_updQ (cA : ClassId) (n k v : Nat) (g : Nat → Option Nat) : (arrV cA n (fun j => va_rf (g j))).setSlot k (.ref v) = vp_cell cA (n, .inr (.inr (.inr (.inr (va_up g k (some v)))))) := by
  rw [vp_cell_q, arrV_store]
  congr 1
  funext q
  by_cases hq : q = k
  · subst hq; simp [updV, va_up, va_rf]
  · simp [updV, va_up, hq]
section ZVQ
variable {f : zv_G} {pc : Nat} {L : List (Nat × Value)} {st : List Value} {x : zv_X} {a : Nat}
/-- a frame into an array of frames -/
theorem zv_aast5 {n v : Nat} {vs : List Value} {g : Nat → Option Nat} {i : Int32} (hdg : decode f.2.2.1 pc = .ok (.aastore, 1)) (ha : x.1 a = some (.inl (5, n, .inr (.inr (.inr (.inr g)))))) (hv : x.1 v = some (.inr (1, vs))) (hin : vp_in i n) (kk : zv_V f (pc + 1) L st (zv_st x a (.inl (5, n, .inr (.inr (.inr (.inr (va_up g i.toNatClampNeg (some v))))))))) : zv_V f pc L (.ref v :: .int i :: .ref a :: st) x := by
  refine zv_hset ha kk fun D p l e R s m args below meth c H locs ls cells slots Q hF hl hP kk => ?_
  have hlt : i.toNatClampNeg < n := Nat.not_le.mp fun q => hin (Or.inr q)
  have h0 : ¬ i < 0 := fun q => hin (Or.inl q)
  obtain ⟨r', hr', cellV, g1, g2, g3, -⟩ := hP.2 v _ hv
  have hcls := (hF.K.1 1 _ rfl).2
  obtain ⟨kA, comp, k1, k2, k3, -⟩ := (hF.K.2 5 _ rfl).2
  have hcomp : comp = D.1.1 1 := Option.some.inj (k3.symm.trans hcls.1)
  subst hcomp
  have hcls2 := hcls
  obtain ⟨kC, hkC, -⟩ := hcls.2
  refine W.aast hF.1 hF.2.1 (hP.2 a _ ha) (fun q h => by cases h) (fun h => by cases h) k1 k2 rfl hkC ⟨h0, by show _ < (arrV _ _ _).slots.size; rw [arrV_size]; exact hlt⟩ g1 (fun q h => by rw [g3] at h; cases h) (by rw [g2]; exact hkC) (by rw [g2]; exact va_assign hcls2) rfl rfl hdg fun H1 e z oq => ?_
  exact kk H1 _ (by show H1[a]? = _; rw [e]; exact congrArg some (zv_updQ _ _ _ _ _)) z oq (fun q hq => by rw [List.mem_singleton.mp hq])
/-- a routine into an array of Objects -/
theorem zv_aast4 {n v : Nat} {vs : List Value} {g : Nat → Option Nat} {i : Int32} (hdg : decode f.2.2.1 pc = .ok (.aastore, 1)) (ha : x.1 a = some (.inl (4, n, .inr (.inr (.inr (.inr g)))))) (hv : x.1 v = some (.inr (6, vs))) (hin : vp_in i n) (kk : zv_V f (pc + 1) L st (zv_st x a (.inl (4, n, .inr (.inr (.inr (.inr (va_up g i.toNatClampNeg (some v))))))))) : zv_V f pc L (.ref v :: .int i :: .ref a :: st) x := by
  refine zv_hset ha kk fun D p l e R s m args below meth c H locs ls cells slots Q hF hl hP kk => ?_
  have hlt : i.toNatClampNeg < n := Nat.not_le.mp fun q => hin (Or.inr q)
  have h0 : ¬ i < 0 := fun q => hin (Or.inl q)
  obtain ⟨r', hr', cellV, g1, g2, g3, -⟩ := hP.2 v _ hv
  have hcls := (hF.K.1 6 _ rfl).2
  obtain ⟨kA, comp, k1, k2, k3, -⟩ := (hF.K.2 4 _ rfl).2
  obtain ⟨kE, hkE, -⟩ := Vm.findClass_spec k3
  obtain ⟨c0, t1, f1, f2, f3⟩ := Cond.castable_spec (va_Nw.use (A := args) rfl (hF.Z.1.2.1 (RX6, "java/lang/Object") (by decide)))
  cases hcls.1.symm.trans f1
  cases k3.symm.trans f2
  obtain ⟨kC, hkC, -⟩ := hcls.2
  refine W.aast hF.1 hF.2.1 (hP.2 a _ ha) (fun q h => by cases h) (fun h => by cases h) k1 k2 rfl hkE ⟨h0, by show _ < (arrV _ _ _).slots.size; rw [arrV_size]; exact hlt⟩ g1 (fun q h => by rw [g3] at h; cases h) (by rw [g2]; exact hkC) (by rw [g2]; exact f3) rfl rfl hdg fun H1 e z oq => ?_
  exact kk H1 _ (by show H1[a]? = _; rw [e]; exact congrArg some (zv_updQ _ _ _ _ _)) z oq (fun q hq => by rw [List.mem_singleton.mp hq])
theorem zv_anew {idx t N : Nat} {C : String} {n : Int32} (hdg : decode f.2.2.1 pc = .ok (.anewarray idx, 3)) (h1 : Cond.classLink f.2.1 idx C ∈ zv_U) (hC : (t = 4 ∧ C = "java/lang/Object") ∨ (t = 5 ∧ C = "GuestFrames$Frame")) (hn : ¬ n < 0) (hN : n.toNatClampNeg = N) (hB : N ≤ 100000) (kk : zv_V f (pc + 3) L (.ref x.2.1 :: st) (zv_nw x (.inl (t, N, .inr (.inr (.inr (.inr fun _ => none))))) N)) : zv_V f pc L (.int n :: st) x := by
  refine zv_hnew kk fun D p l e R s m args below meth c H locs ls cells slots Q hF hl hP hc hs kk => ?_
  have hAO : va_AO C s := by
    rcases hC with ⟨-, rfl⟩ | ⟨-, rfl⟩
    · exact hF.Z.1.2.2.2.1
    · exact hF.Z.1.2.2.1
  refine W.anew hF.1 hF.2.1 hF.ow (hF.ts _ h1) hAO.use rfl hdg rfl hn (by rw [hN]; omega) hc (by rw [hN]; exact hs) fun cA kA comp e1 e2 e3 e4 => ?_
  rw [hN]
  have hH : H.size = x.2.1 := hP.1
  have hcA : cA = D.2 t := by
    rcases hC with ⟨rfl, rfl⟩ | ⟨rfl, rfl⟩
    · obtain ⟨kB, comp2, b1, b2, b3, b4⟩ := (hF.K.2 4 _ rfl).2
      exact Option.some.inj (e1.symm.trans b4)
    · obtain ⟨kB, comp2, b1, b2, b3, b4⟩ := (hF.K.2 5 _ rfl).2
      exact Option.some.inj (e1.symm.trans b4)
  have := kk (H.push { cls := cA, slots := Array.replicate N .null, vm := .none }) ?_ (by simp) (fun q hq => by rw [Array.getElem?_push, if_neg (Nat.ne_of_lt hq)])
  · rw [← hH] at this
    exact this
  · show (H.push _)[x.2.1]? = some (vp_cell (D.2 t) (N, .inr (.inr (.inr (.inr fun _ => none)))))
    rw [← hH, Array.getElem?_push_size, arrV_new, hcA]
    rfl
theorem zv_gets {idx : Nat} (hdg : decode f.2.2.1 pc = .ok (.getstatic idx, 3)) (h1 : Cond.fieldLink f.2.1 idx "java/util/ArrayList" "DEFAULTCAPACITY_EMPTY_ELEMENTDATA" "[Ljava/lang/Object;" ∈ zv_U) (kk : zv_V f (pc + 3) L (.ref x.2.2.2.1 :: st) x) : zv_V f pc L st x :=
  ⟨kk.1, fun h0 D p l e s m args below meth c H locs ls hF hl hP hS => by
    have k := kk.2 h0 D p l e s m args below meth c H locs ls hF hl hP hS
    rw [← h0.2.2.1] at k
    exact va_gets hF.1 hF.2.1 hF.Z.2.1 hS hF.ow (hF.ts _ h1) (fun _ h => h) hdg k⟩
end ZVQ
section ZVN
variable {f : zv_G} {pc : Nat} {L : List (Nat × Value)} {st0 st : List Value} {x x1 : zv_X} {d idx n maxL : Nat} {y : MethodName} {cc : ByteArray} {ret : Option FieldType} {As : List Value} {r : Option Value}
theorem zv_callSN (hdg : decode f.2.2.1 pc = .ok (.invokestatic idx, 3)) (hw : zv_mw y cc maxL ret n) (h1 : f.2.1 = RX6 ∧ idx = 19 ∧ y = yX8_argumentsIn) (h2 : Cond.static y ∈ zv_U) (hd : d + 1 ≤ f.1) (hn : As.length = n) (hst : st0 = As.reverse ++ st) (hroom : (st.map fun v => v.category).sum ≤ 8)
    (hT : zv_T d y cc maxL ret As x x1 r) (kk : zv_V f (pc + 3) L (r.toList ++ st) x1) : zv_V f pc L st0 x :=
  zv_back hT kk fun D p l e s m args below meth c H locs ls cells slots hF hls hP hM hU hR =>
    va_runSN (As := As) (rest := st) (host := RX8) ⟨hF.1, hF.2.1, hF.ml, hF.ow, hF.ts⟩ hM ⟨va_cnB n hF.ts (zv_gd hw.1) rfl rfl rfl (by rw [h1.1, h1.2.1, h1.2.2]; exact hF.Z.1.1.2) (hF.ts _ hw.2.1) hw.2.2.1 (zv_roomOk hd hw.2.2.2), hF.ts _ h2, trivial⟩ ⟨zv_blind, fun U h1 h2 => ⟨rfl, hU U h1 h2⟩⟩ rfl hn hls hst (lv_room hroom) hdg hR
theorem zv_callIN {b : Nat} (hdg : decode f.2.2.1 pc = .ok (.invokespecial idx, 3)) (hw : zv_mw y cc maxL none n) (h1 : f.2.1 = RX8 ∧ idx = 18 ∧ y = yX0_init) (h2 : Cond.instanceMethod y ∈ zv_U) (hy : y.name = "<init>") (hd : d + 1 ≤ f.1) (hn : As.length = n) (hst : st0 = As.reverse ++ .ref b :: st) (hroom : (st.map fun v => v.category).sum ≤ 8)
    (hT : zv_T d y cc maxL none (.ref b :: As) x x1 r) (kk : zv_V f (pc + 3) L (r.toList ++ st) x1) : zv_V f pc L st0 x :=
  zv_back hT kk fun D p l e s m args below meth c H locs ls cells slots hF hls hP hM hU hR =>
    va_runIN (As := As) (rest := st) (b := b) (host := RX8) ⟨hF.1, hF.2.1, hF.ml, hF.ow, hF.ts⟩ hM ⟨va_cnB n hF.ts (zv_gd hw.1) rfl rfl rfl (by rw [h1.1, h1.2.1, h1.2.2]; exact hF.Z.1.1.1) (hF.ts _ hw.2.1) hw.2.2.1 (zv_roomOk hd hw.2.2.2), hy, hF.ts _ h2⟩ ⟨zv_blind, fun U h1 h2 => ⟨rfl, hU U h1 h2⟩⟩ rfl hn hls hst (lv_room hroom) hdg hR
end ZVN
section ZVCP
variable {f : zv_G} {pc : Nat} {L : List (Nat × Value)} {st : List Value} {x : zv_X} {a a0 : Nat}
/-- System.arraycopy between arrays of ints or of bytes -/
theorem zv_copy {idx t n0 n1 : Nat} {ty : FieldType} {g0 g : Nat → Int32} {sp dp n : Int32} (hdg : decode f.2.2.1 pc = .ok (.invokestatic idx, 3)) (w1 : Cond.methodLink f.2.1 idx arraycopyName ∈ zv_U) (w2 : Cond.native arraycopyName ∈ zv_U) (w3 : Cond.static arraycopyName ∈ zv_U) (w4 : Cond.initialized "java/lang/System" ∈ zv_U) (ht : (t = 0 ∧ ty = .int) ∨ (t = 2 ∧ ty = .byte)) (ha0 : x.1 a0 = some (.inl (t, n0, .inl g0))) (ha : x.1 a = some (.inl (t, n1, .inl g)))
    (h1 : ¬ sp < 0) (h2 : ¬ dp < 0) (h3 : ¬ n < 0) (h4 : sp.toNatClampNeg + n.toNatClampNeg ≤ n0) (h5 : dp.toNatClampNeg + n.toNatClampNeg ≤ n1) (hfit : ∀ i, i < n.toNatClampNeg → fits ty (.int (g0 (sp.toNatClampNeg + i))) = true) (hd : 1 ≤ f.1) (hroom : (st.map fun v => v.category).sum ≤ 8) (hnw : nativeFrameWords "java/lang/System" "arraycopy" 5 + 11 ≤ 56)
    (kk : zv_V f (pc + 3) L st (zv_st x a (.inl (t, n1, .inl (va_cpy g0 g sp.toNatClampNeg dp.toNatClampNeg n.toNatClampNeg))))) : zv_V f pc L (.int n :: .int dp :: .ref a :: .int sp :: .ref a0 :: st) x := by
  refine ⟨kk.1.st ha, fun h0 D p l e s m args below meth c H locs ls hF hl hP hS => ?_⟩
  have htys : (zv_tys D.2)[if t = 0 then 0 else 2]? = some (D.2 t, ty) := by rcases ht with ⟨rfl, rfl⟩ | ⟨rfl, rfl⟩ <;> rfl
  have hprim : refKind ty = false := by rcases ht with ⟨rfl, rfl⟩ | ⟨rfl, rfl⟩ <;> rfl
  have nn : ∀ z : Int32, ¬ z < 0 → z.toInt = (z.toNatClampNeg : Int) := by
    intro z hz
    have hz0 : (0 : Int) ≤ z.toInt := by
      have := Int32.not_lt.mp hz
      simpa using Int32.le_iff_toInt_le.mp this
    show z.toInt = ((z.toInt.toNat : Nat) : Int)
    omega
  intro T hT X
  have hc0 : H[a0]? = some (vp_cell (D.2 t) (n0, .inl g0)) := hP.2 a0 _ ha0
  have hc1 : H[a]? = some (vp_cell (D.2 t) (n1, .inl g)) := hP.2 a _ ha
  obtain ⟨-, k0, hk0, cm0, hkk0⟩ := (hF.K.2 _ _ htys).1 n0 (fun j => .int (g0 j))
  obtain ⟨-, k1, hk1, cm1, hkk1⟩ := (hF.K.2 _ _ htys).1 n1 (fun j => .int (g j))
  obtain ⟨vm', X', step⟩ := X.arraycopy hF.1 hF.ow (hF.ts _ w1) (hF.ts _ w2) (hF.ts _ w3) (hF.ts _ w4) (src := a0) (dst := a) (cs := vp_cell (D.2 t) (n0, .inl g0)) (cd := vp_cell (D.2 t) (n1, .inl g)) (srcPos := sp) (destPos := dp) (n := n) (by rw [hT]; exact hc0) (by rw [hT]; exact hc1)
    (fun _ h => by cases h) (fun _ h => by cases h) (fun h => by cases h) (fun h => by cases h) hk0 hk1 hkk0 hkk1 (by simp [hprim]) h1 h2 h3
    (by rw [nn sp h1, nn n h3]; show ¬ _ > ((arrV (D.2 t) n0 (fun j => .int (g0 j))).slots.size : Int); rw [arrV_size]; omega)
    (by rw [nn dp h2, nn n h3]; show ¬ _ > ((arrV (D.2 t) n1 (fun j => .int (g j))).slots.size : Int); rw [arrV_size]; omega)
    (fun vm₁ _ i hi => by
      have e : (vp_cell (D.2 t) (n0, .inl g0)).slots.getD (sp.toNatClampNeg + i) .null = .int (g0 (sp.toNatClampNeg + i)) := by
        show (arrV (D.2 t) n0 (fun j => .int (g0 j))).slots.getD _ _ = _
        rw [Array.getD_eq_getD_getElem?, arrV_read _ _ (by omega)]
        rfl
      refine ⟨?_, ?_⟩
      · rw [e]
        exact hfit i hi
      · rw [e]
        exact trivial)
    (g := F0 m pc ls (.int n :: .int dp :: .ref a :: .int sp :: .ref a0 :: st)) rfl (by rw [hF.ml]; exact hl.1) (rest := st) rfl (by rw [hF.2.1]; exact hdg) hd (by show 2 * 0 + _ + _ ≤ 64 * f.1; omega)
  have e1 : copied (vp_cell (D.2 t) (n0, .inl g0)) (vp_cell (D.2 t) (n1, .inl g)) sp dp n = vp_cell (D.2 t) (n1, .inl (va_cpy g0 g sp.toNatClampNeg dp.toNatClampNeg n.toNatClampNeg)) := va_copied (fun z => .int z) (D.2 t) (D.2 t) g0 g h4
  rw [e1] at X' step
  have hl9 : a < H.size := (Array.getElem?_eq_some_iff.mp hc1).1
  have hheap : ((T.setVm vm').setCell a (vp_cell (D.2 t) (n1, .inl (va_cpy g0 g sp.toNatClampNeg dp.toNatClampNeg n.toNatClampNeg)))).heap = H.setIfInBounds a (vp_cell (D.2 t) (n1, .inl (va_cpy g0 g sp.toNatClampNeg dp.toNatClampNeg n.toNatClampNeg))) := by rw [← hT]; rfl
  have oq : ∀ q : Nat, q ≠ a → (H.setIfInBounds a (vp_cell (D.2 t) (n1, .inl (va_cpy g0 g sp.toNatClampNeg dp.toNatClampNeg n.toNatClampNeg))))[q]? = H[q]? := fun q hq => by simp [Array.getElem?_setIfInBounds, Ne.symm hq]
  have hA : zv_A f.2.2.2.2.2.2.1 a := h0.2.2.2 a (by rw [ha]; exact fun z => by cases z)
  obtain ⟨t', a1, b1⟩ := kk.2 (h0.st' ha) D p l e s m args below meth c _ _ ls hF hl ⟨by simp; exact hP.1, fun b e9 hb => by
      by_cases hba : b = a
      · subst hba
        have : Sum.inl (t, n1, Sum.inl (va_cpy g0 g sp.toNatClampNeg dp.toNatClampNeg n.toNatClampNeg)) = e9 := by simpa [zv_st] using hb
        subst this
        show (H.setIfInBounds b _)[b]? = some _
        simp [Array.getElem?_setIfInBounds, hl9]
      · have hb' : x.1 b = some e9 := by simpa [zv_st, hba] using hb
        exact (hP.2 b e9 hb').kept (oq b hba)⟩ ⟨by simp; exact hS.1, fun q g1 g2 => by
      rw [oq q (fun e => g2 (by rw [e]; exact hA))]
      exact hS.2.1 q g1 g2, fun q hq => by
      rcases List.mem_append.mp hq with h | h
      · exact hS.2.2 q h
      · obtain ⟨z, -, hz⟩ := List.mem_map.mp h
        rw [← hz]
        exact hA⟩ _ hheap X'
  exact ⟨t', step t' a1, b1⟩
end ZVCP
/-- a rule that makes one cell, the room told -/
theorem zv_hnewR {f : zv_G} {pc pc' : Nat} {L : List (Nat × Value)} {st st' : List Value} {x : zv_X} {e : zv_C} {n : Nat} (k : zv_V f pc' L st' (zv_nw x e n))
    (h : ∀ (D : zv_D) (p : Program) (l : Launch) (E : Env) (R : Room) (s : State) (m : MethodId) (args : Array Value) (below : List Frame) (meth : Method) (c : Code) (H : Heap) (locs : List Loc) (ls : Array Slot) (cells slots : Nat) (Q : State → Prop),
      R.frames = f.1 → R.locals = 64 * f.1 → zv_F D p l s m args meth c f → ls.size = f.2.2.2.1 → zv_P D x H → cells + 1 ≤ R.cells → slots + n ≤ R.slots → (∀ H' : Heap, va_at D.1 zv_cl (x.2.1, zv_e D.2 e) H' → H'.size = H.size + 1 → (∀ q : Nat, q < H.size → H'[q]? = H[q]?) → W p l E R s m args below meth c H' locs (cells + 1) (slots + n) Q (F0 m pc' ls st')) → W p l E R s m args below meth c H locs cells slots Q (F0 m pc ls st)) : zv_V f pc L st x := by
  have hle := (zv_Le.nw x e n).tr k.1
  refine ⟨hle, fun h0 D p l E s m args below meth c H locs ls hF hl hP hS => ?_⟩
  have k1 : x.2.1 + 1 ≤ f.2.2.2.2.2.2.2.1.2.1 := k.1.1
  have k2 : x.2.2.1 + n ≤ f.2.2.2.2.2.2.2.1.2.2.1 := k.1.2.1
  have g1 : f.2.2.2.2.2.2.1.2.1 ≤ x.2.1 := h0.1
  have g2 : f.2.2.2.2.2.2.1.2.2.1 ≤ x.2.2.1 := h0.2.1
  refine h D p l E _ s m args below meth c H locs ls _ _ _ rfl rfl hF hl.1 hP (by show _ ≤ f.2.2.2.2.2.2.2.1.2.1 - f.2.2.2.2.2.2.1.2.1; omega) (by show _ ≤ f.2.2.2.2.2.2.2.1.2.2.1 - f.2.2.2.2.2.2.1.2.2.1; omega) fun H' hat hz hq => ?_
  have e1 : x.2.1 - f.2.2.2.2.2.2.1.2.1 + 1 = (zv_nw x e n).2.1 - f.2.2.2.2.2.2.1.2.1 := by show _ = x.2.1 + 1 - _; omega
  have e2 : x.2.2.1 - f.2.2.2.2.2.2.1.2.2.1 + n = (zv_nw x e n).2.2.1 - f.2.2.2.2.2.2.1.2.2.1 := by show _ = x.2.2.1 + n - _; omega
  rw [e1, e2]
  have hH : H.size = x.2.1 := hP.1
  refine k.2 (h0.tr (zv_Le.nw x e n)) D p l E s m args below meth c H' locs ls hF hl ⟨by rw [hz, hH]; rfl, fun b e9 hb => ?_⟩ ⟨by rw [hz]; exact Nat.le_succ_of_le hS.1, fun q h1 h2 => ?_, hS.2.2⟩
  · by_cases hba : b = x.2.1
    · subst hba
      have : e = e9 := by simpa [zv_nw] using hb
      subst this
      exact hat
    · have hb' : x.1 b = some e9 := by simpa [zv_nw, hba] using hb
      have hat' := hP.2 b e9 hb'
      exact hat'.kept (hq b hat'.lt)
  · rw [hq q (Nat.lt_of_lt_of_le h1 hS.1)]
    exact hS.2.1 q h1 h2
section ZVCL
variable {f : zv_G} {pc : Nat} {L : List (Nat × Value)} {st : List Value} {x : zv_X} {a : Nat}
/-- an array of ints or bytes is cloned -/
theorem zv_clone {idx t n : Nat} {ty : FieldType} {ad : String} {g : Nat → Int32} (hdg : decode f.2.2.1 pc = .ok (.invokevirtual idx, 3)) (w1 : Cond.methodLink f.2.1 idx ⟨ad, "clone", "()Ljava/lang/Object;"⟩ ∈ zv_U) (w2 : Cond.sameMethod ad "java/lang/Object" "clone" "()Ljava/lang/Object;" ∈ zv_U) (w3 : Cond.native ⟨"java/lang/Object", "clone", "()Ljava/lang/Object;"⟩ ∈ zv_U) (w4 : Cond.instanceMethod ⟨"java/lang/Object", "clone", "()Ljava/lang/Object;"⟩ ∈ zv_U) (w5 : Cond.selects ad ⟨ad, "clone", "()Ljava/lang/Object;"⟩ ⟨"java/lang/Object", "clone", "()Ljava/lang/Object;"⟩ ∈ zv_U) (ht : (t = 0 ∧ ty = .int ∧ ad = "[I") ∨ (t = 2 ∧ ty = .byte ∧ ad = "[B")) (ha : x.1 a = some (.inl (t, n, .inl g))) (hfit : ∀ i, i < n → fits ty (.int (g i)) = true) (hd : 1 ≤ f.1) (hroom : (st.map fun v => v.category).sum ≤ 8)
    (kk : zv_V f (pc + 3) L (.ref x.2.1 :: st) (zv_nw x (.inl (t, n, .inl g)) n)) : zv_V f pc L (.ref a :: st) x := by
  refine zv_hnewR kk fun D p l e R s m args below meth c H locs ls cells slots Q hRf hRl hF hl hP hc hs kk => ?_
  have htys : (zv_tys D.2)[if t = 0 then 0 else 2]? = some (D.2 t, ty) := by rcases ht with ⟨rfl, rfl, rfl⟩ | ⟨rfl, rfl, rfl⟩ <;> rfl
  have hnm : s.vm.findClass ad = some (D.2 t) := by
    rcases ht with ⟨rfl, rfl, rfl⟩ | ⟨rfl, rfl, rfl⟩
    · exact va_nm_int (hF.K.2 0 _ rfl).2
    · exact va_nm_byte (hF.K.2 2 _ rfl).2
  have hcst : va_Nw (.castable ad "java/lang/Cloneable") s := by
    rcases ht with ⟨rfl, rfl, rfl⟩ | ⟨rfl, rfl, rfl⟩
    · exact hF.Z.1.2.1 ("[I", "java/lang/Cloneable") (by decide)
    · exact hF.Z.1.2.1 ("[B", "java/lang/Cloneable") (by decide)
  have hsz : (vp_cell (D.2 t) (n, .inl g)).slots.size = n := arrV_size _ _ _
  have hcellE : ({ cls := (vp_cell (D.2 t) (n, .inl g)).cls, slots := (vp_cell (D.2 t) (n, .inl g)).slots } : Cell) = vp_cell (D.2 t) (n, .inl g) := rfl
  obtain ⟨c0, t0', f1, f2, f3⟩ := Cond.castable_spec (va_Nw.use (A := args) rfl hcst)
  cases hnm.symm.trans f1
  intro T hT X
  have hcellT : T.heap[a]? = some (vp_cell (D.2 t) (n, .inl g)) := by rw [hT]; exact hP.2 a _ ha
  obtain ⟨-, kA, hkA, comp, hkind⟩ := State.isArrayOf_alike X.warmed.alike ((hF.K.2 _ _ htys).1 0 (fun _ => .null))
  obtain ⟨-, kS, hkS, compS, hkindS⟩ := (hF.K.2 _ _ htys).1 0 (fun _ => .null)
  obtain ⟨vm', X', stp⟩ := X.cloneArray hF.1 hF.ow (hF.ts _ w1) (hF.ts _ w2) (hF.ts _ w3) (hF.ts _ w4) (hF.ts _ w5) (a := a) (cell := vp_cell (D.2 t) (n, .inl g)) hcellT (fun k h => by cases h) (fun h => by cases h) hnm f2 f3
    (fun i v hv => by
      have hk' : T.vm.classes[D.2 t]? = some kA := hkA
      have := va_fit (cA := D.2 t) (n := n) (F := fun j => .int (g j)) hfit i v hv
      simpa [State.fitsSlot, State.slotType?, hk', hkind, vp_cell, arrV] using this)
    (g := F0 m pc ls (.ref a :: st)) rfl (by rw [hF.ml]; exact hl) rfl (by rw [hF.2.1]; exact hdg) (by rw [hRf]; exact hd) (by show 2 * 0 + _ + 14 ≤ _; rw [hRl]; omega) hc (by rw [hsz]; exact hs) (hloader := Vm.clonesLoader_of_array hkS hkindS)
  rw [hcellE, hsz] at X'
  have hH : H.size = x.2.1 := hP.1
  obtain ⟨t9, b1, b2⟩ := kk (H.push (vp_cell (D.2 t) (n, .inl g))) (by show (H.push _)[x.2.1]? = some _; rw [← hH, Array.getElem?_push_size]) (by simp) (fun q hq => by rw [Array.getElem?_push, if_neg (Nat.ne_of_lt hq)]) ((T.setVm vm').pushCell (vp_cell (D.2 t) (n, .inl g))) (by rw [← hT]; rfl) X'
  refine ⟨t9, stp t9 ?_, b2⟩
  rw [hcellE, hT, hH]
  exact b1
/-- a cast to the array's own class -/
theorem zv_castA {idx t n : Nat} {ad : String} {g : Nat → Int32} (hdg : decode f.2.2.1 pc = .ok (.checkcast idx, 3)) (w1 : Cond.classLink f.2.1 idx ad ∈ zv_U) (ht : (t = 0 ∧ ad = "[I") ∨ (t = 2 ∧ ad = "[B")) (ha : x.1 a = some (.inl (t, n, .inl g))) (kk : zv_V f (pc + 3) L (.ref a :: st) x) : zv_V f pc L (.ref a :: st) x :=
  zv_step kk fun D p l e R s m args below meth c H locs ls cells slots Q hF hl hP hS kk => by
    have hnm : s.vm.findClass ad = some (D.2 t) := by
      rcases ht with ⟨rfl, rfl⟩ | ⟨rfl, rfl⟩
      · exact va_nm_int (hF.K.2 0 _ rfl).2
      · exact va_nm_byte (hF.K.2 2 _ rfl).2
    exact va_castA (ws := [(a, zv_e D.2 (.inl (t, n, .inl g)))]) hF.1 hF.2.1 hF.ow (hF.ts _ w1) (hP.one ha) 0 rfl hnm hdg kk
end ZVCL
