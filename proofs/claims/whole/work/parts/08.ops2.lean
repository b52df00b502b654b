/-! ===== further operations of mirrors ===== -/
section ZVQ2
variable {f : zv_G} {pc : Nat} {L : List (Nat × Value)} {st : List Value} {x : zv_X} {a a0 : Nat}
/-- System.arraycopy between arrays of Objects that hold routines -/
theorem zv_copyQ {idx n0 n1 : Nat} {g0 g : Nat → Option Nat} {sp dp n : Int32} (hdg : decode f.2.2.1 pc = .ok (.invokestatic idx, 3)) (w1 : Cond.methodLink f.2.1 idx arraycopyName ∈ zv_U) (w2 : Cond.native arraycopyName ∈ zv_U) (w3 : Cond.static arraycopyName ∈ zv_U) (w4 : Cond.initialized "java/lang/System" ∈ zv_U) (ha0 : x.1 a0 = some (.inl (4, n0, .inr (.inr (.inr (.inr g0)))))) (ha : x.1 a = some (.inl (4, n1, .inr (.inr (.inr (.inr g))))))
    (h1 : ¬ sp < 0) (h2 : ¬ dp < 0) (h3 : ¬ n < 0) (h4 : sp.toNatClampNeg + n.toNatClampNeg ≤ n0) (h5 : dp.toNatClampNeg + n.toNatClampNeg ≤ n1) (hel : ∀ i, i < n.toNatClampNeg → ∀ y, g0 (sp.toNatClampNeg + i) = some y → ∃ fs, x.1 y = some (.inr (6, fs))) (hd : 1 ≤ f.1) (hroom : (st.map fun v => v.category).sum ≤ 8) (hnw : nativeFrameWords "java/lang/System" "arraycopy" 5 + 11 ≤ 56)
    (kk : zv_V f (pc + 3) L st (zv_st x a (.inl (4, n1, .inr (.inr (.inr (.inr (va_cpy g0 g sp.toNatClampNeg dp.toNatClampNeg n.toNatClampNeg)))))))) : zv_V f pc L (.int n :: .int dp :: .ref a :: .int sp :: .ref a0 :: st) x := by
  refine ⟨kk.1.st ha, fun h0 D p l e s m args below meth c H locs ls hF hl hP hS => ?_⟩
  have nn : ∀ z : Int32, ¬ z < 0 → z.toInt = (z.toNatClampNeg : Int) := by
    intro z hz
    have hz0 : (0 : Int) ≤ z.toInt := by
      have := Int32.not_lt.mp hz
      simpa using Int32.le_iff_toInt_le.mp this
    show z.toInt = ((z.toInt.toNat : Nat) : Int)
    omega
  intro T hT X
  have hc0 : H[a0]? = some (vp_cell (D.2 4) (n0, .inr (.inr (.inr (.inr g0))))) := hP.2 a0 _ ha0
  have hc1 : H[a]? = some (vp_cell (D.2 4) (n1, .inr (.inr (.inr (.inr g))))) := hP.2 a _ ha
  obtain ⟨-, k0, hk0, cm0, hkk0⟩ := (hF.K.2 4 _ rfl).1 n0 (fun j => va_rf (g0 j))
  obtain ⟨-, k1, hk1, cm1, hkk1⟩ := (hF.K.2 4 _ rfl).1 n1 (fun j => va_rf (g j))
  obtain ⟨vm', X', step⟩ := X.arraycopy hF.1 hF.ow (hF.ts _ w1) (hF.ts _ w2) (hF.ts _ w3) (hF.ts _ w4) (src := a0) (dst := a) (cs := vp_cell (D.2 4) (n0, .inr (.inr (.inr (.inr g0))))) (cd := vp_cell (D.2 4) (n1, .inr (.inr (.inr (.inr g))))) (srcPos := sp) (destPos := dp) (n := n) (by rw [hT]; exact hc0) (by rw [hT]; exact hc1)
    (fun _ h => by cases h) (fun _ h => by cases h) (fun h => by cases h) (fun h => by cases h) hk0 hk1 hkk0 hkk1 rfl h1 h2 h3
    (by rw [nn sp h1, nn n h3]; show ¬ _ > ((arrV (D.2 4) n0 (fun j => va_rf (g0 j))).slots.size : Int); rw [arrV_size]; omega)
    (by rw [nn dp h2, nn n h3]; show ¬ _ > ((arrV (D.2 4) n1 (fun j => va_rf (g j))).slots.size : Int); rw [arrV_size]; omega)
    (fun vm₁ hal i hi => by
      have e : (vp_cell (D.2 4) (n0, .inr (.inr (.inr (.inr g0))))).slots.getD (sp.toNatClampNeg + i) .null = va_rf (g0 (sp.toNatClampNeg + i)) := by
        show (arrV (D.2 4) n0 (fun j => va_rf (g0 j))).slots.getD _ _ = _
        rw [Array.getD_eq_getD_getElem?, arrV_read _ _ (by omega)]
        rfl
      rw [e]
      cases hy : g0 (sp.toNatClampNeg + i) with
      | none => exact ⟨rfl, trivial⟩
      | some y =>
        obtain ⟨fs, hfs⟩ := hel i hi y hy
        obtain ⟨cellV, g1, g2, g3⟩ := zv_P.recv hF.K hP hfs (q := (RX6, TX6, 7)) rfl
        obtain ⟨kA, comp, r1, r2, r3, -⟩ := (hF.K.2 4 _ rfl).2
        cases hk1.symm.trans r1
        cases hkk1.symm.trans r2
        obtain ⟨kC, hkC, -⟩ := Vm.findClass_spec g3
        obtain ⟨kE, hkE, -⟩ := Vm.findClass_spec r3
        obtain ⟨kC', hkC', -⟩ := hal.2.2 _ _ hkC
        obtain ⟨kE', hkE', -⟩ := hal.2.2 _ _ hkE
        obtain ⟨c0, t1, f1, f2, f3⟩ := Cond.castable_spec (va_Nw.use (A := args) rfl (hF.Z.1.2.1 (RX6, "java/lang/Object") (by decide)))
        cases g3.symm.trans f1
        cases r3.symm.trans f2
        refine ⟨rfl, cellV, (show T.heap[y]? = some cellV by rw [hT]; exact g1), (fun q h => by rw [h] at g2; cases g2), ⟨kC', hkC'⟩, ?_, ?_⟩
        · exact ⟨kE', hkE'⟩
        · show vm₁.assignable _ _ = true
          rw [hal.assignable]
          exact f3)
    (g := F0 m pc ls (.int n :: .int dp :: .ref a :: .int sp :: .ref a0 :: st)) rfl (by rw [hF.ml]; exact hl.1) (rest := st) rfl (by rw [hF.2.1]; exact hdg) hd (by show 2 * 0 + _ + _ ≤ 64 * f.1; omega)
  have e1 : copied (vp_cell (D.2 4) (n0, .inr (.inr (.inr (.inr g0))))) (vp_cell (D.2 4) (n1, .inr (.inr (.inr (.inr g))))) sp dp n = vp_cell (D.2 4) (n1, .inr (.inr (.inr (.inr (va_cpy g0 g sp.toNatClampNeg dp.toNatClampNeg n.toNatClampNeg))))) := by
    rw [vp_cell_q, vp_cell_q, vp_cell_q]
    exact va_copied (fun z => va_rf z) (D.2 4) (D.2 4) g0 g h4
  rw [e1] at X' step
  have hl9 : a < H.size := (Array.getElem?_eq_some_iff.mp hc1).1
  have oq : ∀ q : Nat, q ≠ a → (H.setIfInBounds a (vp_cell (D.2 4) (n1, .inr (.inr (.inr (.inr (va_cpy g0 g sp.toNatClampNeg dp.toNatClampNeg n.toNatClampNeg)))))))[q]? = H[q]? := fun q hq => by simp [Array.getElem?_setIfInBounds, Ne.symm hq]
  have hheap : ((T.setVm vm').setCell a (vp_cell (D.2 4) (n1, .inr (.inr (.inr (.inr (va_cpy g0 g sp.toNatClampNeg dp.toNatClampNeg n.toNatClampNeg))))))).heap = H.setIfInBounds a (vp_cell (D.2 4) (n1, .inr (.inr (.inr (.inr (va_cpy g0 g sp.toNatClampNeg dp.toNatClampNeg n.toNatClampNeg)))))) := by rw [← hT]; rfl
  have hA : zv_A f.2.2.2.2.2.2.1 a := h0.2.2.2 a (by rw [ha]; exact fun z => by cases z)
  obtain ⟨t', a1, b1⟩ := kk.2 (h0.st' ha) D p l e s m args below meth c _ _ ls hF hl ⟨by simp; exact hP.1, fun b e9 hb => by
      by_cases hba : b = a
      · subst hba
        have : Sum.inl (4, n1, Sum.inr (Sum.inr (Sum.inr (Sum.inr (va_cpy g0 g sp.toNatClampNeg dp.toNatClampNeg n.toNatClampNeg))))) = e9 := by simpa [zv_st] using hb
        subst this
        show (H.setIfInBounds b _)[b]? = some _
        simp [Array.getElem?_setIfInBounds, hl9]
      · have hb' : x.1 b = some e9 := by simpa [zv_st, hba] using hb
        exact (hP.2 b e9 hb').kept (oq b hba)⟩ ⟨by simp; exact hS.1, fun q g1 g2 => by
      rw [oq q (fun e => g2 (by rw [e]; exact hA))]
      exact hS.2.1 q g1 g2, fun q hq => by
      rcases List.mem_append.mp hq with h | h
      · exact hS.2.2 q h
      · obtain ⟨z, -, hz⟩ := List.mem_map.mp h
        rw [← hz]
        exact hA⟩ _ hheap X'
  exact ⟨t', step t' a1, b1⟩
/-- the class object of Object[] -/
theorem zv_ldcM {idx : Nat} (hdg : decode f.2.2.1 pc = .ok (.ldc idx, 2)) (w1 : Cond.classLink f.2.1 idx "[Ljava/lang/Object;" ∈ zv_U) (kk : zv_V f (pc + 2) L (.ref x.2.2.2.2 :: st) x) : zv_V f pc L st x :=
  ⟨kk.1, fun h0 D p l e s m args below meth c H locs ls hF hl hP hS => by
    have k := kk.2 h0 D p l e s m args below meth c H locs ls hF hl hP hS
    rw [← h0.2.2.1] at k
    exact va_ldcM hF.1 hF.2.1 hF.ow (hF.ts _ w1) hF.Z.2.2.2.2.2 hdg k⟩
theorem zv_getC {idx n : Nat} {g : Nat → Option Nat} (hdg : decode f.2.2.1 pc = .ok (.invokevirtual idx, 3)) (w1 : Cond.methodLink f.2.1 idx ⟨"java/lang/Object", "getClass", "()Ljava/lang/Class;"⟩ ∈ zv_U) (w2 : Cond.selects "[Ljava/lang/Object;" ⟨"java/lang/Object", "getClass", "()Ljava/lang/Class;"⟩ ⟨"java/lang/Object", "getClass", "()Ljava/lang/Class;"⟩ ∈ zv_U) (w3 : Cond.instanceMethod ⟨"java/lang/Object", "getClass", "()Ljava/lang/Class;"⟩ ∈ zv_U) (w4 : Cond.native ⟨"java/lang/Object", "getClass", "()Ljava/lang/Class;"⟩ ∈ zv_U) (ha : x.1 a = some (.inl (4, n, .inr (.inr (.inr (.inr g)))))) (hd : 1 ≤ f.1) (hroom : (st.map fun v => v.category).sum ≤ 8) (kk : zv_V f (pc + 3) L (.ref x.2.2.2.2 :: st) x) : zv_V f pc L (.ref a :: st) x :=
  ⟨kk.1, fun h0 D p l e s m args below meth c H locs ls hF hl hP hS => by
    have k := kk.2 h0 D p l e s m args below meth c H locs ls hF hl hP hS
    rw [← h0.2.2.1] at k
    have hat : H[a]? = some (vp_cell (D.2 4) (n, .inr (.inr (.inr (.inr g))))) := hP.2 a _ ha
    refine va_getC hF.1 hF.2.1 (by rw [hF.ml]; exact hl.1.symm) hF.ow (hF.ts _ w1) hF.Z.1.2.2.2.2.2.2.1.use (hF.ts _ w2) (hF.ts _ w3) (hF.ts _ w4) hF.Z.2.2.2.2.2 ⟨_, hat, rfl, ?_⟩ hd (by show _ ≤ 64 * f.1; omega) hdg k
    exact va_nmO (hF.K.2 4 _ rfl).2 (by decide +kernel)⟩
end ZVQ2
def zm_sR (x : zv_X) (a : Nat) (i : Int32) (v : Nat) : Option zv_X := match x.1 a with
  | some (.inl (5, n, .inr (.inr (.inr (.inr g))))) => if i < 0 ∨ n ≤ i.toNatClampNeg then none else if zm_k x v 1 = true then some (zv_st x a (.inl (5, n, .inr (.inr (.inr (.inr (va_up g i.toNatClampNeg (some v)))))))) else none
  | some (.inl (4, n, .inr (.inr (.inr (.inr g))))) => if i < 0 ∨ n ≤ i.toNatClampNeg then none else if zm_k x v 6 = true then some (zv_st x a (.inl (4, n, .inr (.inr (.inr (.inr (va_up g i.toNatClampNeg (some v)))))))) else none
  | _ => none
def zm_nR (t : Nat) (x : zv_X) (n : Int32) : Option zv_X := if n < 0 ∨ 100000 < n.toNatClampNeg then none else some (zv_nw x (.inl (t, n.toNatClampNeg, .inr (.inr (.inr (.inr fun _ => none))))) n.toNatClampNeg)
def zm_fits (t : Nat) (v : Int32) : Bool := if t = 0 then true else fits .byte (.int v)
def zm_cp (x : zv_X) (a0 : Nat) (sp : Int32) (a : Nat) (dp n : Int32) : Option zv_X := match x.1 a0, x.1 a with
  | some (.inl (t0, n0, .inl g0)), some (.inl (t1, n1, .inl g)) => if (t0 = t1 ∧ (t0 = 0 ∨ t0 = 2)) ∧ (¬ sp < 0 ∧ ¬ dp < 0 ∧ ¬ n < 0) ∧ sp.toNatClampNeg + n.toNatClampNeg ≤ n0 ∧ dp.toNatClampNeg + n.toNatClampNeg ≤ n1 ∧ ∀ i, i < n.toNatClampNeg → zm_fits t0 (g0 (sp.toNatClampNeg + i)) = true then some (zv_st x a (.inl (t1, n1, .inl (va_cpy g0 g sp.toNatClampNeg dp.toNatClampNeg n.toNatClampNeg)))) else none
  | some (.inl (4, n0, .inr (.inr (.inr (.inr g0))))), some (.inl (4, n1, .inr (.inr (.inr (.inr g))))) => if (¬ sp < 0 ∧ ¬ dp < 0 ∧ ¬ n < 0) ∧ sp.toNatClampNeg + n.toNatClampNeg ≤ n0 ∧ dp.toNatClampNeg + n.toNatClampNeg ≤ n1 ∧ ∀ i, i < n.toNatClampNeg → (match g0 (sp.toNatClampNeg + i) with | none => true | some y => zm_k x y 6) = true then some (zv_st x a (.inl (4, n1, .inr (.inr (.inr (.inr (va_cpy g0 g sp.toNatClampNeg dp.toNatClampNeg n.toNatClampNeg))))))) else none
  | _, _ => none
def zm_cl (t : Nat) (x : zv_X) (a : Nat) : Option zv_X := match x.1 a with
  | some (.inl (t0, n, .inl g)) => if t0 = t ∧ ∀ i, i < n → zm_fits t (g i) = true then some (zv_nw x (.inl (t, n, .inl g)) n) else none
  | _ => none
/-- is it an array of numbers of that kind -/
def zm_ka (t : Nat) (x : zv_X) (a : Nat) : Bool := match x.1 a with
  | some (.inl (t0, _, .inl _)) => t0 == t
  | _ => false
/-- is it an array of Objects -/
def zm_kq (x : zv_X) (a : Nat) : Bool := match x.1 a with
  | some (.inl (4, _, .inr (.inr (.inr (.inr _))))) => true
  | _ => false
section ZR2
variable {f : zv_G} {pc : Nat} {L : List (Nat × Value)} {st : List Value} {x : zv_X} {a a0 : Nat} {β : Type} {o : β}
theorem zr_sR {i : Int32} {v : Nat} {g : zv_X → Option β} (hdg : decode f.2.2.1 pc = .ok (.aastore, 1)) (h : (zm_sR x a i v).bind g = some o) (kk : ∀ x1, zm_sR x a i v = some x1 → g x1 = some o → zv_V f (pc + 1) L st x1) : zv_V f pc L (.ref v :: .int i :: .ref a :: st) x := by
  obtain ⟨x1, e, h⟩ := zb h
  have e9 := e
  unfold zm_sR at e
  split at e
  · next n g9 ea =>
    split at e
    · cases e
    · next hin =>
      obtain ⟨hk, e⟩ := zg e
      obtain ⟨fs, hv⟩ := zm_k_ok hk
      cases e; exact zv_aast5 hdg ea hv hin (kk _ e9 h)
  · next n g9 ea =>
    split at e
    · cases e
    · next hin =>
      obtain ⟨hk, e⟩ := zg e
      obtain ⟨fs, hv⟩ := zm_k_ok hk
      cases e; exact zv_aast4 hdg ea hv hin (kk _ e9 h)
  · cases e
theorem zr_nR {t idx : Nat} {C : String} {n : Int32} {g : zv_X → Option β} (hdg : decode f.2.2.1 pc = .ok (.anewarray idx, 3)) (h1 : Cond.classLink f.2.1 idx C ∈ zv_U) (hC : (t = 4 ∧ C = "java/lang/Object") ∨ (t = 5 ∧ C = "GuestFrames$Frame")) (h : (zm_nR t x n).bind g = some o) (kk : ∀ x1, zm_nR t x n = some x1 → g x1 = some o → zv_V f (pc + 3) L (.ref x.2.1 :: st) x1) : zv_V f pc L (.int n :: st) x := by
  obtain ⟨x1, e, h⟩ := zb h
  have e9 := e
  unfold zm_nR at e
  split at e
  · cases e
  · next hn => cases e; exact zv_anew hdg h1 hC (fun q => hn (Or.inl q)) rfl (Nat.not_lt.mp fun q => hn (Or.inr q)) (kk _ e9 h)
theorem zr_cp {idx : Nat} {sp dp n : Int32} {g : zv_X → Option β} (hdg : decode f.2.2.1 pc = .ok (.invokestatic idx, 3)) (w1 : Cond.methodLink f.2.1 idx arraycopyName ∈ zv_U) (w2 : Cond.native arraycopyName ∈ zv_U) (w3 : Cond.static arraycopyName ∈ zv_U) (w4 : Cond.initialized "java/lang/System" ∈ zv_U) (hd : 1 ≤ f.1) (hroom : (st.map fun v => v.category).sum ≤ 8) (h : (zm_cp x a0 sp a dp n).bind g = some o) (kk : ∀ x1, zm_cp x a0 sp a dp n = some x1 → g x1 = some o → zv_V f (pc + 3) L st x1) : zv_V f pc L (.int n :: .int dp :: .ref a :: .int sp :: .ref a0 :: st) x := by
  have hnw : nativeFrameWords "java/lang/System" "arraycopy" 5 + 11 ≤ 56 := by decide
  obtain ⟨x1, e, h⟩ := zb h
  have e9 := e
  unfold zm_cp at e
  split at e
  · next t0 n0 g0 t1 n1 g1 ea0 ea =>
    obtain ⟨⟨⟨rfl, ht⟩, ⟨c1, c2, c3⟩, c4, c5, c6⟩, e⟩ := zg e
    cases e
    rcases ht with rfl | rfl
    · exact zv_copy (ty := .int) hdg w1 w2 w3 w4 (Or.inl ⟨rfl, rfl⟩) ea0 ea c1 c2 c3 c4 c5 (fun i hi => rfl) hd hroom hnw (kk _ e9 h)
    · exact zv_copy (ty := .byte) hdg w1 w2 w3 w4 (Or.inr ⟨rfl, rfl⟩) ea0 ea c1 c2 c3 c4 c5 (fun i hi => c6 i hi) hd hroom hnw (kk _ e9 h)
  · next n0 g0 n1 g1 ea0 ea =>
    obtain ⟨⟨⟨c1, c2, c3⟩, c4, c5, c6⟩, e⟩ := zg e
    cases e
    refine zv_copyQ hdg w1 w2 w3 w4 ea0 ea c1 c2 c3 c4 c5 (fun i hi y hy => ?_) hd hroom hnw (kk _ e9 h)
    have := c6 i hi
    rw [hy] at this
    exact zm_k_ok this
  · cases e
theorem zr_cl {idx t : Nat} {ty : FieldType} {ad : String} {g : zv_X → Option β} (hdg : decode f.2.2.1 pc = .ok (.invokevirtual idx, 3)) (w1 : Cond.methodLink f.2.1 idx ⟨ad, "clone", "()Ljava/lang/Object;"⟩ ∈ zv_U) (w2 : Cond.sameMethod ad "java/lang/Object" "clone" "()Ljava/lang/Object;" ∈ zv_U) (w3 : Cond.native ⟨"java/lang/Object", "clone", "()Ljava/lang/Object;"⟩ ∈ zv_U) (w4 : Cond.instanceMethod ⟨"java/lang/Object", "clone", "()Ljava/lang/Object;"⟩ ∈ zv_U) (w5 : Cond.selects ad ⟨ad, "clone", "()Ljava/lang/Object;"⟩ ⟨"java/lang/Object", "clone", "()Ljava/lang/Object;"⟩ ∈ zv_U) (ht : (t = 0 ∧ ty = .int ∧ ad = "[I") ∨ (t = 2 ∧ ty = .byte ∧ ad = "[B")) (hd : 1 ≤ f.1) (hroom : (st.map fun v => v.category).sum ≤ 8) (h : (zm_cl t x a).bind g = some o) (kk : ∀ x1, zm_cl t x a = some x1 → g x1 = some o → zv_V f (pc + 3) L (.ref x.2.1 :: st) x1) : zv_V f pc L (.ref a :: st) x := by
  obtain ⟨x1, e, h⟩ := zb h
  have e9 := e
  unfold zm_cl at e
  split at e
  · next t0 n g9 ea =>
    obtain ⟨⟨rfl, c1⟩, e⟩ := zg e
    cases e
    refine zv_clone hdg w1 w2 w3 w4 w5 ht ea (fun i hi => ?_) hd hroom (kk _ e9 h)
    rcases ht with ⟨rfl, rfl, rfl⟩ | ⟨rfl, rfl, rfl⟩
    · rfl
    · exact c1 i hi
  · cases e
theorem zr_castA {idx t : Nat} {ad : String} {g : Option β} (hdg : decode f.2.2.1 pc = .ok (.checkcast idx, 3)) (w1 : Cond.classLink f.2.1 idx ad ∈ zv_U) (ht : (t = 0 ∧ ad = "[I") ∨ (t = 2 ∧ ad = "[B")) (h : (if zm_ka t x a = true then g else none) = some o) (kk : g = some o → zv_V f (pc + 3) L (.ref a :: st) x) : zv_V f pc L (.ref a :: st) x := by
  obtain ⟨hk, h9⟩ := zg h
  unfold zm_ka at hk
  split at hk
  · next t0 n g9 ea => exact zv_castA hdg w1 ht (by rw [ea, beq_iff_eq.mp hk]) (kk h9)
  · cases hk
theorem zr_getC {idx : Nat} {g : Option β} (hdg : decode f.2.2.1 pc = .ok (.invokevirtual idx, 3)) (w1 : Cond.methodLink f.2.1 idx ⟨"java/lang/Object", "getClass", "()Ljava/lang/Class;"⟩ ∈ zv_U) (w2 : Cond.selects "[Ljava/lang/Object;" ⟨"java/lang/Object", "getClass", "()Ljava/lang/Class;"⟩ ⟨"java/lang/Object", "getClass", "()Ljava/lang/Class;"⟩ ∈ zv_U) (w3 : Cond.instanceMethod ⟨"java/lang/Object", "getClass", "()Ljava/lang/Class;"⟩ ∈ zv_U) (w4 : Cond.native ⟨"java/lang/Object", "getClass", "()Ljava/lang/Class;"⟩ ∈ zv_U) (hd : 1 ≤ f.1) (hroom : (st.map fun v => v.category).sum ≤ 8) (h : (if zm_kq x a = true then g else none) = some o) (kk : g = some o → zv_V f (pc + 3) L (.ref x.2.2.2.2 :: st) x) : zv_V f pc L (.ref a :: st) x := by
  obtain ⟨hk, h⟩ := zg h
  unfold zm_kq at hk
  split at hk
  · next n g9 ea => exact zv_getC hdg w1 w2 w3 w4 ea hd hroom (kk h)
  · cases hk
theorem zr_acmp_ne {a9 b9 : Nat} {off : Int} {tgt : Nat} {A B : Option β} (hdg : decode f.2.2.1 pc = .ok (.if_acmp .ne off, 3)) (ht : (pc : Int) + off = (tgt : Int)) (h : (if a9 = b9 then B else A) = some o) (k1 : ¬ a9 = b9 → A = some o → zv_V f tgt L st x) (k2 : a9 = b9 → B = some o → zv_V f (pc + 3) L st x) : zv_V f pc L (.ref b9 :: .ref a9 :: st) x := by
  refine zv_fork (C := a9 = b9) (fun c => k2 c (by rw [if_pos c] at h; exact h)) (fun c => k1 c (by rw [if_neg c] at h; exact h)) fun D p l e R s m args below meth c H locs ls cells slots Q hF k1 k2 => ?_
  exact lv_acmp_ne (rx := some a9) (ry := some b9) hF.1 hF.2.1 hdg ht (fun h => k2 (fun g => h (by rw [g]))) (fun h => k1 (Option.some.inj h))
/-- null is pushed -/
theorem zv_null (hdg : decode f.2.2.1 pc = .ok (.aconst_null, 1)) (kk : zv_V f (pc + 1) L (.null :: st) x) : zv_V f pc L st x := zv_step kk fun D p l e R s m args below meth c H locs ls cells slots Q hF hl hP hS kk => lv_null hF.1 hF.2.1 hdg kk
end ZR2
section ZRN
variable {f : zv_G} {pc : Nat} {L : List (Nat × Value)} {st0 st : List Value} {x : zv_X} {d idx n maxL : Nat} {y : MethodName} {cc : ByteArray} {ret : Option FieldType} {As : List Value} {α β : Type} {o : β} {X : α → zv_X}
theorem zr_cSNi {V : α → Int32} {M : Option α} {g : α → Option β} (hdg : decode f.2.2.1 pc = .ok (.invokestatic idx, 3)) (hw : zv_mw y cc maxL ret n) (h1 : f.2.1 = RX6 ∧ idx = 19 ∧ y = yX8_argumentsIn) (h2 : Cond.static y ∈ zv_U) (As : List Value) (hn : As.length = n) (hst : st0 = As.reverse ++ st) (hroom : (st.map fun v => v.category).sum ≤ 8) (hd : d + 1 ≤ f.1) (h : M.bind g = some o)
    (hT : ∀ o1, M = some o1 → zv_T d y cc maxL ret As x (X o1) (some (.int (V o1)))) (kk : ∀ o1, M = some o1 → g o1 = some o → zv_V f (pc + 3) L (.int (V o1) :: st) (X o1)) : zv_V f pc L st0 x := by
  obtain ⟨o1, e, h⟩ := zb h
  exact zv_callSN hdg hw h1 h2 hd hn hst hroom (hT o1 e) (kk o1 e h)
theorem zr_cIN {b : Nat} {M : Option α} {g : α → Option β} (hdg : decode f.2.2.1 pc = .ok (.invokespecial idx, 3)) (hw : zv_mw y cc maxL none n) (h1 : f.2.1 = RX8 ∧ idx = 18 ∧ y = yX0_init) (h2 : Cond.instanceMethod y ∈ zv_U) (hy : y.name = "<init>") (As : List Value) (hn : As.length = n) (hst : st0 = As.reverse ++ .ref b :: st) (hroom : (st.map fun v => v.category).sum ≤ 8) (hd : d + 1 ≤ f.1) (h : M.bind g = some o)
    (hT : ∀ o1, M = some o1 → zv_T d y cc maxL none (.ref b :: As) x (X o1) none) (kk : ∀ o1, M = some o1 → g o1 = some o → zv_V f (pc + 3) L st (X o1)) : zv_V f pc L st0 x := by
  obtain ⟨o1, e, h⟩ := zb h
  exact zv_callIN hdg hw h1 h2 hy hd hn hst hroom (hT o1 e) (kk o1 e h)
end ZRN
/-! Math.max and Math.min of ints -/
def zm_max (a b : Int32) : Int32 := if a < b then b else a
def zm_min (a b : Int32) : Int32 := if b < a then b else a
section ZRM
variable {f : zv_G} {pc : Nat} {L : List (Nat × Value)} {st : List Value} {x : zv_X}
theorem zv_max {index : Nat} {a b : Int32} (hdg : decode f.2.2.1 pc = .ok (.invokestatic index, 3)) (w1 : Cond.methodLink f.2.1 index yJ9_max_7cf53 ∈ zv_U) (w2 : Cond.static yJ9_max_7cf53 ∈ zv_U) (w3 : Cond.initialized "java/lang/Math" ∈ zv_U) (w4 : Cond.code yJ9_max_7cf53 cJ9_max_7cf53 2 (some .int) ∈ zv_U) (hd : 1 ≤ f.1) (hroom : (st.map fun v => v.category).sum ≤ 8)
    (kk : zv_V f (pc + 3) L (.int (zm_max a b) :: st) x) : zv_V f pc L (.int b :: .int a :: st) x := by
  have n1 : yJ9_max_7cf53 = Lib.Math.max.name := by decide +kernel
  have n2 : cJ9_max_7cf53 = Lib.Math.max.code := by decide +kernel
  rw [n1] at w1 w2 w4
  rw [n2] at w4
  have k1 := kk.1.1
  have k2 := kk.1.2.1
  exact ⟨kk.1, fun h0 D p l e s m args below meth c H locs ls hF hl hP hS => va_mmax hF.1 hF.2.1 (by rw [hF.ml]; exact hl.1.symm) hF.ow (hF.ts _ w1) (hF.ts _ w2) (hF.ts _ w3) (hF.ts _ w4) hd (by show _ ≤ 64 * f.1; omega) (by show _ ≤ f.2.2.2.2.2.2.2.1.2.1 - f.2.2.2.2.2.2.1.2.1; omega) (by show _ ≤ f.2.2.2.2.2.2.2.1.2.2.1 - f.2.2.2.2.2.2.1.2.2.1; omega) hdg (kk.2 h0 D p l e s m args below meth c H locs ls hF hl hP hS)⟩
theorem zv_min {index : Nat} {a b : Int32} (hdg : decode f.2.2.1 pc = .ok (.invokestatic index, 3)) (w1 : Cond.methodLink f.2.1 index yJ9_min_7cf53 ∈ zv_U) (w2 : Cond.static yJ9_min_7cf53 ∈ zv_U) (w3 : Cond.initialized "java/lang/Math" ∈ zv_U) (w4 : Cond.code yJ9_min_7cf53 cJ9_min_7cf53 2 (some .int) ∈ zv_U) (hd : 1 ≤ f.1) (hroom : (st.map fun v => v.category).sum ≤ 8)
    (kk : zv_V f (pc + 3) L (.int (zm_min a b) :: st) x) : zv_V f pc L (.int b :: .int a :: st) x := by
  have n1 : yJ9_min_7cf53 = Lib.Math.min.name := by decide +kernel
  have n2 : cJ9_min_7cf53 = Lib.Math.min.code := by decide +kernel
  rw [n1] at w1 w2 w4
  rw [n2] at w4
  have k1 := kk.1.1
  have k2 := kk.1.2.1
  exact ⟨kk.1, fun h0 D p l e s m args below meth c H locs ls hF hl hP hS => va_mmin hF.1 hF.2.1 (by rw [hF.ml]; exact hl.1.symm) hF.ow (hF.ts _ w1) (hF.ts _ w2) (hF.ts _ w3) (hF.ts _ w4) hd (by show _ ≤ 64 * f.1; omega) (by show _ ≤ f.2.2.2.2.2.2.2.1.2.1 - f.2.2.2.2.2.2.1.2.1; omega) (by show _ ≤ f.2.2.2.2.2.2.2.1.2.2.1 - f.2.2.2.2.2.2.1.2.2.1; omega) hdg (kk.2 h0 D p l e s m args below meth c H locs ls hF hl hP hS)⟩
end ZRM
