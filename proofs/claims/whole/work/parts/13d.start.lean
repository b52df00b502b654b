/-! ===== the law's start: what the tables and the premises say ===== -/
def R_law : String := "GuestFramesLaw"
theorem zl_room {p : Program} {l : Launch} {e : Env} {R R' : Room} {s : State} {m : MethodId} {args : Array Value} {below : List Frame} {meth : Method} {c : Code} {H : Heap} {locs : List Loc} {cells slots : Nat} {Q : State → Prop} {g : JFrame} (h1 : R'.frames ≤ R.frames) (h2 : R'.cells ≤ R.cells) (h3 : R'.slots ≤ R.slots) (h4 : R'.locals ≤ R.locals)
    (k : W p l e R' s m args below meth c H locs cells slots Q g) : W p l e R s m args below meth c H locs cells slots Q g := by
  intro T hT X
  have hr : s.hasRoom e.platform R' = true := by
    have h := X.room
    simp only [State.hasRoom, Bool.and_eq_true, decide_eq_true_eq] at h ⊢
    obtain ⟨⟨⟨⟨a1, b1, b2, b3, b4, b5⟩, c1⟩, d1⟩, e1⟩ := h
    exact ⟨⟨⟨⟨by omega, by omega, by omega, by omega, by omega, b5⟩, by omega⟩, by omega⟩, e1⟩
  exact k T hT { X with room := hr }
section ZSS
variable {s : State} {A : Array Value}
theorem zs_arr0 (h : (Cond.arrayClass .int).before A s = true) : ∃ cA, ArrOfT s cA .int ∧ va_RA s cA .int := by
  obtain ⟨c, k, comp, h1, h2, h3⟩ := Cond.arrayClass_spec h
  exact ⟨c, fun n z => ⟨(fun k h => by cases h), k, h2, comp, h3⟩, h1⟩
theorem zs_arr1 (h : (Cond.arrayClass .long).before A s = true) : ∃ cA, ArrOfT s cA .long ∧ va_RA s cA .long := by
  obtain ⟨c, k, comp, h1, h2, h3⟩ := Cond.arrayClass_spec h
  exact ⟨c, fun n z => ⟨(fun k h => by cases h), k, h2, comp, h3⟩, h1⟩
theorem zs_arr2 (h : (Cond.arrayClass .byte).before A s = true) : ∃ cA, ArrOfT s cA .byte ∧ va_RA s cA .byte := by
  obtain ⟨c, k, comp, h1, h2, h3⟩ := Cond.arrayClass_spec h
  exact ⟨c, fun n z => ⟨(fun k h => by cases h), k, h2, comp, h3⟩, h1⟩
theorem zs_arr3 (h : (Cond.arrayClass .boolean).before A s = true) : ∃ cA, ArrOfT s cA .boolean ∧ va_RA s cA .boolean := by
  obtain ⟨c, k, comp, h1, h2, h3⟩ := Cond.arrayClass_spec h
  exact ⟨c, fun n z => ⟨(fun k h => by cases h), k, h2, comp, h3⟩, h1⟩
theorem zs_arrO {C : String} (h : (Cond.arrayOver (.object C)).before A s = true) : ∃ cA, ArrOfT s cA (.object C) ∧ va_RA s cA (.object C) := by
  obtain ⟨comp, c, k, h1, -, h2, h3, h4⟩ := Cond.arrayOver_spec h
  exact ⟨c, fun n z => ⟨(fun k h => by cases h), k, h2, comp, h3⟩, k, comp, h2, h3, h1, h4⟩
theorem zs_U (hts : ∀ w ∈ lw_tbl, w.before A s = true) : ∀ w ∈ zv_U, w.before A s = true := fun w hw => hts w (List.mem_filter.mp hw).1
theorem zs_kn {ci n : Nat} {C : String} {T : u_T} {N : Nat} {ty : Nat → FieldType} (hts : ∀ w ∈ lw_tbl, w.before A s = true) (hck : zv_ck ci C T N ty) (hi : (Cond.instantiable C n).before A s = true) : ∃ (cC : ClassId) (iS : Nat → Nat), u_Kn s C T N cC iS := u_known (zs_U hts) hck.2.1 hi
theorem zs_K (hts : ∀ w ∈ lw_tbl, w.before A s = true) : ∃ D : zv_D, va_K D.1 zv_cl (zv_tys D.2) s := by
  obtain ⟨c0, i0, k0⟩ := zs_kn (n := 4) hts ck_0 (hts _ (by decide +kernel))
  obtain ⟨c1, i1, k1⟩ := zs_kn (n := 5) hts ck_1 (hts _ (by decide +kernel))
  obtain ⟨c2, i2, k2⟩ := zs_kn (n := 11) hts ck_2 (hts _ (by decide +kernel))
  obtain ⟨c3, i3, k3⟩ := zs_kn (n := 12) hts ck_3 (hts _ (by decide +kernel))
  obtain ⟨c4, i4, k4⟩ := zs_kn (n := 12) hts ck_4 (hts _ (by decide +kernel))
  obtain ⟨c5, i5, k5⟩ := zs_kn (n := 3) hts ck_5 (hts _ (by decide +kernel))
  obtain ⟨c6, i6, k6⟩ := zs_kn (n := 7) hts ck_6 (hts _ (by decide +kernel))
  obtain ⟨c7, i7, k7⟩ := zs_kn (n := 4) hts ck_7 (hts _ (by decide +kernel))
  obtain ⟨c8, i8, k8⟩ := zs_kn (n := 5) hts ck_8 (hts _ (by decide +kernel))
  obtain ⟨c9, i9, k9⟩ := zs_kn (n := 55) hts ck_9 (hts _ (by decide +kernel))
  obtain ⟨a0, p0⟩ := zs_arr0 (hts _ (by decide +kernel))
  obtain ⟨a1, p1⟩ := zs_arr1 (hts _ (by decide +kernel))
  obtain ⟨a2, p2⟩ := zs_arr2 (hts _ (by decide +kernel))
  obtain ⟨a3, p3⟩ := zs_arr3 (hts _ (by decide +kernel))
  obtain ⟨a4, p4⟩ := zs_arrO (C := "java/lang/Object") (hts _ (by decide +kernel))
  obtain ⟨a5, p5⟩ := zs_arrO (C := "GuestFrames$Frame") (hts _ (by decide +kernel))
  refine ⟨((fun k => [c0, c1, c2, c3, c4, c5, c6, c7, c8, c9].getD k c0, fun k => [i0, i1, i2, i3, i4, i5, i6, i7, i8, i9].getD k i0), fun k => [a0, a1, a2, a3, a4, a5].getD k a0), fun k q hq => ?_, fun k q hq => ?_⟩
  · match k, hq with
    | 0, hq => cases hq; exact k0
    | 1, hq => cases hq; exact k1
    | 2, hq => cases hq; exact k2
    | 3, hq => cases hq; exact k3
    | 4, hq => cases hq; exact k4
    | 5, hq => cases hq; exact k5
    | 6, hq => cases hq; exact k6
    | 7, hq => cases hq; exact k7
    | 8, hq => cases hq; exact k8
    | 9, hq => cases hq; exact k9
    | k + 10, hq => simp [zv_cl] at hq
  · match k, hq with
    | 0, hq => cases hq; exact p0
    | 1, hq => cases hq; exact p1
    | 2, hq => cases hq; exact p2
    | 3, hq => cases hq; exact p3
    | 4, hq => cases hq; exact p4
    | 5, hq => cases hq; exact p5
    | k + 6, hq => simp [zv_tys] at hq
theorem zs_N (hts : ∀ w ∈ lw_tbl, w.before A s = true) (hgv : (Jvm.Cond.and given_1 narrow_1).before A s = true) : zv_N s := by
  have hs := flat_of_before _ hgv
  refine ⟨⟨va_Nw.of rfl (hts _ (by decide +kernel)), va_Nw.of rfl (hts _ (by decide +kernel))⟩, fun q hq => va_Nw.of rfl (hts _ ?_), va_AO.of (hts _ (by decide +kernel)), va_AO.of (hts _ (by decide +kernel)), fun q hq => ?_, fun q hq => va_Nc.of (hs _ ?_), va_Dc.of (hts _ (by decide +kernel)), fun y hy => zv_Dx.of (hts _ ?_)⟩
  · have h : ∀ q ∈ zv_casts, Cond.castable q.1 q.2 ∈ lw_tbl := by decide +kernel
    exact h q hq
  · have h1 : ∀ q ∈ zv_strs, Cond.stringRef RX8 q.1 q.2 ∈ lw_tbl := by decide +kernel
    have h2 : ∀ q ∈ zv_strs, Cond.exactly (.string RX8 q.1) "java/lang/String" ∈ flatC (Jvm.Cond.and given_1 narrow_1) := by decide +kernel
    obtain ⟨a, c, cell, k, h3, -⟩ := Cond.exactly_spec (hs _ (h2 q hq))
    exact ⟨a, vk_R.of (hts _ (h1 q hq)) h3⟩
  · have h : ∀ q ∈ zv_ncs, Cond.not (.castable q.1 q.2) ∈ flatC (Jvm.Cond.and given_1 narrow_1) := by decide +kernel
    exact h q hq
  · have h : ∀ y ∈ zv_dcs, Cond.declares y ∈ lw_tbl := by decide +kernel
    exact h y hy
theorem zs_Z (hts : ∀ w ∈ lw_tbl, w.before A s = true) (hgv : (Jvm.Cond.and given_1 narrow_1).before A s = true) {B : Nat → Prop} (hB : ∀ a : Nat, a < s.heap.size → ¬ B a) : ∃ e0 : Nat × Nat, zv_Z e0 B s s.heap := by
  have hs := flat_of_before _ hgv
  obtain ⟨mi, hmi⟩ := va_Mi.of (hs (Cond.isRef (.mirror "[Ljava/lang/Object;")) (by decide +kernel))
  have hlen : (Cond.eq (.length (.static "java/util/ArrayList" "DEFAULTCAPACITY_EMPTY_ELEMENTDATA" "[Ljava/lang/Object;")) (.int 0)).before A s = true := hs _ (by decide +kernel)
  obtain ⟨y, h1, h2⟩ := Cond.eq_one hlen
  cases (show some (.int 0) = some y from h2)
  obtain ⟨t, ht, hT⟩ := va_Tof (A := B) (N := 0) (f := fun _ => .null) (by decide) (hs (Cond.arrayOf (.static "java/util/ArrayList" "DEFAULTCAPACITY_EMPTY_ELEMENTDATA" "[Ljava/lang/Object;") (.object "java/lang/Object")) (by decide +kernel)) h1 (fun j hj => absurd hj (Nat.not_lt_zero j)) hB
  exact ⟨(t, mi), zs_N hts hgv, va_Zof (hts _ (by decide +kernel)) (hts _ (by decide +kernel)) ht hB, hT, vx_Zqof (hts _ (by decide +kernel)) (hts _ (by decide +kernel)) (hs _ (by decide +kernel)) hB, vx_Zqof (hts _ (by decide +kernel)) (hts _ (by decide +kernel)) (hs _ (by decide +kernel)) hB, hmi⟩
end ZSS
