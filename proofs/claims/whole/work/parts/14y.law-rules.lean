/-! ===== rules of the law's own walk: the script, the end, cell ===== -/
def lw_Q (_ : Array Value) (s : State) (o : Outcome) (t : State) : Prop := o = .returned (some (.int 1)) ∧ Framed s o t [] 601024 7293000
def lw_Z (below : List Frame) (a : Array Value) (s : State) : State → Prop := fun t => ∃ o, t.status = .running ∧ Ended t below o ∧ lw_Q a s o t
def zl0 (n0 : Nat) (e0 : Nat × Nat) : zv_X := (fun _ => none, n0, 0, e0)
def zlE (n0 : Nat) (e0 : Nat × Nat) : zv_X := (fun _ => none, n0 + 601024, 7293000, e0)
def zlX (b L : Nat) (xs : Nat → Int32) (s : State) : Prop := va_X b L xs s s.heap ∧ b < s.heap.size
def zlfin (b L : Nat) (xs : Nat → Int32) : zv_D → List Frame → Array Value → State → State → Prop := fun _ below args s t => zlX b L xs s → lw_Z below args s t
abbrev zlf (b L n0 : Nat) (xs : Nat → Int32) (e0 : Nat × Nat) : zv_G := (40, RL, code, 7, ret, ("law", []), zl0 n0 e0, zlE n0 e0, zlfin b L xs)
def zl_c (L : Nat) (xs : Nat → Int32) : Int32 := if 0 < L then xs 0 else 0
theorem zl_cmp0 (a : Int64) : lg_cmp a a = 0 := by unfold lg_cmp; simp
theorem zl_cmp {L i : Nat} (hL : L ≤ 3585) (hi : i ≤ 4000) : (Int32.ofNat L - 7 < Int32.ofNat i) ↔ ¬ (i + 7 ≤ L) := by
  by_cases c : 7 ≤ L
  · rw [show (7 : Int32) = Int32.ofNat 7 from rfl, zi_sub c, zi_lt (by omega) (by omega)]
    omega
  · refine ⟨fun _ => by omega, fun _ => ?_⟩
    have h0 : (0 : Int32) ≤ Int32.ofNat i := by rw [zi_p0 (by omega)]; trivial
    refine Int32.lt_of_lt_of_le ?_ h0
    have : L = 0 ∨ L = 1 ∨ L = 2 ∨ L = 3 ∨ L = 4 ∨ L = 5 ∨ L = 6 := by omega
    rcases this with rfl | rfl | rfl | rfl | rfl | rfl | rfl <;> decide
theorem zl_and7 (v : Int32) : ∃ k : Nat, k < 8 ∧ v &&& 7 = Int32.ofNat k := ⟨v.toBitVec.toNat % 2 ^ 3, Nat.mod_lt _ (by decide), zi_low v (m := 3) (by decide)⟩
section ZLW
variable {b L n0 : Nat} {xs : Nat → Int32} {e0 : Nat × Nat} {pc : Nat} {Lc : List (Nat × Value)} {st : List Value} {x : zv_X}
/-- a step that may use the script -/
theorem zl_use {pc' : Nat} {st st' : List Value} (kk : zv_V (zlf b L n0 xs e0) pc' Lc st' x)
    (h : ∀ (p : Program) (l : Launch) (e : Env) (R : Room) (s : State) (m : MethodId) (args : Array Value) (below : List Frame) (meth : Method) (c : Code) (H : Heap) (locs : List Loc) (ls : Array Slot) (cells slots : Nat) (Q : State → Prop),
      p.tables.exec = Jvm.exec → c.code = code → va_X b L xs s s.heap → b < s.heap.size → ¬ zv_A (zl0 n0 e0) b → va_S (zv_A (zl0 n0 e0)) s.heap H locs → W p l e R s m args below meth c H locs cells slots Q (F0 m pc' ls st') → W p l e R s m args below meth c H locs cells slots Q (F0 m pc ls st)) : zv_V (zlf b L n0 xs e0) pc Lc st x := by
  refine ⟨kk.1, fun h0 D p l e s m args below meth c H locs ls hF hl hP hS => ?_⟩
  by_cases hx : zlX b L xs s
  · have hn : ¬ zv_A (zl0 n0 e0) b := by
      have hz : s.heap.size = n0 := hF.sz
      rintro (h1 | h1)
      · exact h1 rfl
      · have h2 : n0 ≤ b := h1
        have h3 := hx.2
        omega
    exact h p l e _ s m args below meth c H locs ls _ _ _ hF.1 hF.2.1 hx.1 hx.2 hn hS (kk.2 h0 D p l e s m args below meth c H locs ls hF hl hP hS)
  · intro T hT X
    exact ⟨_, Steps.refl _, fun h => absurd h hx⟩
theorem zl_sld {i : Int32} {k : Nat} (hi : i = Int32.ofNat k) (hk : k < L) (hdg : decode code pc = .ok (.iaload, 1)) (kk : zv_V (zlf b L n0 xs e0) (pc + 1) Lc (.int (xs k) :: st) x) (hL : L ≤ 100000 := by omega) : zv_V (zlf b L n0 xs e0) pc Lc (.int i :: .ref b :: st) x :=
  zl_use kk fun p l e R s m args below meth c H locs ls cells slots Q hx hb hX hbl hbA hS kk => by
    have e := zn_lt hk hL
    subst hi
    refine va_sld hx hb hX hbl hbA hS e.1 hdg ?_
    rw [e.2.1]
    exact kk
theorem zl_slen (hdg : decode code pc = .ok (.arraylength, 1)) (kk : zv_V (zlf b L n0 xs e0) (pc + 1) Lc (.int (Int32.ofNat L) :: st) x) : zv_V (zlf b L n0 xs e0) pc Lc (.ref b :: st) x :=
  zl_use kk fun p l e R s m args below meth c H locs ls cells slots Q hx hb hX hbl hbA hS kk => va_slen hx hb hX hbl hbA hS hdg kk
theorem lw_retR {p : Program} {l : Launch} {e : Env} {R : Room} {s : State} {m : MethodId} {args : Array Value} {below : List Frame} {meth : Method} {c : Code} (hx : p.tables.exec = Jvm.exec) (hb : c.code = code) (hr : meth.sig.returnType = ret) (hlocks : meth.locks = false) {pc : Nat} {H : Heap} {ls : Array Slot} (hdg : decode code pc = .ok (.ireturn, 1)) : W p l e R s m args below meth c H [] 601024 7293000 (lw_Z below args s) (F0 m pc ls [.int 1]) := by
  intro T hT X
  obtain ⟨fs, hret, hrun, hended, hW, hframe⟩ := X.leave (v := some (.int 1)) (hlocks := hlocks) (fun h => by rw [hr] at h; cases h)
  have hmeth' : T.vm.method? m = some meth := X.method'
  refine ⟨T.setFrames fs, ?_, .returned (some (.int 1)), hrun, hended, rfl, ⟨_, rfl⟩, hW, hframe⟩
  jvm_step X.here [X.here.top, hx, hb, hdg, hmeth', hr, ret, narrow_b1]
  (try refine ⟨rfl, ?_⟩); (try refine ⟨rfl, ?_⟩)
  first | (intro acts; rw [hret _ acts rfl rfl rfl]) | rw [hret _ _ rfl rfl rfl]
  exact Steps.refl _
theorem zl_end (hdg : decode code pc = .ok (.ireturn, 1)) (hle : zv_Le x (zlE n0 e0)) : zv_V (zlf b L n0 xs e0) pc Lc [.int 1] x := by
  refine ⟨hle, fun h0 D p l e s m args below meth c H locs ls hF hl hP hS => ?_⟩
  have hz : s.heap.size = n0 := hF.sz
  have q1 : x.2.1 ≤ n0 + 601024 := hle.1
  have q2 : x.2.2.1 ≤ 7293000 := hle.2.1
  refine va_forget (fun q hq => ?_) ?_
  · rcases hS.2.2 q hq with h1 | h1
    · exact absurd rfl h1
    · have h2 : n0 ≤ q.base := h1
      omega
  · refine W.widen (k := 601024) (n := 7293000) (by show x.2.1 - n0 ≤ 601024; omega) (by show x.2.2.1 - 0 ≤ 7293000; omega) ?_
    intro T hT X
    obtain ⟨t, a1, b1⟩ := lw_retR (R := zv_R 40 (zl0 n0 e0) (zlE n0 e0)) hF.1 hF.2.1 hF.rt hF.lk hdg T hT X
    exact ⟨t, a1, fun _ => b1⟩
/-- the helper that reads the script -/
def zl_cQ (L : Nat) (xs : Nat → Int32) : Array Value → State → Outcome → State → Prop := fun _ st oc t => oc = .returned (some (.int (zl_c L xs))) ∧ t.heap = st.heap
theorem zl_cellMet (l : Launch) (hL : L ≤ 3585) (d : Nat) (x : zv_X) : Met l yL_cell (.code yL_cell cL_cell 2 (some .int) :: zv_U) (zv_R d x x) (va_Pc [.ref b, .int 0] (fun U => va_X b L xs U U.heap)) (zl_cQ L xs) 0 0 (fun _ => False) := by
  refine Met.ofW (cc := cL_cell) (maxL := 2) (ret := some .int) (by decide) rfl ?_
  intro p e s m args below meth c s₁ B hml hv
  obtain ⟨rfl, hX⟩ := hv
  have hl := lv_entry ([.ref b, .int 0]) (n := 2) (Nat.le_of_ble_eq_true rfl)
  rw [lg_entry_eq]
  generalize (lg_sl ([.ref b, .int 0]) ++ List.replicate (2 - (lg_sl ([.ref b, .int 0])).length) Slot.unset).toArray = ls at hl ⊢
  have hl : lv_has ls 2 [(0, .ref b), (1, .int 0)] := hl
  have hx := B.exec
  have hb := B.bytes
  have hbl : b < s.heap.size := by obtain ⟨scr, h1, -⟩ := hX; exact (Array.getElem?_eq_some_iff.mp h1).1
  have hS : va_S (fun _ => False) s.heap s.heap [] := va_S.rf
  refine lv_iload_n hx hb dL_cell_0 rfl (lv_at hl 1 rfl) ?_
  refine lv_aload_n hx hb dL_cell_1 rfl (lv_at hl 0 rfl) ?_
  refine va_slen hx hb hX hbl id hS dL_cell_2 ?_
  refine lv_icmp_ge (tgt := 12) hx hb dL_cell_3 (by decide) (fun c0 => ?_) (fun c0 => ?_)
  · have h0 : L = 0 := by
      rw [show (0 : Int32) = Int32.ofNat 0 from rfl, zi_le (by omega) (by omega)] at c0
      omega
    refine lv_iconst (v := 0) hx hb dL_cell_12 (by decide) ?_
    exact W.iret (v := 0) hx hb B.returns (fun t ht hW => ⟨by rw [show zl_c L xs = 0 by unfold zl_c; rw [if_neg (by omega)]], ht⟩) hS.2.2 dL_cell_13 B.notSynchronized
  · have h0 : 0 < L := by
      rw [show (0 : Int32) = Int32.ofNat 0 from rfl, zi_le (by omega) (by omega)] at c0
      omega
    refine lv_aload_n hx hb dL_cell_6 rfl (lv_at hl 0 rfl) ?_
    refine lv_iload_n hx hb dL_cell_7 rfl (lv_at hl 1 rfl) ?_
    refine va_sld hx hb hX hbl id hS (zn_lt (n := 0) h0 (by omega)).1 dL_cell_8 ?_
    refine lv_goto (tgt := 13) hx hb dL_cell_9 (by decide) ?_
    exact W.iret (v := xs 0) hx hb B.returns (fun t ht hW => ⟨by rw [show zl_c L xs = xs 0 by unfold zl_c; rw [if_pos h0]], ht⟩) hS.2.2 dL_cell_13 B.notSynchronized
theorem zl_cell (hL : L ≤ 3585) {idx : Nat} (hdg : decode code pc = .ok (.invokestatic idx, 3)) (h1 : Cond.methodLink RL idx yL_cell ∈ zv_U) (hroom : (st.map fun v => v.category).sum ≤ 8) (kk : zv_V (zlf b L n0 xs e0) (pc + 3) Lc (.int (zl_c L xs) :: st) x) : zv_V (zlf b L n0 xs e0) pc Lc (.int 0 :: .ref b :: st) x := by
  refine ⟨kk.1, fun h0 D p l e s m args below meth c H locs ls hF hl hP hS => ?_⟩
  by_cases hx : zlX b L xs s
  · have hz : s.heap.size = n0 := hF.sz
    have hbA : ¬ zv_A (zl0 n0 e0) b := by
      rintro (h1 | h1)
      · exact h1 rfl
      · have h2 : n0 ≤ b := h1
        have h3 := hx.2
        omega
    have q1 : x.2.1 ≤ n0 + 601024 := kk.1.1
    have q2 : x.2.2.1 ≤ 7293000 := kk.1.2.1
    have hr : va_Run p l e (zv_R 40 (zl0 n0 e0) (zlE n0 e0)) s m args below meth c H locs (x.2.1 - n0) (x.2.2.1 - 0) 0 0 (F0 m pc ls (.int 0 :: .ref b :: st)) st (zl_cQ L xs #[.ref b, .int 0]) (fun _ => False) :=
      va_runS (As := [.ref b, .int 0]) (rest := st) ⟨hF.1, hF.2.1, hF.ml, hF.ow, hF.ts⟩ (zl_cellMet l hL 39 (zl0 0 e0)) ⟨callB_of 2 hF.ts (zv_gd mw_L_cell.1) rfl rfl rfl (hF.ts _ mw_L_cell.2.1) (hF.ts _ h1) mw_L_cell.2.2.1 (zv_roomOk (by decide) (by decide)), hF.ts _ wd_432⟩ ⟨fun a U g mk q => ⟨q.1, va_X.moved (u := U) (U := U.calling g mk a) (Vm.Alike.refl U.vm) q.2⟩, fun U hU hW => ⟨rfl, by
        show va_X b L xs U U.heap
        rw [hU]
        exact (hx.1.kept (hS.2.1 b hx.2 hbA)).moved hW.alike⟩⟩ rfl rfl hl.1 rfl (lv_room hroom) hdg ⟨by show x.2.1 - n0 + 0 ≤ n0 + 601024 - n0; omega, by show x.2.2.1 - 0 + 0 ≤ 7293000 - 0; omega⟩
    intro T hTh X
    obtain ⟨v, st₀, t, T', L', e1, X', hL', e2, e3, ⟨hv, ht⟩, go⟩ := hr T hTh X
    cases hv
    have e4 : T'.heap = H := by rw [e2, ht, e1]
    obtain ⟨t2, a1, b1⟩ := kk.2 h0 D p l e s m args below meth c H (locs ++ L') ls hF hl hP ⟨hS.1, hS.2.1, fun q hq => by
      rcases List.mem_append.mp hq with h | h
      · exact hS.2.2 q h
      · exact absurd (hL' q h) id⟩ T' e4 X'
    exact ⟨t2, go t2 a1, b1⟩
  · intro T hT X
    exact ⟨_, Steps.refl _, fun h => absurd h hx⟩
end ZLW
