/-! ===== the reference's judge: every instruction (written by wip/gen/ops13.py) ===== -/
def zTb (N b : Nat) (Nm P O L : Int32) (x : zv_X) : Option zv_X := (zm_I x (b + 75) 9 27).bind fun v3 => if v3 = 0 then mX9_judge_442 N (b + 75) Nm P O L x else (if zm_k x (b + 75) 9 = true then ((mX9_to N (b + 75) Nm P x).bind fun o5 => if zm_k o5.1 (b + 75) 9 = true then ((mX9_lead N (b + 75) Nm o5.2 o5.1).bind fun o7 => mX9_judge_442 N (b + 75) Nm P O L o7) else none) else none)
def zTl (N b : Nat) (Nm P O L : Int32) (op : Nat) (x : zv_X) : Option zv_X := if 153 ≤ op ∧ op ≤ 167 ∨ op = 198 ∨ op = 199 then zTb N b Nm P O L x else mX9_judge_570 N (b + 75) Nm P L (if op < 167 ∨ 177 < op ∧ op ≠ 191 then 1 else 0) x
/-- an instruction does to the state of now what it should -/
def zOp (w b N nm : Nat) (E : zEn) (μ : zMu) (M : zM) (st : List Nat) (l : Nat → Nat) (op x y : Nat) (P L X Y : Int32) : Prop := ∃ M1, zM9 M M1 ∧ zNm (uSk μ) M1 (ztr E nm μ op x y st l) ∧ ∀ (C : zC) (r : zv_X), mX9_judge_194 N (b + 75) (Int32.ofNat nm) P (Int32.ofNat op) L X Y (zc w b C M r) = zTl N b (Int32.ofNat nm) P (Int32.ofNat op) L op (zc w b C M1 r)
section ZRO
variable {N w b K nm x y s k : Nat} {F ρ α π : Nat → Nat} {C0 : zC} {M M' : zM} {μs : Nat → zMu} {ks st : List Nat} {l : Nat → Nat} {o : Option (List Nat × (Nat → Nat))} {v : List Nat × (Nat → Nat)} {P L X Y : Int32}
theorem zpop_ap : ∀ {ks st : List Nat}, ((zpop ks st).map fun t => (t, l)).bind (fun v => (zpop [k] v.1).map fun t => (t, v.2)) = (zpop (ks ++ [k]) st).map fun t => (t, l)
  | [], st => rfl
  | j :: ks, [] => rfl
  | j :: ks, i :: st => by
    show ((if i = j then zpop ks st else none).map fun t => (t, l)).bind _ = (if i = j then zpop (ks ++ [k]) st else none).map _
    by_cases c : i = j
    · rw [if_pos c, if_pos c]
      exact zpop_ap
    · rw [if_neg c, if_neg c]
      rfl
theorem zj_pl (hk : k ≤ 3) (h12 : s ≤ 12) (h : zNm s M ((zpop ks st).map fun t => (t, l))) : ∃ M', (∀ (C : zC) (r : zv_X), mX9_pop N (b + 75) (Int32.ofNat k) (zc w b C M r) = some (zc w b C M' r)) ∧ zM9 M M' ∧ zNm s M' ((zpop (ks ++ [k]) st).map fun t => (t, l)) := by
  obtain ⟨M', t1, t2, t3⟩ := zj_pop (N := N) (w := w) (b := b) hk h12 h
  rw [zpop_ap] at t3
  exact ⟨M', t1, t2, t3⟩
theorem zj_pl1 (hE : zEm K F ρ α π C0 M nm μs) (hk : 1 ≤ k ∧ k ≤ 3) (h : zNm (uSk (μs nm)) M ((zpop ks st).map fun t => (t, l))) : ∃ M', (∀ (C : zC) (r : zv_X), mX9_push N (b + 75) (Int32.ofNat nm) (Int32.ofNat k) (zc w b C M r) = some (zc w b C M' r)) ∧ zM9 M M' ∧ zNm (uSk (μs nm)) M' ((zpop ks st).bind fun t => if ([k] ++ t).length ≤ uSk (μs nm) then some ([k] ++ t, l) else none) := by
  obtain ⟨M', t1, t2, t3⟩ := zj_push (N := N) (w := w) (b := b) hE hk h
  refine ⟨M', t1, t2, ?_⟩
  cases e : zpop ks st with
  | none => rw [e] at t3; exact t3
  | some t =>
    rw [e] at t3
    have t4 : zNm (uSk (μs nm)) M' (zga (uSk (μs nm)) k (t, l)) := t3
    unfold zga at t4
    rw [if_neg (by omega)] at t4
    exact t4
theorem zj_end0 (h : zNm s M (some (st, l))) (hn : zNm s M' ((zpop ks st).map fun t => (t, l))) : zNm s M' ((zpop ks st).bind fun t => if ([] ++ t).length ≤ s then some ([] ++ t, l) else none) := by
  cases e : zpop ks st with
  | none => rw [e] at hn; exact hn
  | some t =>
    rw [e] at hn
    have h1 : t.length ≤ s := Nat.le_trans (zpop_k h.2.2.2.2.1 e).2 h.2.2.2.2.2.1
    show zNm s M' (if t.length ≤ s then some (t, l) else none)
    rw [if_pos h1]
    exact hn
theorem zNm.r1 (h : zNm s M (some v)) : zNm s (zJ M 100 27 1) (some v) := by
  obtain ⟨h1, h2, h3, h4, h5, h6, h7⟩ := h
  exact ⟨rfl, h2, h3, h4, h5, h6, h7⟩
theorem zNm.r0 : zNm s (zJ M 100 27 0) none := rfl
theorem zNm.sel (Q : Prop) [Decidable Q] (h : zNm s M (some v)) : zNm s (zJ M 100 27 (if Q then 1 else 0)) (if Q then some v else none) := by
  by_cases c : Q
  · rw [if_pos c, if_pos c]; exact h.r1
  · rw [if_neg c, if_neg c]; exact zNm.r0
theorem zM9.r {v : Int32} : zM9 M (zJ M 100 27 v) := zM9.J (by omega)
theorem zsel (Q : Prop) [Decidable Q] : (if Q then (1 : Int32) else 0) = 0 ∨ (if Q then (1 : Int32) else 0) = 1 := by
  split
  · exact Or.inr rfl
  · exact Or.inl rfl
theorem ze0 (h : v.1.length ≤ s) : (if ([] ++ v.1).length ≤ s then some ([] ++ v.1, v.2) else none) = some v := if_pos h

theorem zj_o0 (hE : zEm K F ρ α π C0 M nm μs) (h : zNm (uSk (μs nm)) M (some (st, l))) : zOp w b N nm (K, F, ρ, μs) (μs nm) M st l 0 x y P L X Y := by
  have h12 : uSk (μs nm) ≤ 12 := hE.ok.2.2.2.2.2.2.2.2.2.1
  have n0 : zNm (uSk (μs nm)) M ((zpop [] st).map fun t => (t, l)) := h
  refine ⟨M, zM9.rf, (zj_end0 h n0), fun C r => ?_⟩
  show mX9_judge_194 N (b + 75) (Int32.ofNat nm) P 0 L X Y _ = mX9_judge_570 N (b + 75) (Int32.ofNat nm) P L 1 _
  simp (decide := true) only [mX9_judge_194, mX9_judge_317, mX9_judgeLoad, mX9_judgeLoad_0, mX9_judgeLoad_34, mX9_judgeLoad_29, zqk_75, Int32.reduceLT, Int32.reduceLE, Int32.reduceAdd, Int32.reduceSub, Int32.reduceMul, Int32.reduceDiv, Int32.reduceMod, ↓reduceIte, Option.bind_some]
theorem zj_o1 (hE : zEm K F ρ α π C0 M nm μs) (h : zNm (uSk (μs nm)) M (some (st, l))) : zOp w b N nm (K, F, ρ, μs) (μs nm) M st l 1 x y P L X Y := by
  have h12 : uSk (μs nm) ≤ 12 := hE.ok.2.2.2.2.2.2.2.2.2.1
  have n0 : zNm (uSk (μs nm)) M ((zpop [] st).map fun t => (t, l)) := h
  obtain ⟨M1, t1, f1, n1⟩ := zj_pl1 (N := N) (w := w) (b := b) (k := 3) (ks := []) (hE.m9 zM9.rf) (by decide) n0
  have g1 : ∀ (C : zC) (r : zv_X), mX9_push N (b + 75) (Int32.ofNat nm) 3 (zc w b C M r) = some (zc w b C M1 r) := t1
  refine ⟨M1, (zM9.tr zM9.rf f1), n1, fun C r => ?_⟩
  show mX9_judge_194 N (b + 75) (Int32.ofNat nm) P 1 L X Y _ = mX9_judge_570 N (b + 75) (Int32.ofNat nm) P L 1 _
  simp (decide := true) only [mX9_judge_194, mX9_judge_317, mX9_judgeLoad, mX9_judgeLoad_0, mX9_judgeLoad_34, mX9_judgeLoad_29, zqk_75, g1, Int32.reduceLT, Int32.reduceLE, Int32.reduceAdd, Int32.reduceSub, Int32.reduceMul, Int32.reduceDiv, Int32.reduceMod, ↓reduceIte, Option.bind_some]
theorem zj_o2 (hE : zEm K F ρ α π C0 M nm μs) (h : zNm (uSk (μs nm)) M (some (st, l))) : zOp w b N nm (K, F, ρ, μs) (μs nm) M st l 2 x y P L X Y := by
  have h12 : uSk (μs nm) ≤ 12 := hE.ok.2.2.2.2.2.2.2.2.2.1
  have n0 : zNm (uSk (μs nm)) M ((zpop [] st).map fun t => (t, l)) := h
  obtain ⟨M1, t1, f1, n1⟩ := zj_pl1 (N := N) (w := w) (b := b) (k := 1) (ks := []) (hE.m9 zM9.rf) (by decide) n0
  have g1 : ∀ (C : zC) (r : zv_X), mX9_push N (b + 75) (Int32.ofNat nm) 1 (zc w b C M r) = some (zc w b C M1 r) := t1
  refine ⟨M1, (zM9.tr zM9.rf f1), n1, fun C r => ?_⟩
  show mX9_judge_194 N (b + 75) (Int32.ofNat nm) P 2 L X Y _ = mX9_judge_570 N (b + 75) (Int32.ofNat nm) P L 1 _
  simp (decide := true) only [mX9_judge_194, mX9_judge_317, mX9_judgeLoad, mX9_judgeLoad_0, mX9_judgeLoad_34, mX9_judgeLoad_29, zqk_75, g1, Int32.reduceLT, Int32.reduceLE, Int32.reduceAdd, Int32.reduceSub, Int32.reduceMul, Int32.reduceDiv, Int32.reduceMod, ↓reduceIte, Option.bind_some]
theorem zj_o3 (hE : zEm K F ρ α π C0 M nm μs) (h : zNm (uSk (μs nm)) M (some (st, l))) : zOp w b N nm (K, F, ρ, μs) (μs nm) M st l 3 x y P L X Y := by
  have h12 : uSk (μs nm) ≤ 12 := hE.ok.2.2.2.2.2.2.2.2.2.1
  have n0 : zNm (uSk (μs nm)) M ((zpop [] st).map fun t => (t, l)) := h
  obtain ⟨M1, t1, f1, n1⟩ := zj_pl1 (N := N) (w := w) (b := b) (k := 1) (ks := []) (hE.m9 zM9.rf) (by decide) n0
  have g1 : ∀ (C : zC) (r : zv_X), mX9_push N (b + 75) (Int32.ofNat nm) 1 (zc w b C M r) = some (zc w b C M1 r) := t1
  refine ⟨M1, (zM9.tr zM9.rf f1), n1, fun C r => ?_⟩
  show mX9_judge_194 N (b + 75) (Int32.ofNat nm) P 3 L X Y _ = mX9_judge_570 N (b + 75) (Int32.ofNat nm) P L 1 _
  simp (decide := true) only [mX9_judge_194, mX9_judge_317, mX9_judgeLoad, mX9_judgeLoad_0, mX9_judgeLoad_34, mX9_judgeLoad_29, zqk_75, g1, Int32.reduceLT, Int32.reduceLE, Int32.reduceAdd, Int32.reduceSub, Int32.reduceMul, Int32.reduceDiv, Int32.reduceMod, ↓reduceIte, Option.bind_some]
theorem zj_o4 (hE : zEm K F ρ α π C0 M nm μs) (h : zNm (uSk (μs nm)) M (some (st, l))) : zOp w b N nm (K, F, ρ, μs) (μs nm) M st l 4 x y P L X Y := by
  have h12 : uSk (μs nm) ≤ 12 := hE.ok.2.2.2.2.2.2.2.2.2.1
  have n0 : zNm (uSk (μs nm)) M ((zpop [] st).map fun t => (t, l)) := h
  obtain ⟨M1, t1, f1, n1⟩ := zj_pl1 (N := N) (w := w) (b := b) (k := 1) (ks := []) (hE.m9 zM9.rf) (by decide) n0
  have g1 : ∀ (C : zC) (r : zv_X), mX9_push N (b + 75) (Int32.ofNat nm) 1 (zc w b C M r) = some (zc w b C M1 r) := t1
  refine ⟨M1, (zM9.tr zM9.rf f1), n1, fun C r => ?_⟩
  show mX9_judge_194 N (b + 75) (Int32.ofNat nm) P 4 L X Y _ = mX9_judge_570 N (b + 75) (Int32.ofNat nm) P L 1 _
  simp (decide := true) only [mX9_judge_194, mX9_judge_317, mX9_judgeLoad, mX9_judgeLoad_0, mX9_judgeLoad_34, mX9_judgeLoad_29, zqk_75, g1, Int32.reduceLT, Int32.reduceLE, Int32.reduceAdd, Int32.reduceSub, Int32.reduceMul, Int32.reduceDiv, Int32.reduceMod, ↓reduceIte, Option.bind_some]
theorem zj_o5 (hE : zEm K F ρ α π C0 M nm μs) (h : zNm (uSk (μs nm)) M (some (st, l))) : zOp w b N nm (K, F, ρ, μs) (μs nm) M st l 5 x y P L X Y := by
  have h12 : uSk (μs nm) ≤ 12 := hE.ok.2.2.2.2.2.2.2.2.2.1
  have n0 : zNm (uSk (μs nm)) M ((zpop [] st).map fun t => (t, l)) := h
  obtain ⟨M1, t1, f1, n1⟩ := zj_pl1 (N := N) (w := w) (b := b) (k := 1) (ks := []) (hE.m9 zM9.rf) (by decide) n0
  have g1 : ∀ (C : zC) (r : zv_X), mX9_push N (b + 75) (Int32.ofNat nm) 1 (zc w b C M r) = some (zc w b C M1 r) := t1
  refine ⟨M1, (zM9.tr zM9.rf f1), n1, fun C r => ?_⟩
  show mX9_judge_194 N (b + 75) (Int32.ofNat nm) P 5 L X Y _ = mX9_judge_570 N (b + 75) (Int32.ofNat nm) P L 1 _
  simp (decide := true) only [mX9_judge_194, mX9_judge_317, mX9_judgeLoad, mX9_judgeLoad_0, mX9_judgeLoad_34, mX9_judgeLoad_29, zqk_75, g1, Int32.reduceLT, Int32.reduceLE, Int32.reduceAdd, Int32.reduceSub, Int32.reduceMul, Int32.reduceDiv, Int32.reduceMod, ↓reduceIte, Option.bind_some]
theorem zj_o6 (hE : zEm K F ρ α π C0 M nm μs) (h : zNm (uSk (μs nm)) M (some (st, l))) : zOp w b N nm (K, F, ρ, μs) (μs nm) M st l 6 x y P L X Y := by
  have h12 : uSk (μs nm) ≤ 12 := hE.ok.2.2.2.2.2.2.2.2.2.1
  have n0 : zNm (uSk (μs nm)) M ((zpop [] st).map fun t => (t, l)) := h
  obtain ⟨M1, t1, f1, n1⟩ := zj_pl1 (N := N) (w := w) (b := b) (k := 1) (ks := []) (hE.m9 zM9.rf) (by decide) n0
  have g1 : ∀ (C : zC) (r : zv_X), mX9_push N (b + 75) (Int32.ofNat nm) 1 (zc w b C M r) = some (zc w b C M1 r) := t1
  refine ⟨M1, (zM9.tr zM9.rf f1), n1, fun C r => ?_⟩
  show mX9_judge_194 N (b + 75) (Int32.ofNat nm) P 6 L X Y _ = mX9_judge_570 N (b + 75) (Int32.ofNat nm) P L 1 _
  simp (decide := true) only [mX9_judge_194, mX9_judge_317, mX9_judgeLoad, mX9_judgeLoad_0, mX9_judgeLoad_34, mX9_judgeLoad_29, zqk_75, g1, Int32.reduceLT, Int32.reduceLE, Int32.reduceAdd, Int32.reduceSub, Int32.reduceMul, Int32.reduceDiv, Int32.reduceMod, ↓reduceIte, Option.bind_some]
theorem zj_o7 (hE : zEm K F ρ α π C0 M nm μs) (h : zNm (uSk (μs nm)) M (some (st, l))) : zOp w b N nm (K, F, ρ, μs) (μs nm) M st l 7 x y P L X Y := by
  have h12 : uSk (μs nm) ≤ 12 := hE.ok.2.2.2.2.2.2.2.2.2.1
  have n0 : zNm (uSk (μs nm)) M ((zpop [] st).map fun t => (t, l)) := h
  obtain ⟨M1, t1, f1, n1⟩ := zj_pl1 (N := N) (w := w) (b := b) (k := 1) (ks := []) (hE.m9 zM9.rf) (by decide) n0
  have g1 : ∀ (C : zC) (r : zv_X), mX9_push N (b + 75) (Int32.ofNat nm) 1 (zc w b C M r) = some (zc w b C M1 r) := t1
  refine ⟨M1, (zM9.tr zM9.rf f1), n1, fun C r => ?_⟩
  show mX9_judge_194 N (b + 75) (Int32.ofNat nm) P 7 L X Y _ = mX9_judge_570 N (b + 75) (Int32.ofNat nm) P L 1 _
  simp (decide := true) only [mX9_judge_194, mX9_judge_317, mX9_judgeLoad, mX9_judgeLoad_0, mX9_judgeLoad_34, mX9_judgeLoad_29, zqk_75, g1, Int32.reduceLT, Int32.reduceLE, Int32.reduceAdd, Int32.reduceSub, Int32.reduceMul, Int32.reduceDiv, Int32.reduceMod, ↓reduceIte, Option.bind_some]
theorem zj_o8 (hE : zEm K F ρ α π C0 M nm μs) (h : zNm (uSk (μs nm)) M (some (st, l))) : zOp w b N nm (K, F, ρ, μs) (μs nm) M st l 8 x y P L X Y := by
  have h12 : uSk (μs nm) ≤ 12 := hE.ok.2.2.2.2.2.2.2.2.2.1
  have n0 : zNm (uSk (μs nm)) M ((zpop [] st).map fun t => (t, l)) := h
  obtain ⟨M1, t1, f1, n1⟩ := zj_pl1 (N := N) (w := w) (b := b) (k := 1) (ks := []) (hE.m9 zM9.rf) (by decide) n0
  have g1 : ∀ (C : zC) (r : zv_X), mX9_push N (b + 75) (Int32.ofNat nm) 1 (zc w b C M r) = some (zc w b C M1 r) := t1
  refine ⟨M1, (zM9.tr zM9.rf f1), n1, fun C r => ?_⟩
  show mX9_judge_194 N (b + 75) (Int32.ofNat nm) P 8 L X Y _ = mX9_judge_570 N (b + 75) (Int32.ofNat nm) P L 1 _
  simp (decide := true) only [mX9_judge_194, mX9_judge_317, mX9_judgeLoad, mX9_judgeLoad_0, mX9_judgeLoad_34, mX9_judgeLoad_29, zqk_75, g1, Int32.reduceLT, Int32.reduceLE, Int32.reduceAdd, Int32.reduceSub, Int32.reduceMul, Int32.reduceDiv, Int32.reduceMod, ↓reduceIte, Option.bind_some]
theorem zj_o9 (hE : zEm K F ρ α π C0 M nm μs) (h : zNm (uSk (μs nm)) M (some (st, l))) : zOp w b N nm (K, F, ρ, μs) (μs nm) M st l 9 x y P L X Y := by
  have h12 : uSk (μs nm) ≤ 12 := hE.ok.2.2.2.2.2.2.2.2.2.1
  have n0 : zNm (uSk (μs nm)) M ((zpop [] st).map fun t => (t, l)) := h
  obtain ⟨M1, t1, f1, n1⟩ := zj_pl1 (N := N) (w := w) (b := b) (k := 2) (ks := []) (hE.m9 zM9.rf) (by decide) n0
  have g1 : ∀ (C : zC) (r : zv_X), mX9_push N (b + 75) (Int32.ofNat nm) 2 (zc w b C M r) = some (zc w b C M1 r) := t1
  refine ⟨M1, (zM9.tr zM9.rf f1), n1, fun C r => ?_⟩
  show mX9_judge_194 N (b + 75) (Int32.ofNat nm) P 9 L X Y _ = mX9_judge_570 N (b + 75) (Int32.ofNat nm) P L 1 _
  simp (decide := true) only [mX9_judge_194, mX9_judge_317, mX9_judgeLoad, mX9_judgeLoad_0, mX9_judgeLoad_34, mX9_judgeLoad_29, zqk_75, g1, Int32.reduceLT, Int32.reduceLE, Int32.reduceAdd, Int32.reduceSub, Int32.reduceMul, Int32.reduceDiv, Int32.reduceMod, ↓reduceIte, Option.bind_some]
theorem zj_o10 (hE : zEm K F ρ α π C0 M nm μs) (h : zNm (uSk (μs nm)) M (some (st, l))) : zOp w b N nm (K, F, ρ, μs) (μs nm) M st l 10 x y P L X Y := by
  have h12 : uSk (μs nm) ≤ 12 := hE.ok.2.2.2.2.2.2.2.2.2.1
  have n0 : zNm (uSk (μs nm)) M ((zpop [] st).map fun t => (t, l)) := h
  obtain ⟨M1, t1, f1, n1⟩ := zj_pl1 (N := N) (w := w) (b := b) (k := 2) (ks := []) (hE.m9 zM9.rf) (by decide) n0
  have g1 : ∀ (C : zC) (r : zv_X), mX9_push N (b + 75) (Int32.ofNat nm) 2 (zc w b C M r) = some (zc w b C M1 r) := t1
  refine ⟨M1, (zM9.tr zM9.rf f1), n1, fun C r => ?_⟩
  show mX9_judge_194 N (b + 75) (Int32.ofNat nm) P 10 L X Y _ = mX9_judge_570 N (b + 75) (Int32.ofNat nm) P L 1 _
  simp (decide := true) only [mX9_judge_194, mX9_judge_317, mX9_judgeLoad, mX9_judgeLoad_0, mX9_judgeLoad_34, mX9_judgeLoad_29, zqk_75, g1, Int32.reduceLT, Int32.reduceLE, Int32.reduceAdd, Int32.reduceSub, Int32.reduceMul, Int32.reduceDiv, Int32.reduceMod, ↓reduceIte, Option.bind_some]
theorem zj_o16 (hE : zEm K F ρ α π C0 M nm μs) (h : zNm (uSk (μs nm)) M (some (st, l))) : zOp w b N nm (K, F, ρ, μs) (μs nm) M st l 16 x y P L X Y := by
  have h12 : uSk (μs nm) ≤ 12 := hE.ok.2.2.2.2.2.2.2.2.2.1
  have n0 : zNm (uSk (μs nm)) M ((zpop [] st).map fun t => (t, l)) := h
  obtain ⟨M1, t1, f1, n1⟩ := zj_pl1 (N := N) (w := w) (b := b) (k := 1) (ks := []) (hE.m9 zM9.rf) (by decide) n0
  have g1 : ∀ (C : zC) (r : zv_X), mX9_push N (b + 75) (Int32.ofNat nm) 1 (zc w b C M r) = some (zc w b C M1 r) := t1
  refine ⟨M1, (zM9.tr zM9.rf f1), n1, fun C r => ?_⟩
  show mX9_judge_194 N (b + 75) (Int32.ofNat nm) P 16 L X Y _ = mX9_judge_570 N (b + 75) (Int32.ofNat nm) P L 1 _
  simp (decide := true) only [mX9_judge_194, mX9_judge_317, mX9_judgeLoad, mX9_judgeLoad_0, mX9_judgeLoad_34, mX9_judgeLoad_29, zqk_75, g1, Int32.reduceLT, Int32.reduceLE, Int32.reduceAdd, Int32.reduceSub, Int32.reduceMul, Int32.reduceDiv, Int32.reduceMod, ↓reduceIte, Option.bind_some]
theorem zj_o17 (hE : zEm K F ρ α π C0 M nm μs) (h : zNm (uSk (μs nm)) M (some (st, l))) : zOp w b N nm (K, F, ρ, μs) (μs nm) M st l 17 x y P L X Y := by
  have h12 : uSk (μs nm) ≤ 12 := hE.ok.2.2.2.2.2.2.2.2.2.1
  have n0 : zNm (uSk (μs nm)) M ((zpop [] st).map fun t => (t, l)) := h
  obtain ⟨M1, t1, f1, n1⟩ := zj_pl1 (N := N) (w := w) (b := b) (k := 1) (ks := []) (hE.m9 zM9.rf) (by decide) n0
  have g1 : ∀ (C : zC) (r : zv_X), mX9_push N (b + 75) (Int32.ofNat nm) 1 (zc w b C M r) = some (zc w b C M1 r) := t1
  refine ⟨M1, (zM9.tr zM9.rf f1), n1, fun C r => ?_⟩
  show mX9_judge_194 N (b + 75) (Int32.ofNat nm) P 17 L X Y _ = mX9_judge_570 N (b + 75) (Int32.ofNat nm) P L 1 _
  simp (decide := true) only [mX9_judge_194, mX9_judge_317, mX9_judgeLoad, mX9_judgeLoad_0, mX9_judgeLoad_34, mX9_judgeLoad_29, zqk_75, g1, Int32.reduceLT, Int32.reduceLE, Int32.reduceAdd, Int32.reduceSub, Int32.reduceMul, Int32.reduceDiv, Int32.reduceMod, ↓reduceIte, Option.bind_some]
theorem zj_o46 (hE : zEm K F ρ α π C0 M nm μs) (h : zNm (uSk (μs nm)) M (some (st, l))) : zOp w b N nm (K, F, ρ, μs) (μs nm) M st l 46 x y P L X Y := by
  have h12 : uSk (μs nm) ≤ 12 := hE.ok.2.2.2.2.2.2.2.2.2.1
  have n0 : zNm (uSk (μs nm)) M ((zpop [] st).map fun t => (t, l)) := h
  obtain ⟨M1, t1, f1, n1⟩ := zj_pl (N := N) (w := w) (b := b) (k := 1) (ks := []) (by decide) h12 n0
  have g1 : ∀ (C : zC) (r : zv_X), mX9_pop N (b + 75) 1 (zc w b C M r) = some (zc w b C M1 r) := t1
  obtain ⟨M2, t2, f2, n2⟩ := zj_pl (N := N) (w := w) (b := b) (k := 3) (ks := [1]) (by decide) h12 n1
  have g2 : ∀ (C : zC) (r : zv_X), mX9_pop N (b + 75) 3 (zc w b C M1 r) = some (zc w b C M2 r) := t2
  obtain ⟨M3, t3, f3, n3⟩ := zj_pl1 (N := N) (w := w) (b := b) (k := 1) (ks := [1, 3]) (hE.m9 (zM9.tr (zM9.tr zM9.rf f1) f2)) (by decide) n2
  have g3 : ∀ (C : zC) (r : zv_X), mX9_push N (b + 75) (Int32.ofNat nm) 1 (zc w b C M2 r) = some (zc w b C M3 r) := t3
  refine ⟨M3, (zM9.tr (zM9.tr (zM9.tr zM9.rf f1) f2) f3), n3, fun C r => ?_⟩
  show mX9_judge_194 N (b + 75) (Int32.ofNat nm) P 46 L X Y _ = mX9_judge_570 N (b + 75) (Int32.ofNat nm) P L 1 _
  simp (decide := true) only [mX9_judge_194, mX9_judge_317, qX9_arrayKind, pX9_arrayKind, pX9_arrayKind_0, pX9_arrayKind_17, pX9_arrayKind_37, Option.map_some, zqk_75, g1, g2, g3, Int32.reduceLT, Int32.reduceLE, Int32.reduceAdd, Int32.reduceSub, Int32.reduceMul, Int32.reduceDiv, Int32.reduceMod, ↓reduceIte, Option.bind_some]
theorem zj_o47 (hE : zEm K F ρ α π C0 M nm μs) (h : zNm (uSk (μs nm)) M (some (st, l))) : zOp w b N nm (K, F, ρ, μs) (μs nm) M st l 47 x y P L X Y := by
  have h12 : uSk (μs nm) ≤ 12 := hE.ok.2.2.2.2.2.2.2.2.2.1
  have n0 : zNm (uSk (μs nm)) M ((zpop [] st).map fun t => (t, l)) := h
  obtain ⟨M1, t1, f1, n1⟩ := zj_pl (N := N) (w := w) (b := b) (k := 1) (ks := []) (by decide) h12 n0
  have g1 : ∀ (C : zC) (r : zv_X), mX9_pop N (b + 75) 1 (zc w b C M r) = some (zc w b C M1 r) := t1
  obtain ⟨M2, t2, f2, n2⟩ := zj_pl (N := N) (w := w) (b := b) (k := 3) (ks := [1]) (by decide) h12 n1
  have g2 : ∀ (C : zC) (r : zv_X), mX9_pop N (b + 75) 3 (zc w b C M1 r) = some (zc w b C M2 r) := t2
  obtain ⟨M3, t3, f3, n3⟩ := zj_pl1 (N := N) (w := w) (b := b) (k := 2) (ks := [1, 3]) (hE.m9 (zM9.tr (zM9.tr zM9.rf f1) f2)) (by decide) n2
  have g3 : ∀ (C : zC) (r : zv_X), mX9_push N (b + 75) (Int32.ofNat nm) 2 (zc w b C M2 r) = some (zc w b C M3 r) := t3
  refine ⟨M3, (zM9.tr (zM9.tr (zM9.tr zM9.rf f1) f2) f3), n3, fun C r => ?_⟩
  show mX9_judge_194 N (b + 75) (Int32.ofNat nm) P 47 L X Y _ = mX9_judge_570 N (b + 75) (Int32.ofNat nm) P L 1 _
  simp (decide := true) only [mX9_judge_194, mX9_judge_317, qX9_arrayKind, pX9_arrayKind, pX9_arrayKind_0, pX9_arrayKind_17, pX9_arrayKind_37, Option.map_some, zqk_75, g1, g2, g3, Int32.reduceLT, Int32.reduceLE, Int32.reduceAdd, Int32.reduceSub, Int32.reduceMul, Int32.reduceDiv, Int32.reduceMod, ↓reduceIte, Option.bind_some]
theorem zj_o50 (hE : zEm K F ρ α π C0 M nm μs) (h : zNm (uSk (μs nm)) M (some (st, l))) : zOp w b N nm (K, F, ρ, μs) (μs nm) M st l 50 x y P L X Y := by
  have h12 : uSk (μs nm) ≤ 12 := hE.ok.2.2.2.2.2.2.2.2.2.1
  have n0 : zNm (uSk (μs nm)) M ((zpop [] st).map fun t => (t, l)) := h
  obtain ⟨M1, t1, f1, n1⟩ := zj_pl (N := N) (w := w) (b := b) (k := 1) (ks := []) (by decide) h12 n0
  have g1 : ∀ (C : zC) (r : zv_X), mX9_pop N (b + 75) 1 (zc w b C M r) = some (zc w b C M1 r) := t1
  obtain ⟨M2, t2, f2, n2⟩ := zj_pl (N := N) (w := w) (b := b) (k := 3) (ks := [1]) (by decide) h12 n1
  have g2 : ∀ (C : zC) (r : zv_X), mX9_pop N (b + 75) 3 (zc w b C M1 r) = some (zc w b C M2 r) := t2
  obtain ⟨M3, t3, f3, n3⟩ := zj_pl1 (N := N) (w := w) (b := b) (k := 3) (ks := [1, 3]) (hE.m9 (zM9.tr (zM9.tr zM9.rf f1) f2)) (by decide) n2
  have g3 : ∀ (C : zC) (r : zv_X), mX9_push N (b + 75) (Int32.ofNat nm) 3 (zc w b C M2 r) = some (zc w b C M3 r) := t3
  refine ⟨M3, (zM9.tr (zM9.tr (zM9.tr zM9.rf f1) f2) f3), n3, fun C r => ?_⟩
  show mX9_judge_194 N (b + 75) (Int32.ofNat nm) P 50 L X Y _ = mX9_judge_570 N (b + 75) (Int32.ofNat nm) P L 1 _
  simp (decide := true) only [mX9_judge_194, mX9_judge_317, qX9_arrayKind, pX9_arrayKind, pX9_arrayKind_0, pX9_arrayKind_17, pX9_arrayKind_37, Option.map_some, zqk_75, g1, g2, g3, Int32.reduceLT, Int32.reduceLE, Int32.reduceAdd, Int32.reduceSub, Int32.reduceMul, Int32.reduceDiv, Int32.reduceMod, ↓reduceIte, Option.bind_some]
theorem zj_o51 (hE : zEm K F ρ α π C0 M nm μs) (h : zNm (uSk (μs nm)) M (some (st, l))) : zOp w b N nm (K, F, ρ, μs) (μs nm) M st l 51 x y P L X Y := by
  have h12 : uSk (μs nm) ≤ 12 := hE.ok.2.2.2.2.2.2.2.2.2.1
  have n0 : zNm (uSk (μs nm)) M ((zpop [] st).map fun t => (t, l)) := h
  obtain ⟨M1, t1, f1, n1⟩ := zj_pl (N := N) (w := w) (b := b) (k := 1) (ks := []) (by decide) h12 n0
  have g1 : ∀ (C : zC) (r : zv_X), mX9_pop N (b + 75) 1 (zc w b C M r) = some (zc w b C M1 r) := t1
  obtain ⟨M2, t2, f2, n2⟩ := zj_pl (N := N) (w := w) (b := b) (k := 3) (ks := [1]) (by decide) h12 n1
  have g2 : ∀ (C : zC) (r : zv_X), mX9_pop N (b + 75) 3 (zc w b C M1 r) = some (zc w b C M2 r) := t2
  obtain ⟨M3, t3, f3, n3⟩ := zj_pl1 (N := N) (w := w) (b := b) (k := 1) (ks := [1, 3]) (hE.m9 (zM9.tr (zM9.tr zM9.rf f1) f2)) (by decide) n2
  have g3 : ∀ (C : zC) (r : zv_X), mX9_push N (b + 75) (Int32.ofNat nm) 1 (zc w b C M2 r) = some (zc w b C M3 r) := t3
  refine ⟨M3, (zM9.tr (zM9.tr (zM9.tr zM9.rf f1) f2) f3), n3, fun C r => ?_⟩
  show mX9_judge_194 N (b + 75) (Int32.ofNat nm) P 51 L X Y _ = mX9_judge_570 N (b + 75) (Int32.ofNat nm) P L 1 _
  simp (decide := true) only [mX9_judge_194, mX9_judge_317, qX9_arrayKind, pX9_arrayKind, pX9_arrayKind_0, pX9_arrayKind_17, pX9_arrayKind_37, Option.map_some, zqk_75, g1, g2, g3, Int32.reduceLT, Int32.reduceLE, Int32.reduceAdd, Int32.reduceSub, Int32.reduceMul, Int32.reduceDiv, Int32.reduceMod, ↓reduceIte, Option.bind_some]
theorem zj_o52 (hE : zEm K F ρ α π C0 M nm μs) (h : zNm (uSk (μs nm)) M (some (st, l))) : zOp w b N nm (K, F, ρ, μs) (μs nm) M st l 52 x y P L X Y := by
  have h12 : uSk (μs nm) ≤ 12 := hE.ok.2.2.2.2.2.2.2.2.2.1
  have n0 : zNm (uSk (μs nm)) M ((zpop [] st).map fun t => (t, l)) := h
  obtain ⟨M1, t1, f1, n1⟩ := zj_pl (N := N) (w := w) (b := b) (k := 1) (ks := []) (by decide) h12 n0
  have g1 : ∀ (C : zC) (r : zv_X), mX9_pop N (b + 75) 1 (zc w b C M r) = some (zc w b C M1 r) := t1
  obtain ⟨M2, t2, f2, n2⟩ := zj_pl (N := N) (w := w) (b := b) (k := 3) (ks := [1]) (by decide) h12 n1
  have g2 : ∀ (C : zC) (r : zv_X), mX9_pop N (b + 75) 3 (zc w b C M1 r) = some (zc w b C M2 r) := t2
  obtain ⟨M3, t3, f3, n3⟩ := zj_pl1 (N := N) (w := w) (b := b) (k := 1) (ks := [1, 3]) (hE.m9 (zM9.tr (zM9.tr zM9.rf f1) f2)) (by decide) n2
  have g3 : ∀ (C : zC) (r : zv_X), mX9_push N (b + 75) (Int32.ofNat nm) 1 (zc w b C M2 r) = some (zc w b C M3 r) := t3
  refine ⟨M3, (zM9.tr (zM9.tr (zM9.tr zM9.rf f1) f2) f3), n3, fun C r => ?_⟩
  show mX9_judge_194 N (b + 75) (Int32.ofNat nm) P 52 L X Y _ = mX9_judge_570 N (b + 75) (Int32.ofNat nm) P L 1 _
  simp (decide := true) only [mX9_judge_194, mX9_judge_317, qX9_arrayKind, pX9_arrayKind, pX9_arrayKind_0, pX9_arrayKind_17, pX9_arrayKind_37, Option.map_some, zqk_75, g1, g2, g3, Int32.reduceLT, Int32.reduceLE, Int32.reduceAdd, Int32.reduceSub, Int32.reduceMul, Int32.reduceDiv, Int32.reduceMod, ↓reduceIte, Option.bind_some]
theorem zj_o53 (hE : zEm K F ρ α π C0 M nm μs) (h : zNm (uSk (μs nm)) M (some (st, l))) : zOp w b N nm (K, F, ρ, μs) (μs nm) M st l 53 x y P L X Y := by
  have h12 : uSk (μs nm) ≤ 12 := hE.ok.2.2.2.2.2.2.2.2.2.1
  have n0 : zNm (uSk (μs nm)) M ((zpop [] st).map fun t => (t, l)) := h
  obtain ⟨M1, t1, f1, n1⟩ := zj_pl (N := N) (w := w) (b := b) (k := 1) (ks := []) (by decide) h12 n0
  have g1 : ∀ (C : zC) (r : zv_X), mX9_pop N (b + 75) 1 (zc w b C M r) = some (zc w b C M1 r) := t1
  obtain ⟨M2, t2, f2, n2⟩ := zj_pl (N := N) (w := w) (b := b) (k := 3) (ks := [1]) (by decide) h12 n1
  have g2 : ∀ (C : zC) (r : zv_X), mX9_pop N (b + 75) 3 (zc w b C M1 r) = some (zc w b C M2 r) := t2
  obtain ⟨M3, t3, f3, n3⟩ := zj_pl1 (N := N) (w := w) (b := b) (k := 1) (ks := [1, 3]) (hE.m9 (zM9.tr (zM9.tr zM9.rf f1) f2)) (by decide) n2
  have g3 : ∀ (C : zC) (r : zv_X), mX9_push N (b + 75) (Int32.ofNat nm) 1 (zc w b C M2 r) = some (zc w b C M3 r) := t3
  refine ⟨M3, (zM9.tr (zM9.tr (zM9.tr zM9.rf f1) f2) f3), n3, fun C r => ?_⟩
  show mX9_judge_194 N (b + 75) (Int32.ofNat nm) P 53 L X Y _ = mX9_judge_570 N (b + 75) (Int32.ofNat nm) P L 1 _
  simp (decide := true) only [mX9_judge_194, mX9_judge_317, qX9_arrayKind, pX9_arrayKind, pX9_arrayKind_0, pX9_arrayKind_17, pX9_arrayKind_37, Option.map_some, zqk_75, g1, g2, g3, Int32.reduceLT, Int32.reduceLE, Int32.reduceAdd, Int32.reduceSub, Int32.reduceMul, Int32.reduceDiv, Int32.reduceMod, ↓reduceIte, Option.bind_some]
theorem zj_o79 (hE : zEm K F ρ α π C0 M nm μs) (h : zNm (uSk (μs nm)) M (some (st, l))) : zOp w b N nm (K, F, ρ, μs) (μs nm) M st l 79 x y P L X Y := by
  have h12 : uSk (μs nm) ≤ 12 := hE.ok.2.2.2.2.2.2.2.2.2.1
  have n0 : zNm (uSk (μs nm)) M ((zpop [] st).map fun t => (t, l)) := h
  obtain ⟨M1, t1, f1, n1⟩ := zj_pl (N := N) (w := w) (b := b) (k := 1) (ks := []) (by decide) h12 n0
  have g1 : ∀ (C : zC) (r : zv_X), mX9_pop N (b + 75) 1 (zc w b C M r) = some (zc w b C M1 r) := t1
  obtain ⟨M2, t2, f2, n2⟩ := zj_pl (N := N) (w := w) (b := b) (k := 1) (ks := [1]) (by decide) h12 n1
  have g2 : ∀ (C : zC) (r : zv_X), mX9_pop N (b + 75) 1 (zc w b C M1 r) = some (zc w b C M2 r) := t2
  obtain ⟨M3, t3, f3, n3⟩ := zj_pl (N := N) (w := w) (b := b) (k := 3) (ks := [1, 1]) (by decide) h12 n2
  have g3 : ∀ (C : zC) (r : zv_X), mX9_pop N (b + 75) 3 (zc w b C M2 r) = some (zc w b C M3 r) := t3
  refine ⟨M3, (zM9.tr (zM9.tr (zM9.tr zM9.rf f1) f2) f3), (zj_end0 h n3), fun C r => ?_⟩
  show mX9_judge_194 N (b + 75) (Int32.ofNat nm) P 79 L X Y _ = mX9_judge_570 N (b + 75) (Int32.ofNat nm) P L 1 _
  simp (decide := true) only [mX9_judge_194, mX9_judge_317, qX9_arrayKind, pX9_arrayKind, pX9_arrayKind_0, pX9_arrayKind_17, pX9_arrayKind_37, Option.map_some, zqk_75, g1, g2, g3, Int32.reduceLT, Int32.reduceLE, Int32.reduceAdd, Int32.reduceSub, Int32.reduceMul, Int32.reduceDiv, Int32.reduceMod, ↓reduceIte, Option.bind_some]
theorem zj_o80 (hE : zEm K F ρ α π C0 M nm μs) (h : zNm (uSk (μs nm)) M (some (st, l))) : zOp w b N nm (K, F, ρ, μs) (μs nm) M st l 80 x y P L X Y := by
  have h12 : uSk (μs nm) ≤ 12 := hE.ok.2.2.2.2.2.2.2.2.2.1
  have n0 : zNm (uSk (μs nm)) M ((zpop [] st).map fun t => (t, l)) := h
  obtain ⟨M1, t1, f1, n1⟩ := zj_pl (N := N) (w := w) (b := b) (k := 2) (ks := []) (by decide) h12 n0
  have g1 : ∀ (C : zC) (r : zv_X), mX9_pop N (b + 75) 2 (zc w b C M r) = some (zc w b C M1 r) := t1
  obtain ⟨M2, t2, f2, n2⟩ := zj_pl (N := N) (w := w) (b := b) (k := 1) (ks := [2]) (by decide) h12 n1
  have g2 : ∀ (C : zC) (r : zv_X), mX9_pop N (b + 75) 1 (zc w b C M1 r) = some (zc w b C M2 r) := t2
  obtain ⟨M3, t3, f3, n3⟩ := zj_pl (N := N) (w := w) (b := b) (k := 3) (ks := [2, 1]) (by decide) h12 n2
  have g3 : ∀ (C : zC) (r : zv_X), mX9_pop N (b + 75) 3 (zc w b C M2 r) = some (zc w b C M3 r) := t3
  refine ⟨M3, (zM9.tr (zM9.tr (zM9.tr zM9.rf f1) f2) f3), (zj_end0 h n3), fun C r => ?_⟩
  show mX9_judge_194 N (b + 75) (Int32.ofNat nm) P 80 L X Y _ = mX9_judge_570 N (b + 75) (Int32.ofNat nm) P L 1 _
  simp (decide := true) only [mX9_judge_194, mX9_judge_317, qX9_arrayKind, pX9_arrayKind, pX9_arrayKind_0, pX9_arrayKind_17, pX9_arrayKind_37, Option.map_some, zqk_75, g1, g2, g3, Int32.reduceLT, Int32.reduceLE, Int32.reduceAdd, Int32.reduceSub, Int32.reduceMul, Int32.reduceDiv, Int32.reduceMod, ↓reduceIte, Option.bind_some]
theorem zj_o83 (hE : zEm K F ρ α π C0 M nm μs) (h : zNm (uSk (μs nm)) M (some (st, l))) : zOp w b N nm (K, F, ρ, μs) (μs nm) M st l 83 x y P L X Y := by
  have h12 : uSk (μs nm) ≤ 12 := hE.ok.2.2.2.2.2.2.2.2.2.1
  have n0 : zNm (uSk (μs nm)) M ((zpop [] st).map fun t => (t, l)) := h
  obtain ⟨M1, t1, f1, n1⟩ := zj_pl (N := N) (w := w) (b := b) (k := 3) (ks := []) (by decide) h12 n0
  have g1 : ∀ (C : zC) (r : zv_X), mX9_pop N (b + 75) 3 (zc w b C M r) = some (zc w b C M1 r) := t1
  obtain ⟨M2, t2, f2, n2⟩ := zj_pl (N := N) (w := w) (b := b) (k := 1) (ks := [3]) (by decide) h12 n1
  have g2 : ∀ (C : zC) (r : zv_X), mX9_pop N (b + 75) 1 (zc w b C M1 r) = some (zc w b C M2 r) := t2
  obtain ⟨M3, t3, f3, n3⟩ := zj_pl (N := N) (w := w) (b := b) (k := 3) (ks := [3, 1]) (by decide) h12 n2
  have g3 : ∀ (C : zC) (r : zv_X), mX9_pop N (b + 75) 3 (zc w b C M2 r) = some (zc w b C M3 r) := t3
  refine ⟨M3, (zM9.tr (zM9.tr (zM9.tr zM9.rf f1) f2) f3), (zj_end0 h n3), fun C r => ?_⟩
  show mX9_judge_194 N (b + 75) (Int32.ofNat nm) P 83 L X Y _ = mX9_judge_570 N (b + 75) (Int32.ofNat nm) P L 1 _
  simp (decide := true) only [mX9_judge_194, mX9_judge_317, qX9_arrayKind, pX9_arrayKind, pX9_arrayKind_0, pX9_arrayKind_17, pX9_arrayKind_37, Option.map_some, zqk_75, g1, g2, g3, Int32.reduceLT, Int32.reduceLE, Int32.reduceAdd, Int32.reduceSub, Int32.reduceMul, Int32.reduceDiv, Int32.reduceMod, ↓reduceIte, Option.bind_some]
theorem zj_o84 (hE : zEm K F ρ α π C0 M nm μs) (h : zNm (uSk (μs nm)) M (some (st, l))) : zOp w b N nm (K, F, ρ, μs) (μs nm) M st l 84 x y P L X Y := by
  have h12 : uSk (μs nm) ≤ 12 := hE.ok.2.2.2.2.2.2.2.2.2.1
  have n0 : zNm (uSk (μs nm)) M ((zpop [] st).map fun t => (t, l)) := h
  obtain ⟨M1, t1, f1, n1⟩ := zj_pl (N := N) (w := w) (b := b) (k := 1) (ks := []) (by decide) h12 n0
  have g1 : ∀ (C : zC) (r : zv_X), mX9_pop N (b + 75) 1 (zc w b C M r) = some (zc w b C M1 r) := t1
  obtain ⟨M2, t2, f2, n2⟩ := zj_pl (N := N) (w := w) (b := b) (k := 1) (ks := [1]) (by decide) h12 n1
  have g2 : ∀ (C : zC) (r : zv_X), mX9_pop N (b + 75) 1 (zc w b C M1 r) = some (zc w b C M2 r) := t2
  obtain ⟨M3, t3, f3, n3⟩ := zj_pl (N := N) (w := w) (b := b) (k := 3) (ks := [1, 1]) (by decide) h12 n2
  have g3 : ∀ (C : zC) (r : zv_X), mX9_pop N (b + 75) 3 (zc w b C M2 r) = some (zc w b C M3 r) := t3
  refine ⟨M3, (zM9.tr (zM9.tr (zM9.tr zM9.rf f1) f2) f3), (zj_end0 h n3), fun C r => ?_⟩
  show mX9_judge_194 N (b + 75) (Int32.ofNat nm) P 84 L X Y _ = mX9_judge_570 N (b + 75) (Int32.ofNat nm) P L 1 _
  simp (decide := true) only [mX9_judge_194, mX9_judge_317, qX9_arrayKind, pX9_arrayKind, pX9_arrayKind_0, pX9_arrayKind_17, pX9_arrayKind_37, Option.map_some, zqk_75, g1, g2, g3, Int32.reduceLT, Int32.reduceLE, Int32.reduceAdd, Int32.reduceSub, Int32.reduceMul, Int32.reduceDiv, Int32.reduceMod, ↓reduceIte, Option.bind_some]
theorem zj_o85 (hE : zEm K F ρ α π C0 M nm μs) (h : zNm (uSk (μs nm)) M (some (st, l))) : zOp w b N nm (K, F, ρ, μs) (μs nm) M st l 85 x y P L X Y := by
  have h12 : uSk (μs nm) ≤ 12 := hE.ok.2.2.2.2.2.2.2.2.2.1
  have n0 : zNm (uSk (μs nm)) M ((zpop [] st).map fun t => (t, l)) := h
  obtain ⟨M1, t1, f1, n1⟩ := zj_pl (N := N) (w := w) (b := b) (k := 1) (ks := []) (by decide) h12 n0
  have g1 : ∀ (C : zC) (r : zv_X), mX9_pop N (b + 75) 1 (zc w b C M r) = some (zc w b C M1 r) := t1
  obtain ⟨M2, t2, f2, n2⟩ := zj_pl (N := N) (w := w) (b := b) (k := 1) (ks := [1]) (by decide) h12 n1
  have g2 : ∀ (C : zC) (r : zv_X), mX9_pop N (b + 75) 1 (zc w b C M1 r) = some (zc w b C M2 r) := t2
  obtain ⟨M3, t3, f3, n3⟩ := zj_pl (N := N) (w := w) (b := b) (k := 3) (ks := [1, 1]) (by decide) h12 n2
  have g3 : ∀ (C : zC) (r : zv_X), mX9_pop N (b + 75) 3 (zc w b C M2 r) = some (zc w b C M3 r) := t3
  refine ⟨M3, (zM9.tr (zM9.tr (zM9.tr zM9.rf f1) f2) f3), (zj_end0 h n3), fun C r => ?_⟩
  show mX9_judge_194 N (b + 75) (Int32.ofNat nm) P 85 L X Y _ = mX9_judge_570 N (b + 75) (Int32.ofNat nm) P L 1 _
  simp (decide := true) only [mX9_judge_194, mX9_judge_317, qX9_arrayKind, pX9_arrayKind, pX9_arrayKind_0, pX9_arrayKind_17, pX9_arrayKind_37, Option.map_some, zqk_75, g1, g2, g3, Int32.reduceLT, Int32.reduceLE, Int32.reduceAdd, Int32.reduceSub, Int32.reduceMul, Int32.reduceDiv, Int32.reduceMod, ↓reduceIte, Option.bind_some]
theorem zj_o86 (hE : zEm K F ρ α π C0 M nm μs) (h : zNm (uSk (μs nm)) M (some (st, l))) : zOp w b N nm (K, F, ρ, μs) (μs nm) M st l 86 x y P L X Y := by
  have h12 : uSk (μs nm) ≤ 12 := hE.ok.2.2.2.2.2.2.2.2.2.1
  have n0 : zNm (uSk (μs nm)) M ((zpop [] st).map fun t => (t, l)) := h
  obtain ⟨M1, t1, f1, n1⟩ := zj_pl (N := N) (w := w) (b := b) (k := 1) (ks := []) (by decide) h12 n0
  have g1 : ∀ (C : zC) (r : zv_X), mX9_pop N (b + 75) 1 (zc w b C M r) = some (zc w b C M1 r) := t1
  obtain ⟨M2, t2, f2, n2⟩ := zj_pl (N := N) (w := w) (b := b) (k := 1) (ks := [1]) (by decide) h12 n1
  have g2 : ∀ (C : zC) (r : zv_X), mX9_pop N (b + 75) 1 (zc w b C M1 r) = some (zc w b C M2 r) := t2
  obtain ⟨M3, t3, f3, n3⟩ := zj_pl (N := N) (w := w) (b := b) (k := 3) (ks := [1, 1]) (by decide) h12 n2
  have g3 : ∀ (C : zC) (r : zv_X), mX9_pop N (b + 75) 3 (zc w b C M2 r) = some (zc w b C M3 r) := t3
  refine ⟨M3, (zM9.tr (zM9.tr (zM9.tr zM9.rf f1) f2) f3), (zj_end0 h n3), fun C r => ?_⟩
  show mX9_judge_194 N (b + 75) (Int32.ofNat nm) P 86 L X Y _ = mX9_judge_570 N (b + 75) (Int32.ofNat nm) P L 1 _
  simp (decide := true) only [mX9_judge_194, mX9_judge_317, qX9_arrayKind, pX9_arrayKind, pX9_arrayKind_0, pX9_arrayKind_17, pX9_arrayKind_37, Option.map_some, zqk_75, g1, g2, g3, Int32.reduceLT, Int32.reduceLE, Int32.reduceAdd, Int32.reduceSub, Int32.reduceMul, Int32.reduceDiv, Int32.reduceMod, ↓reduceIte, Option.bind_some]
theorem zj_o88 (hE : zEm K F ρ α π C0 M nm μs) (h : zNm (uSk (μs nm)) M (some (st, l))) : zOp w b N nm (K, F, ρ, μs) (μs nm) M st l 88 x y P L X Y := by
  have h12 : uSk (μs nm) ≤ 12 := hE.ok.2.2.2.2.2.2.2.2.2.1
  have n0 : zNm (uSk (μs nm)) M ((zpop [] st).map fun t => (t, l)) := h
  obtain ⟨M1, t1, f1, n1⟩ := zj_pl (N := N) (w := w) (b := b) (k := 2) (ks := []) (by decide) h12 n0
  have g1 : ∀ (C : zC) (r : zv_X), mX9_pop N (b + 75) 2 (zc w b C M r) = some (zc w b C M1 r) := t1
  refine ⟨M1, (zM9.tr zM9.rf f1), (zj_end0 h n1), fun C r => ?_⟩
  show mX9_judge_194 N (b + 75) (Int32.ofNat nm) P 88 L X Y _ = mX9_judge_570 N (b + 75) (Int32.ofNat nm) P L 1 _
  simp (decide := true) only [mX9_judge_194, mX9_judge_317, mX9_judgeStack, mX9_judgeStack_0, zqk_75, g1, Int32.reduceLT, Int32.reduceLE, Int32.reduceAdd, Int32.reduceSub, Int32.reduceMul, Int32.reduceDiv, Int32.reduceMod, ↓reduceIte, Option.bind_some]
theorem zj_o96 (hE : zEm K F ρ α π C0 M nm μs) (h : zNm (uSk (μs nm)) M (some (st, l))) : zOp w b N nm (K, F, ρ, μs) (μs nm) M st l 96 x y P L X Y := by
  have h12 : uSk (μs nm) ≤ 12 := hE.ok.2.2.2.2.2.2.2.2.2.1
  have n0 : zNm (uSk (μs nm)) M ((zpop [] st).map fun t => (t, l)) := h
  obtain ⟨M1, t1, f1, n1⟩ := zj_pl (N := N) (w := w) (b := b) (k := 1) (ks := []) (by decide) h12 n0
  have g1 : ∀ (C : zC) (r : zv_X), mX9_pop N (b + 75) 1 (zc w b C M r) = some (zc w b C M1 r) := t1
  obtain ⟨M2, t2, f2, n2⟩ := zj_pl (N := N) (w := w) (b := b) (k := 1) (ks := [1]) (by decide) h12 n1
  have g2 : ∀ (C : zC) (r : zv_X), mX9_pop N (b + 75) 1 (zc w b C M1 r) = some (zc w b C M2 r) := t2
  obtain ⟨M3, t3, f3, n3⟩ := zj_pl1 (N := N) (w := w) (b := b) (k := 1) (ks := [1, 1]) (hE.m9 (zM9.tr (zM9.tr zM9.rf f1) f2)) (by decide) n2
  have g3 : ∀ (C : zC) (r : zv_X), mX9_push N (b + 75) (Int32.ofNat nm) 1 (zc w b C M2 r) = some (zc w b C M3 r) := t3
  refine ⟨M3, (zM9.tr (zM9.tr (zM9.tr zM9.rf f1) f2) f3), n3, fun C r => ?_⟩
  show mX9_judge_194 N (b + 75) (Int32.ofNat nm) P 96 L X Y _ = mX9_judge_570 N (b + 75) (Int32.ofNat nm) P L 1 _
  simp (decide := true) only [mX9_judge_194, mX9_judge_317, mX9_judgeReckoning, mX9_judgeReckoning_0, mX9_judgeReckoning_207, mX9_judgeReckoning_194, mX9_judgeReckoning_191, mX9_judgeReckoning_179, mX9_judgeReckoning_165, mX9_judgeReckoning_164, mX9_judgeReckoning_146, zqk_75, g1, g2, g3, Int32.reduceLT, Int32.reduceLE, Int32.reduceAdd, Int32.reduceSub, Int32.reduceMul, Int32.reduceDiv, Int32.reduceMod, ↓reduceIte, Option.bind_some]
theorem zj_o97 (hE : zEm K F ρ α π C0 M nm μs) (h : zNm (uSk (μs nm)) M (some (st, l))) : zOp w b N nm (K, F, ρ, μs) (μs nm) M st l 97 x y P L X Y := by
  have h12 : uSk (μs nm) ≤ 12 := hE.ok.2.2.2.2.2.2.2.2.2.1
  have n0 : zNm (uSk (μs nm)) M ((zpop [] st).map fun t => (t, l)) := h
  obtain ⟨M1, t1, f1, n1⟩ := zj_pl (N := N) (w := w) (b := b) (k := 2) (ks := []) (by decide) h12 n0
  have g1 : ∀ (C : zC) (r : zv_X), mX9_pop N (b + 75) 2 (zc w b C M r) = some (zc w b C M1 r) := t1
  obtain ⟨M2, t2, f2, n2⟩ := zj_pl (N := N) (w := w) (b := b) (k := 2) (ks := [2]) (by decide) h12 n1
  have g2 : ∀ (C : zC) (r : zv_X), mX9_pop N (b + 75) 2 (zc w b C M1 r) = some (zc w b C M2 r) := t2
  obtain ⟨M3, t3, f3, n3⟩ := zj_pl1 (N := N) (w := w) (b := b) (k := 2) (ks := [2, 2]) (hE.m9 (zM9.tr (zM9.tr zM9.rf f1) f2)) (by decide) n2
  have g3 : ∀ (C : zC) (r : zv_X), mX9_push N (b + 75) (Int32.ofNat nm) 2 (zc w b C M2 r) = some (zc w b C M3 r) := t3
  refine ⟨M3, (zM9.tr (zM9.tr (zM9.tr zM9.rf f1) f2) f3), n3, fun C r => ?_⟩
  show mX9_judge_194 N (b + 75) (Int32.ofNat nm) P 97 L X Y _ = mX9_judge_570 N (b + 75) (Int32.ofNat nm) P L 1 _
  simp (decide := true) only [mX9_judge_194, mX9_judge_317, mX9_judgeReckoning, mX9_judgeReckoning_0, mX9_judgeReckoning_207, mX9_judgeReckoning_194, mX9_judgeReckoning_191, mX9_judgeReckoning_179, mX9_judgeReckoning_165, mX9_judgeReckoning_164, mX9_judgeReckoning_146, zqk_75, g1, g2, g3, Int32.reduceLT, Int32.reduceLE, Int32.reduceAdd, Int32.reduceSub, Int32.reduceMul, Int32.reduceDiv, Int32.reduceMod, ↓reduceIte, Option.bind_some]
theorem zj_o100 (hE : zEm K F ρ α π C0 M nm μs) (h : zNm (uSk (μs nm)) M (some (st, l))) : zOp w b N nm (K, F, ρ, μs) (μs nm) M st l 100 x y P L X Y := by
  have h12 : uSk (μs nm) ≤ 12 := hE.ok.2.2.2.2.2.2.2.2.2.1
  have n0 : zNm (uSk (μs nm)) M ((zpop [] st).map fun t => (t, l)) := h
  obtain ⟨M1, t1, f1, n1⟩ := zj_pl (N := N) (w := w) (b := b) (k := 1) (ks := []) (by decide) h12 n0
  have g1 : ∀ (C : zC) (r : zv_X), mX9_pop N (b + 75) 1 (zc w b C M r) = some (zc w b C M1 r) := t1
  obtain ⟨M2, t2, f2, n2⟩ := zj_pl (N := N) (w := w) (b := b) (k := 1) (ks := [1]) (by decide) h12 n1
  have g2 : ∀ (C : zC) (r : zv_X), mX9_pop N (b + 75) 1 (zc w b C M1 r) = some (zc w b C M2 r) := t2
  obtain ⟨M3, t3, f3, n3⟩ := zj_pl1 (N := N) (w := w) (b := b) (k := 1) (ks := [1, 1]) (hE.m9 (zM9.tr (zM9.tr zM9.rf f1) f2)) (by decide) n2
  have g3 : ∀ (C : zC) (r : zv_X), mX9_push N (b + 75) (Int32.ofNat nm) 1 (zc w b C M2 r) = some (zc w b C M3 r) := t3
  refine ⟨M3, (zM9.tr (zM9.tr (zM9.tr zM9.rf f1) f2) f3), n3, fun C r => ?_⟩
  show mX9_judge_194 N (b + 75) (Int32.ofNat nm) P 100 L X Y _ = mX9_judge_570 N (b + 75) (Int32.ofNat nm) P L 1 _
  simp (decide := true) only [mX9_judge_194, mX9_judge_317, mX9_judgeReckoning, mX9_judgeReckoning_0, mX9_judgeReckoning_207, mX9_judgeReckoning_194, mX9_judgeReckoning_191, mX9_judgeReckoning_179, mX9_judgeReckoning_165, mX9_judgeReckoning_164, mX9_judgeReckoning_146, zqk_75, g1, g2, g3, Int32.reduceLT, Int32.reduceLE, Int32.reduceAdd, Int32.reduceSub, Int32.reduceMul, Int32.reduceDiv, Int32.reduceMod, ↓reduceIte, Option.bind_some]
theorem zj_o101 (hE : zEm K F ρ α π C0 M nm μs) (h : zNm (uSk (μs nm)) M (some (st, l))) : zOp w b N nm (K, F, ρ, μs) (μs nm) M st l 101 x y P L X Y := by
  have h12 : uSk (μs nm) ≤ 12 := hE.ok.2.2.2.2.2.2.2.2.2.1
  have n0 : zNm (uSk (μs nm)) M ((zpop [] st).map fun t => (t, l)) := h
  obtain ⟨M1, t1, f1, n1⟩ := zj_pl (N := N) (w := w) (b := b) (k := 2) (ks := []) (by decide) h12 n0
  have g1 : ∀ (C : zC) (r : zv_X), mX9_pop N (b + 75) 2 (zc w b C M r) = some (zc w b C M1 r) := t1
  obtain ⟨M2, t2, f2, n2⟩ := zj_pl (N := N) (w := w) (b := b) (k := 2) (ks := [2]) (by decide) h12 n1
  have g2 : ∀ (C : zC) (r : zv_X), mX9_pop N (b + 75) 2 (zc w b C M1 r) = some (zc w b C M2 r) := t2
  obtain ⟨M3, t3, f3, n3⟩ := zj_pl1 (N := N) (w := w) (b := b) (k := 2) (ks := [2, 2]) (hE.m9 (zM9.tr (zM9.tr zM9.rf f1) f2)) (by decide) n2
  have g3 : ∀ (C : zC) (r : zv_X), mX9_push N (b + 75) (Int32.ofNat nm) 2 (zc w b C M2 r) = some (zc w b C M3 r) := t3
  refine ⟨M3, (zM9.tr (zM9.tr (zM9.tr zM9.rf f1) f2) f3), n3, fun C r => ?_⟩
  show mX9_judge_194 N (b + 75) (Int32.ofNat nm) P 101 L X Y _ = mX9_judge_570 N (b + 75) (Int32.ofNat nm) P L 1 _
  simp (decide := true) only [mX9_judge_194, mX9_judge_317, mX9_judgeReckoning, mX9_judgeReckoning_0, mX9_judgeReckoning_207, mX9_judgeReckoning_194, mX9_judgeReckoning_191, mX9_judgeReckoning_179, mX9_judgeReckoning_165, mX9_judgeReckoning_164, mX9_judgeReckoning_146, zqk_75, g1, g2, g3, Int32.reduceLT, Int32.reduceLE, Int32.reduceAdd, Int32.reduceSub, Int32.reduceMul, Int32.reduceDiv, Int32.reduceMod, ↓reduceIte, Option.bind_some]
theorem zj_o104 (hE : zEm K F ρ α π C0 M nm μs) (h : zNm (uSk (μs nm)) M (some (st, l))) : zOp w b N nm (K, F, ρ, μs) (μs nm) M st l 104 x y P L X Y := by
  have h12 : uSk (μs nm) ≤ 12 := hE.ok.2.2.2.2.2.2.2.2.2.1
  have n0 : zNm (uSk (μs nm)) M ((zpop [] st).map fun t => (t, l)) := h
  obtain ⟨M1, t1, f1, n1⟩ := zj_pl (N := N) (w := w) (b := b) (k := 1) (ks := []) (by decide) h12 n0
  have g1 : ∀ (C : zC) (r : zv_X), mX9_pop N (b + 75) 1 (zc w b C M r) = some (zc w b C M1 r) := t1
  obtain ⟨M2, t2, f2, n2⟩ := zj_pl (N := N) (w := w) (b := b) (k := 1) (ks := [1]) (by decide) h12 n1
  have g2 : ∀ (C : zC) (r : zv_X), mX9_pop N (b + 75) 1 (zc w b C M1 r) = some (zc w b C M2 r) := t2
  obtain ⟨M3, t3, f3, n3⟩ := zj_pl1 (N := N) (w := w) (b := b) (k := 1) (ks := [1, 1]) (hE.m9 (zM9.tr (zM9.tr zM9.rf f1) f2)) (by decide) n2
  have g3 : ∀ (C : zC) (r : zv_X), mX9_push N (b + 75) (Int32.ofNat nm) 1 (zc w b C M2 r) = some (zc w b C M3 r) := t3
  refine ⟨M3, (zM9.tr (zM9.tr (zM9.tr zM9.rf f1) f2) f3), n3, fun C r => ?_⟩
  show mX9_judge_194 N (b + 75) (Int32.ofNat nm) P 104 L X Y _ = mX9_judge_570 N (b + 75) (Int32.ofNat nm) P L 1 _
  simp (decide := true) only [mX9_judge_194, mX9_judge_317, mX9_judgeReckoning, mX9_judgeReckoning_0, mX9_judgeReckoning_207, mX9_judgeReckoning_194, mX9_judgeReckoning_191, mX9_judgeReckoning_179, mX9_judgeReckoning_165, mX9_judgeReckoning_164, mX9_judgeReckoning_146, zqk_75, g1, g2, g3, Int32.reduceLT, Int32.reduceLE, Int32.reduceAdd, Int32.reduceSub, Int32.reduceMul, Int32.reduceDiv, Int32.reduceMod, ↓reduceIte, Option.bind_some]
theorem zj_o105 (hE : zEm K F ρ α π C0 M nm μs) (h : zNm (uSk (μs nm)) M (some (st, l))) : zOp w b N nm (K, F, ρ, μs) (μs nm) M st l 105 x y P L X Y := by
  have h12 : uSk (μs nm) ≤ 12 := hE.ok.2.2.2.2.2.2.2.2.2.1
  have n0 : zNm (uSk (μs nm)) M ((zpop [] st).map fun t => (t, l)) := h
  obtain ⟨M1, t1, f1, n1⟩ := zj_pl (N := N) (w := w) (b := b) (k := 2) (ks := []) (by decide) h12 n0
  have g1 : ∀ (C : zC) (r : zv_X), mX9_pop N (b + 75) 2 (zc w b C M r) = some (zc w b C M1 r) := t1
  obtain ⟨M2, t2, f2, n2⟩ := zj_pl (N := N) (w := w) (b := b) (k := 2) (ks := [2]) (by decide) h12 n1
  have g2 : ∀ (C : zC) (r : zv_X), mX9_pop N (b + 75) 2 (zc w b C M1 r) = some (zc w b C M2 r) := t2
  obtain ⟨M3, t3, f3, n3⟩ := zj_pl1 (N := N) (w := w) (b := b) (k := 2) (ks := [2, 2]) (hE.m9 (zM9.tr (zM9.tr zM9.rf f1) f2)) (by decide) n2
  have g3 : ∀ (C : zC) (r : zv_X), mX9_push N (b + 75) (Int32.ofNat nm) 2 (zc w b C M2 r) = some (zc w b C M3 r) := t3
  refine ⟨M3, (zM9.tr (zM9.tr (zM9.tr zM9.rf f1) f2) f3), n3, fun C r => ?_⟩
  show mX9_judge_194 N (b + 75) (Int32.ofNat nm) P 105 L X Y _ = mX9_judge_570 N (b + 75) (Int32.ofNat nm) P L 1 _
  simp (decide := true) only [mX9_judge_194, mX9_judge_317, mX9_judgeReckoning, mX9_judgeReckoning_0, mX9_judgeReckoning_207, mX9_judgeReckoning_194, mX9_judgeReckoning_191, mX9_judgeReckoning_179, mX9_judgeReckoning_165, mX9_judgeReckoning_164, mX9_judgeReckoning_146, zqk_75, g1, g2, g3, Int32.reduceLT, Int32.reduceLE, Int32.reduceAdd, Int32.reduceSub, Int32.reduceMul, Int32.reduceDiv, Int32.reduceMod, ↓reduceIte, Option.bind_some]
theorem zj_o108 (hE : zEm K F ρ α π C0 M nm μs) (h : zNm (uSk (μs nm)) M (some (st, l))) : zOp w b N nm (K, F, ρ, μs) (μs nm) M st l 108 x y P L X Y := by
  have h12 : uSk (μs nm) ≤ 12 := hE.ok.2.2.2.2.2.2.2.2.2.1
  have n0 : zNm (uSk (μs nm)) M ((zpop [] st).map fun t => (t, l)) := h
  obtain ⟨M1, t1, f1, n1⟩ := zj_pl (N := N) (w := w) (b := b) (k := 1) (ks := []) (by decide) h12 n0
  have g1 : ∀ (C : zC) (r : zv_X), mX9_pop N (b + 75) 1 (zc w b C M r) = some (zc w b C M1 r) := t1
  obtain ⟨M2, t2, f2, n2⟩ := zj_pl (N := N) (w := w) (b := b) (k := 1) (ks := [1]) (by decide) h12 n1
  have g2 : ∀ (C : zC) (r : zv_X), mX9_pop N (b + 75) 1 (zc w b C M1 r) = some (zc w b C M2 r) := t2
  obtain ⟨M3, t3, f3, n3⟩ := zj_pl1 (N := N) (w := w) (b := b) (k := 1) (ks := [1, 1]) (hE.m9 (zM9.tr (zM9.tr zM9.rf f1) f2)) (by decide) n2
  have g3 : ∀ (C : zC) (r : zv_X), mX9_push N (b + 75) (Int32.ofNat nm) 1 (zc w b C M2 r) = some (zc w b C M3 r) := t3
  refine ⟨M3, (zM9.tr (zM9.tr (zM9.tr zM9.rf f1) f2) f3), n3, fun C r => ?_⟩
  show mX9_judge_194 N (b + 75) (Int32.ofNat nm) P 108 L X Y _ = mX9_judge_570 N (b + 75) (Int32.ofNat nm) P L 1 _
  simp (decide := true) only [mX9_judge_194, mX9_judge_317, mX9_judgeReckoning, mX9_judgeReckoning_0, mX9_judgeReckoning_207, mX9_judgeReckoning_194, mX9_judgeReckoning_191, mX9_judgeReckoning_179, mX9_judgeReckoning_165, mX9_judgeReckoning_164, mX9_judgeReckoning_146, zqk_75, g1, g2, g3, Int32.reduceLT, Int32.reduceLE, Int32.reduceAdd, Int32.reduceSub, Int32.reduceMul, Int32.reduceDiv, Int32.reduceMod, ↓reduceIte, Option.bind_some]
theorem zj_o109 (hE : zEm K F ρ α π C0 M nm μs) (h : zNm (uSk (μs nm)) M (some (st, l))) : zOp w b N nm (K, F, ρ, μs) (μs nm) M st l 109 x y P L X Y := by
  have h12 : uSk (μs nm) ≤ 12 := hE.ok.2.2.2.2.2.2.2.2.2.1
  have n0 : zNm (uSk (μs nm)) M ((zpop [] st).map fun t => (t, l)) := h
  obtain ⟨M1, t1, f1, n1⟩ := zj_pl (N := N) (w := w) (b := b) (k := 2) (ks := []) (by decide) h12 n0
  have g1 : ∀ (C : zC) (r : zv_X), mX9_pop N (b + 75) 2 (zc w b C M r) = some (zc w b C M1 r) := t1
  obtain ⟨M2, t2, f2, n2⟩ := zj_pl (N := N) (w := w) (b := b) (k := 2) (ks := [2]) (by decide) h12 n1
  have g2 : ∀ (C : zC) (r : zv_X), mX9_pop N (b + 75) 2 (zc w b C M1 r) = some (zc w b C M2 r) := t2
  obtain ⟨M3, t3, f3, n3⟩ := zj_pl1 (N := N) (w := w) (b := b) (k := 2) (ks := [2, 2]) (hE.m9 (zM9.tr (zM9.tr zM9.rf f1) f2)) (by decide) n2
  have g3 : ∀ (C : zC) (r : zv_X), mX9_push N (b + 75) (Int32.ofNat nm) 2 (zc w b C M2 r) = some (zc w b C M3 r) := t3
  refine ⟨M3, (zM9.tr (zM9.tr (zM9.tr zM9.rf f1) f2) f3), n3, fun C r => ?_⟩
  show mX9_judge_194 N (b + 75) (Int32.ofNat nm) P 109 L X Y _ = mX9_judge_570 N (b + 75) (Int32.ofNat nm) P L 1 _
  simp (decide := true) only [mX9_judge_194, mX9_judge_317, mX9_judgeReckoning, mX9_judgeReckoning_0, mX9_judgeReckoning_207, mX9_judgeReckoning_194, mX9_judgeReckoning_191, mX9_judgeReckoning_179, mX9_judgeReckoning_165, mX9_judgeReckoning_164, mX9_judgeReckoning_146, zqk_75, g1, g2, g3, Int32.reduceLT, Int32.reduceLE, Int32.reduceAdd, Int32.reduceSub, Int32.reduceMul, Int32.reduceDiv, Int32.reduceMod, ↓reduceIte, Option.bind_some]
theorem zj_o112 (hE : zEm K F ρ α π C0 M nm μs) (h : zNm (uSk (μs nm)) M (some (st, l))) : zOp w b N nm (K, F, ρ, μs) (μs nm) M st l 112 x y P L X Y := by
  have h12 : uSk (μs nm) ≤ 12 := hE.ok.2.2.2.2.2.2.2.2.2.1
  have n0 : zNm (uSk (μs nm)) M ((zpop [] st).map fun t => (t, l)) := h
  obtain ⟨M1, t1, f1, n1⟩ := zj_pl (N := N) (w := w) (b := b) (k := 1) (ks := []) (by decide) h12 n0
  have g1 : ∀ (C : zC) (r : zv_X), mX9_pop N (b + 75) 1 (zc w b C M r) = some (zc w b C M1 r) := t1
  obtain ⟨M2, t2, f2, n2⟩ := zj_pl (N := N) (w := w) (b := b) (k := 1) (ks := [1]) (by decide) h12 n1
  have g2 : ∀ (C : zC) (r : zv_X), mX9_pop N (b + 75) 1 (zc w b C M1 r) = some (zc w b C M2 r) := t2
  obtain ⟨M3, t3, f3, n3⟩ := zj_pl1 (N := N) (w := w) (b := b) (k := 1) (ks := [1, 1]) (hE.m9 (zM9.tr (zM9.tr zM9.rf f1) f2)) (by decide) n2
  have g3 : ∀ (C : zC) (r : zv_X), mX9_push N (b + 75) (Int32.ofNat nm) 1 (zc w b C M2 r) = some (zc w b C M3 r) := t3
  refine ⟨M3, (zM9.tr (zM9.tr (zM9.tr zM9.rf f1) f2) f3), n3, fun C r => ?_⟩
  show mX9_judge_194 N (b + 75) (Int32.ofNat nm) P 112 L X Y _ = mX9_judge_570 N (b + 75) (Int32.ofNat nm) P L 1 _
  simp (decide := true) only [mX9_judge_194, mX9_judge_317, mX9_judgeReckoning, mX9_judgeReckoning_0, mX9_judgeReckoning_207, mX9_judgeReckoning_194, mX9_judgeReckoning_191, mX9_judgeReckoning_179, mX9_judgeReckoning_165, mX9_judgeReckoning_164, mX9_judgeReckoning_146, zqk_75, g1, g2, g3, Int32.reduceLT, Int32.reduceLE, Int32.reduceAdd, Int32.reduceSub, Int32.reduceMul, Int32.reduceDiv, Int32.reduceMod, ↓reduceIte, Option.bind_some]
theorem zj_o113 (hE : zEm K F ρ α π C0 M nm μs) (h : zNm (uSk (μs nm)) M (some (st, l))) : zOp w b N nm (K, F, ρ, μs) (μs nm) M st l 113 x y P L X Y := by
  have h12 : uSk (μs nm) ≤ 12 := hE.ok.2.2.2.2.2.2.2.2.2.1
  have n0 : zNm (uSk (μs nm)) M ((zpop [] st).map fun t => (t, l)) := h
  obtain ⟨M1, t1, f1, n1⟩ := zj_pl (N := N) (w := w) (b := b) (k := 2) (ks := []) (by decide) h12 n0
  have g1 : ∀ (C : zC) (r : zv_X), mX9_pop N (b + 75) 2 (zc w b C M r) = some (zc w b C M1 r) := t1
  obtain ⟨M2, t2, f2, n2⟩ := zj_pl (N := N) (w := w) (b := b) (k := 2) (ks := [2]) (by decide) h12 n1
  have g2 : ∀ (C : zC) (r : zv_X), mX9_pop N (b + 75) 2 (zc w b C M1 r) = some (zc w b C M2 r) := t2
  obtain ⟨M3, t3, f3, n3⟩ := zj_pl1 (N := N) (w := w) (b := b) (k := 2) (ks := [2, 2]) (hE.m9 (zM9.tr (zM9.tr zM9.rf f1) f2)) (by decide) n2
  have g3 : ∀ (C : zC) (r : zv_X), mX9_push N (b + 75) (Int32.ofNat nm) 2 (zc w b C M2 r) = some (zc w b C M3 r) := t3
  refine ⟨M3, (zM9.tr (zM9.tr (zM9.tr zM9.rf f1) f2) f3), n3, fun C r => ?_⟩
  show mX9_judge_194 N (b + 75) (Int32.ofNat nm) P 113 L X Y _ = mX9_judge_570 N (b + 75) (Int32.ofNat nm) P L 1 _
  simp (decide := true) only [mX9_judge_194, mX9_judge_317, mX9_judgeReckoning, mX9_judgeReckoning_0, mX9_judgeReckoning_207, mX9_judgeReckoning_194, mX9_judgeReckoning_191, mX9_judgeReckoning_179, mX9_judgeReckoning_165, mX9_judgeReckoning_164, mX9_judgeReckoning_146, zqk_75, g1, g2, g3, Int32.reduceLT, Int32.reduceLE, Int32.reduceAdd, Int32.reduceSub, Int32.reduceMul, Int32.reduceDiv, Int32.reduceMod, ↓reduceIte, Option.bind_some]
theorem zj_o116 (hE : zEm K F ρ α π C0 M nm μs) (h : zNm (uSk (μs nm)) M (some (st, l))) : zOp w b N nm (K, F, ρ, μs) (μs nm) M st l 116 x y P L X Y := by
  have h12 : uSk (μs nm) ≤ 12 := hE.ok.2.2.2.2.2.2.2.2.2.1
  have n0 : zNm (uSk (μs nm)) M ((zpop [] st).map fun t => (t, l)) := h
  obtain ⟨M1, t1, f1, n1⟩ := zj_pl (N := N) (w := w) (b := b) (k := 1) (ks := []) (by decide) h12 n0
  have g1 : ∀ (C : zC) (r : zv_X), mX9_pop N (b + 75) 1 (zc w b C M r) = some (zc w b C M1 r) := t1
  obtain ⟨M2, t2, f2, n2⟩ := zj_pl1 (N := N) (w := w) (b := b) (k := 1) (ks := [1]) (hE.m9 (zM9.tr zM9.rf f1)) (by decide) n1
  have g2 : ∀ (C : zC) (r : zv_X), mX9_push N (b + 75) (Int32.ofNat nm) 1 (zc w b C M1 r) = some (zc w b C M2 r) := t2
  refine ⟨M2, (zM9.tr (zM9.tr zM9.rf f1) f2), n2, fun C r => ?_⟩
  show mX9_judge_194 N (b + 75) (Int32.ofNat nm) P 116 L X Y _ = mX9_judge_570 N (b + 75) (Int32.ofNat nm) P L 1 _
  simp (decide := true) only [mX9_judge_194, mX9_judge_317, mX9_judgeReckoning, mX9_judgeReckoning_0, mX9_judgeReckoning_207, mX9_judgeReckoning_194, mX9_judgeReckoning_191, mX9_judgeReckoning_179, mX9_judgeReckoning_165, mX9_judgeReckoning_164, mX9_judgeReckoning_146, zqk_75, g1, g2, Int32.reduceLT, Int32.reduceLE, Int32.reduceAdd, Int32.reduceSub, Int32.reduceMul, Int32.reduceDiv, Int32.reduceMod, ↓reduceIte, Option.bind_some]
theorem zj_o117 (hE : zEm K F ρ α π C0 M nm μs) (h : zNm (uSk (μs nm)) M (some (st, l))) : zOp w b N nm (K, F, ρ, μs) (μs nm) M st l 117 x y P L X Y := by
  have h12 : uSk (μs nm) ≤ 12 := hE.ok.2.2.2.2.2.2.2.2.2.1
  have n0 : zNm (uSk (μs nm)) M ((zpop [] st).map fun t => (t, l)) := h
  obtain ⟨M1, t1, f1, n1⟩ := zj_pl (N := N) (w := w) (b := b) (k := 2) (ks := []) (by decide) h12 n0
  have g1 : ∀ (C : zC) (r : zv_X), mX9_pop N (b + 75) 2 (zc w b C M r) = some (zc w b C M1 r) := t1
  obtain ⟨M2, t2, f2, n2⟩ := zj_pl1 (N := N) (w := w) (b := b) (k := 2) (ks := [2]) (hE.m9 (zM9.tr zM9.rf f1)) (by decide) n1
  have g2 : ∀ (C : zC) (r : zv_X), mX9_push N (b + 75) (Int32.ofNat nm) 2 (zc w b C M1 r) = some (zc w b C M2 r) := t2
  refine ⟨M2, (zM9.tr (zM9.tr zM9.rf f1) f2), n2, fun C r => ?_⟩
  show mX9_judge_194 N (b + 75) (Int32.ofNat nm) P 117 L X Y _ = mX9_judge_570 N (b + 75) (Int32.ofNat nm) P L 1 _
  simp (decide := true) only [mX9_judge_194, mX9_judge_317, mX9_judgeReckoning, mX9_judgeReckoning_0, mX9_judgeReckoning_207, mX9_judgeReckoning_194, mX9_judgeReckoning_191, mX9_judgeReckoning_179, mX9_judgeReckoning_165, mX9_judgeReckoning_164, mX9_judgeReckoning_146, zqk_75, g1, g2, Int32.reduceLT, Int32.reduceLE, Int32.reduceAdd, Int32.reduceSub, Int32.reduceMul, Int32.reduceDiv, Int32.reduceMod, ↓reduceIte, Option.bind_some]
theorem zj_o120 (hE : zEm K F ρ α π C0 M nm μs) (h : zNm (uSk (μs nm)) M (some (st, l))) : zOp w b N nm (K, F, ρ, μs) (μs nm) M st l 120 x y P L X Y := by
  have h12 : uSk (μs nm) ≤ 12 := hE.ok.2.2.2.2.2.2.2.2.2.1
  have n0 : zNm (uSk (μs nm)) M ((zpop [] st).map fun t => (t, l)) := h
  obtain ⟨M1, t1, f1, n1⟩ := zj_pl (N := N) (w := w) (b := b) (k := 1) (ks := []) (by decide) h12 n0
  have g1 : ∀ (C : zC) (r : zv_X), mX9_pop N (b + 75) 1 (zc w b C M r) = some (zc w b C M1 r) := t1
  obtain ⟨M2, t2, f2, n2⟩ := zj_pl (N := N) (w := w) (b := b) (k := 1) (ks := [1]) (by decide) h12 n1
  have g2 : ∀ (C : zC) (r : zv_X), mX9_pop N (b + 75) 1 (zc w b C M1 r) = some (zc w b C M2 r) := t2
  obtain ⟨M3, t3, f3, n3⟩ := zj_pl1 (N := N) (w := w) (b := b) (k := 1) (ks := [1, 1]) (hE.m9 (zM9.tr (zM9.tr zM9.rf f1) f2)) (by decide) n2
  have g3 : ∀ (C : zC) (r : zv_X), mX9_push N (b + 75) (Int32.ofNat nm) 1 (zc w b C M2 r) = some (zc w b C M3 r) := t3
  refine ⟨M3, (zM9.tr (zM9.tr (zM9.tr zM9.rf f1) f2) f3), n3, fun C r => ?_⟩
  show mX9_judge_194 N (b + 75) (Int32.ofNat nm) P 120 L X Y _ = mX9_judge_570 N (b + 75) (Int32.ofNat nm) P L 1 _
  simp (decide := true) only [mX9_judge_194, mX9_judge_317, mX9_judgeReckoning, mX9_judgeReckoning_0, mX9_judgeReckoning_207, mX9_judgeReckoning_194, mX9_judgeReckoning_191, mX9_judgeReckoning_179, mX9_judgeReckoning_165, mX9_judgeReckoning_164, mX9_judgeReckoning_146, zqk_75, g1, g2, g3, Int32.reduceLT, Int32.reduceLE, Int32.reduceAdd, Int32.reduceSub, Int32.reduceMul, Int32.reduceDiv, Int32.reduceMod, ↓reduceIte, Option.bind_some]
theorem zj_o121 (hE : zEm K F ρ α π C0 M nm μs) (h : zNm (uSk (μs nm)) M (some (st, l))) : zOp w b N nm (K, F, ρ, μs) (μs nm) M st l 121 x y P L X Y := by
  have h12 : uSk (μs nm) ≤ 12 := hE.ok.2.2.2.2.2.2.2.2.2.1
  have n0 : zNm (uSk (μs nm)) M ((zpop [] st).map fun t => (t, l)) := h
  obtain ⟨M1, t1, f1, n1⟩ := zj_pl (N := N) (w := w) (b := b) (k := 1) (ks := []) (by decide) h12 n0
  have g1 : ∀ (C : zC) (r : zv_X), mX9_pop N (b + 75) 1 (zc w b C M r) = some (zc w b C M1 r) := t1
  obtain ⟨M2, t2, f2, n2⟩ := zj_pl (N := N) (w := w) (b := b) (k := 2) (ks := [1]) (by decide) h12 n1
  have g2 : ∀ (C : zC) (r : zv_X), mX9_pop N (b + 75) 2 (zc w b C M1 r) = some (zc w b C M2 r) := t2
  obtain ⟨M3, t3, f3, n3⟩ := zj_pl1 (N := N) (w := w) (b := b) (k := 2) (ks := [1, 2]) (hE.m9 (zM9.tr (zM9.tr zM9.rf f1) f2)) (by decide) n2
  have g3 : ∀ (C : zC) (r : zv_X), mX9_push N (b + 75) (Int32.ofNat nm) 2 (zc w b C M2 r) = some (zc w b C M3 r) := t3
  refine ⟨M3, (zM9.tr (zM9.tr (zM9.tr zM9.rf f1) f2) f3), n3, fun C r => ?_⟩
  show mX9_judge_194 N (b + 75) (Int32.ofNat nm) P 121 L X Y _ = mX9_judge_570 N (b + 75) (Int32.ofNat nm) P L 1 _
  simp (decide := true) only [mX9_judge_194, mX9_judge_317, mX9_judgeReckoning, mX9_judgeReckoning_0, mX9_judgeReckoning_207, mX9_judgeReckoning_194, mX9_judgeReckoning_191, mX9_judgeReckoning_179, mX9_judgeReckoning_165, mX9_judgeReckoning_164, mX9_judgeReckoning_146, zqk_75, g1, g2, g3, Int32.reduceLT, Int32.reduceLE, Int32.reduceAdd, Int32.reduceSub, Int32.reduceMul, Int32.reduceDiv, Int32.reduceMod, ↓reduceIte, Option.bind_some]
theorem zj_o122 (hE : zEm K F ρ α π C0 M nm μs) (h : zNm (uSk (μs nm)) M (some (st, l))) : zOp w b N nm (K, F, ρ, μs) (μs nm) M st l 122 x y P L X Y := by
  have h12 : uSk (μs nm) ≤ 12 := hE.ok.2.2.2.2.2.2.2.2.2.1
  have n0 : zNm (uSk (μs nm)) M ((zpop [] st).map fun t => (t, l)) := h
  obtain ⟨M1, t1, f1, n1⟩ := zj_pl (N := N) (w := w) (b := b) (k := 1) (ks := []) (by decide) h12 n0
  have g1 : ∀ (C : zC) (r : zv_X), mX9_pop N (b + 75) 1 (zc w b C M r) = some (zc w b C M1 r) := t1
  obtain ⟨M2, t2, f2, n2⟩ := zj_pl (N := N) (w := w) (b := b) (k := 1) (ks := [1]) (by decide) h12 n1
  have g2 : ∀ (C : zC) (r : zv_X), mX9_pop N (b + 75) 1 (zc w b C M1 r) = some (zc w b C M2 r) := t2
  obtain ⟨M3, t3, f3, n3⟩ := zj_pl1 (N := N) (w := w) (b := b) (k := 1) (ks := [1, 1]) (hE.m9 (zM9.tr (zM9.tr zM9.rf f1) f2)) (by decide) n2
  have g3 : ∀ (C : zC) (r : zv_X), mX9_push N (b + 75) (Int32.ofNat nm) 1 (zc w b C M2 r) = some (zc w b C M3 r) := t3
  refine ⟨M3, (zM9.tr (zM9.tr (zM9.tr zM9.rf f1) f2) f3), n3, fun C r => ?_⟩
  show mX9_judge_194 N (b + 75) (Int32.ofNat nm) P 122 L X Y _ = mX9_judge_570 N (b + 75) (Int32.ofNat nm) P L 1 _
  simp (decide := true) only [mX9_judge_194, mX9_judge_317, mX9_judgeReckoning, mX9_judgeReckoning_0, mX9_judgeReckoning_207, mX9_judgeReckoning_194, mX9_judgeReckoning_191, mX9_judgeReckoning_179, mX9_judgeReckoning_165, mX9_judgeReckoning_164, mX9_judgeReckoning_146, zqk_75, g1, g2, g3, Int32.reduceLT, Int32.reduceLE, Int32.reduceAdd, Int32.reduceSub, Int32.reduceMul, Int32.reduceDiv, Int32.reduceMod, ↓reduceIte, Option.bind_some]
theorem zj_o123 (hE : zEm K F ρ α π C0 M nm μs) (h : zNm (uSk (μs nm)) M (some (st, l))) : zOp w b N nm (K, F, ρ, μs) (μs nm) M st l 123 x y P L X Y := by
  have h12 : uSk (μs nm) ≤ 12 := hE.ok.2.2.2.2.2.2.2.2.2.1
  have n0 : zNm (uSk (μs nm)) M ((zpop [] st).map fun t => (t, l)) := h
  obtain ⟨M1, t1, f1, n1⟩ := zj_pl (N := N) (w := w) (b := b) (k := 1) (ks := []) (by decide) h12 n0
  have g1 : ∀ (C : zC) (r : zv_X), mX9_pop N (b + 75) 1 (zc w b C M r) = some (zc w b C M1 r) := t1
  obtain ⟨M2, t2, f2, n2⟩ := zj_pl (N := N) (w := w) (b := b) (k := 2) (ks := [1]) (by decide) h12 n1
  have g2 : ∀ (C : zC) (r : zv_X), mX9_pop N (b + 75) 2 (zc w b C M1 r) = some (zc w b C M2 r) := t2
  obtain ⟨M3, t3, f3, n3⟩ := zj_pl1 (N := N) (w := w) (b := b) (k := 2) (ks := [1, 2]) (hE.m9 (zM9.tr (zM9.tr zM9.rf f1) f2)) (by decide) n2
  have g3 : ∀ (C : zC) (r : zv_X), mX9_push N (b + 75) (Int32.ofNat nm) 2 (zc w b C M2 r) = some (zc w b C M3 r) := t3
  refine ⟨M3, (zM9.tr (zM9.tr (zM9.tr zM9.rf f1) f2) f3), n3, fun C r => ?_⟩
  show mX9_judge_194 N (b + 75) (Int32.ofNat nm) P 123 L X Y _ = mX9_judge_570 N (b + 75) (Int32.ofNat nm) P L 1 _
  simp (decide := true) only [mX9_judge_194, mX9_judge_317, mX9_judgeReckoning, mX9_judgeReckoning_0, mX9_judgeReckoning_207, mX9_judgeReckoning_194, mX9_judgeReckoning_191, mX9_judgeReckoning_179, mX9_judgeReckoning_165, mX9_judgeReckoning_164, mX9_judgeReckoning_146, zqk_75, g1, g2, g3, Int32.reduceLT, Int32.reduceLE, Int32.reduceAdd, Int32.reduceSub, Int32.reduceMul, Int32.reduceDiv, Int32.reduceMod, ↓reduceIte, Option.bind_some]
theorem zj_o124 (hE : zEm K F ρ α π C0 M nm μs) (h : zNm (uSk (μs nm)) M (some (st, l))) : zOp w b N nm (K, F, ρ, μs) (μs nm) M st l 124 x y P L X Y := by
  have h12 : uSk (μs nm) ≤ 12 := hE.ok.2.2.2.2.2.2.2.2.2.1
  have n0 : zNm (uSk (μs nm)) M ((zpop [] st).map fun t => (t, l)) := h
  obtain ⟨M1, t1, f1, n1⟩ := zj_pl (N := N) (w := w) (b := b) (k := 1) (ks := []) (by decide) h12 n0
  have g1 : ∀ (C : zC) (r : zv_X), mX9_pop N (b + 75) 1 (zc w b C M r) = some (zc w b C M1 r) := t1
  obtain ⟨M2, t2, f2, n2⟩ := zj_pl (N := N) (w := w) (b := b) (k := 1) (ks := [1]) (by decide) h12 n1
  have g2 : ∀ (C : zC) (r : zv_X), mX9_pop N (b + 75) 1 (zc w b C M1 r) = some (zc w b C M2 r) := t2
  obtain ⟨M3, t3, f3, n3⟩ := zj_pl1 (N := N) (w := w) (b := b) (k := 1) (ks := [1, 1]) (hE.m9 (zM9.tr (zM9.tr zM9.rf f1) f2)) (by decide) n2
  have g3 : ∀ (C : zC) (r : zv_X), mX9_push N (b + 75) (Int32.ofNat nm) 1 (zc w b C M2 r) = some (zc w b C M3 r) := t3
  refine ⟨M3, (zM9.tr (zM9.tr (zM9.tr zM9.rf f1) f2) f3), n3, fun C r => ?_⟩
  show mX9_judge_194 N (b + 75) (Int32.ofNat nm) P 124 L X Y _ = mX9_judge_570 N (b + 75) (Int32.ofNat nm) P L 1 _
  simp (decide := true) only [mX9_judge_194, mX9_judge_317, mX9_judgeReckoning, mX9_judgeReckoning_0, mX9_judgeReckoning_207, mX9_judgeReckoning_194, mX9_judgeReckoning_191, mX9_judgeReckoning_179, mX9_judgeReckoning_165, mX9_judgeReckoning_164, mX9_judgeReckoning_146, zqk_75, g1, g2, g3, Int32.reduceLT, Int32.reduceLE, Int32.reduceAdd, Int32.reduceSub, Int32.reduceMul, Int32.reduceDiv, Int32.reduceMod, ↓reduceIte, Option.bind_some]
theorem zj_o125 (hE : zEm K F ρ α π C0 M nm μs) (h : zNm (uSk (μs nm)) M (some (st, l))) : zOp w b N nm (K, F, ρ, μs) (μs nm) M st l 125 x y P L X Y := by
  have h12 : uSk (μs nm) ≤ 12 := hE.ok.2.2.2.2.2.2.2.2.2.1
  have n0 : zNm (uSk (μs nm)) M ((zpop [] st).map fun t => (t, l)) := h
  obtain ⟨M1, t1, f1, n1⟩ := zj_pl (N := N) (w := w) (b := b) (k := 1) (ks := []) (by decide) h12 n0
  have g1 : ∀ (C : zC) (r : zv_X), mX9_pop N (b + 75) 1 (zc w b C M r) = some (zc w b C M1 r) := t1
  obtain ⟨M2, t2, f2, n2⟩ := zj_pl (N := N) (w := w) (b := b) (k := 2) (ks := [1]) (by decide) h12 n1
  have g2 : ∀ (C : zC) (r : zv_X), mX9_pop N (b + 75) 2 (zc w b C M1 r) = some (zc w b C M2 r) := t2
  obtain ⟨M3, t3, f3, n3⟩ := zj_pl1 (N := N) (w := w) (b := b) (k := 2) (ks := [1, 2]) (hE.m9 (zM9.tr (zM9.tr zM9.rf f1) f2)) (by decide) n2
  have g3 : ∀ (C : zC) (r : zv_X), mX9_push N (b + 75) (Int32.ofNat nm) 2 (zc w b C M2 r) = some (zc w b C M3 r) := t3
  refine ⟨M3, (zM9.tr (zM9.tr (zM9.tr zM9.rf f1) f2) f3), n3, fun C r => ?_⟩
  show mX9_judge_194 N (b + 75) (Int32.ofNat nm) P 125 L X Y _ = mX9_judge_570 N (b + 75) (Int32.ofNat nm) P L 1 _
  simp (decide := true) only [mX9_judge_194, mX9_judge_317, mX9_judgeReckoning, mX9_judgeReckoning_0, mX9_judgeReckoning_207, mX9_judgeReckoning_194, mX9_judgeReckoning_191, mX9_judgeReckoning_179, mX9_judgeReckoning_165, mX9_judgeReckoning_164, mX9_judgeReckoning_146, zqk_75, g1, g2, g3, Int32.reduceLT, Int32.reduceLE, Int32.reduceAdd, Int32.reduceSub, Int32.reduceMul, Int32.reduceDiv, Int32.reduceMod, ↓reduceIte, Option.bind_some]
theorem zj_o126 (hE : zEm K F ρ α π C0 M nm μs) (h : zNm (uSk (μs nm)) M (some (st, l))) : zOp w b N nm (K, F, ρ, μs) (μs nm) M st l 126 x y P L X Y := by
  have h12 : uSk (μs nm) ≤ 12 := hE.ok.2.2.2.2.2.2.2.2.2.1
  have n0 : zNm (uSk (μs nm)) M ((zpop [] st).map fun t => (t, l)) := h
  obtain ⟨M1, t1, f1, n1⟩ := zj_pl (N := N) (w := w) (b := b) (k := 1) (ks := []) (by decide) h12 n0
  have g1 : ∀ (C : zC) (r : zv_X), mX9_pop N (b + 75) 1 (zc w b C M r) = some (zc w b C M1 r) := t1
  obtain ⟨M2, t2, f2, n2⟩ := zj_pl (N := N) (w := w) (b := b) (k := 1) (ks := [1]) (by decide) h12 n1
  have g2 : ∀ (C : zC) (r : zv_X), mX9_pop N (b + 75) 1 (zc w b C M1 r) = some (zc w b C M2 r) := t2
  obtain ⟨M3, t3, f3, n3⟩ := zj_pl1 (N := N) (w := w) (b := b) (k := 1) (ks := [1, 1]) (hE.m9 (zM9.tr (zM9.tr zM9.rf f1) f2)) (by decide) n2
  have g3 : ∀ (C : zC) (r : zv_X), mX9_push N (b + 75) (Int32.ofNat nm) 1 (zc w b C M2 r) = some (zc w b C M3 r) := t3
  refine ⟨M3, (zM9.tr (zM9.tr (zM9.tr zM9.rf f1) f2) f3), n3, fun C r => ?_⟩
  show mX9_judge_194 N (b + 75) (Int32.ofNat nm) P 126 L X Y _ = mX9_judge_570 N (b + 75) (Int32.ofNat nm) P L 1 _
  simp (decide := true) only [mX9_judge_194, mX9_judge_317, mX9_judgeReckoning, mX9_judgeReckoning_0, mX9_judgeReckoning_207, mX9_judgeReckoning_194, mX9_judgeReckoning_191, mX9_judgeReckoning_179, mX9_judgeReckoning_165, mX9_judgeReckoning_164, mX9_judgeReckoning_146, zqk_75, g1, g2, g3, Int32.reduceLT, Int32.reduceLE, Int32.reduceAdd, Int32.reduceSub, Int32.reduceMul, Int32.reduceDiv, Int32.reduceMod, ↓reduceIte, Option.bind_some]
theorem zj_o127 (hE : zEm K F ρ α π C0 M nm μs) (h : zNm (uSk (μs nm)) M (some (st, l))) : zOp w b N nm (K, F, ρ, μs) (μs nm) M st l 127 x y P L X Y := by
  have h12 : uSk (μs nm) ≤ 12 := hE.ok.2.2.2.2.2.2.2.2.2.1
  have n0 : zNm (uSk (μs nm)) M ((zpop [] st).map fun t => (t, l)) := h
  obtain ⟨M1, t1, f1, n1⟩ := zj_pl (N := N) (w := w) (b := b) (k := 2) (ks := []) (by decide) h12 n0
  have g1 : ∀ (C : zC) (r : zv_X), mX9_pop N (b + 75) 2 (zc w b C M r) = some (zc w b C M1 r) := t1
  obtain ⟨M2, t2, f2, n2⟩ := zj_pl (N := N) (w := w) (b := b) (k := 2) (ks := [2]) (by decide) h12 n1
  have g2 : ∀ (C : zC) (r : zv_X), mX9_pop N (b + 75) 2 (zc w b C M1 r) = some (zc w b C M2 r) := t2
  obtain ⟨M3, t3, f3, n3⟩ := zj_pl1 (N := N) (w := w) (b := b) (k := 2) (ks := [2, 2]) (hE.m9 (zM9.tr (zM9.tr zM9.rf f1) f2)) (by decide) n2
  have g3 : ∀ (C : zC) (r : zv_X), mX9_push N (b + 75) (Int32.ofNat nm) 2 (zc w b C M2 r) = some (zc w b C M3 r) := t3
  refine ⟨M3, (zM9.tr (zM9.tr (zM9.tr zM9.rf f1) f2) f3), n3, fun C r => ?_⟩
  show mX9_judge_194 N (b + 75) (Int32.ofNat nm) P 127 L X Y _ = mX9_judge_570 N (b + 75) (Int32.ofNat nm) P L 1 _
  simp (decide := true) only [mX9_judge_194, mX9_judge_317, mX9_judgeReckoning, mX9_judgeReckoning_0, mX9_judgeReckoning_207, mX9_judgeReckoning_194, mX9_judgeReckoning_191, mX9_judgeReckoning_179, mX9_judgeReckoning_165, mX9_judgeReckoning_164, mX9_judgeReckoning_146, zqk_75, g1, g2, g3, Int32.reduceLT, Int32.reduceLE, Int32.reduceAdd, Int32.reduceSub, Int32.reduceMul, Int32.reduceDiv, Int32.reduceMod, ↓reduceIte, Option.bind_some]
theorem zj_o128 (hE : zEm K F ρ α π C0 M nm μs) (h : zNm (uSk (μs nm)) M (some (st, l))) : zOp w b N nm (K, F, ρ, μs) (μs nm) M st l 128 x y P L X Y := by
  have h12 : uSk (μs nm) ≤ 12 := hE.ok.2.2.2.2.2.2.2.2.2.1
  have n0 : zNm (uSk (μs nm)) M ((zpop [] st).map fun t => (t, l)) := h
  obtain ⟨M1, t1, f1, n1⟩ := zj_pl (N := N) (w := w) (b := b) (k := 1) (ks := []) (by decide) h12 n0
  have g1 : ∀ (C : zC) (r : zv_X), mX9_pop N (b + 75) 1 (zc w b C M r) = some (zc w b C M1 r) := t1
  obtain ⟨M2, t2, f2, n2⟩ := zj_pl (N := N) (w := w) (b := b) (k := 1) (ks := [1]) (by decide) h12 n1
  have g2 : ∀ (C : zC) (r : zv_X), mX9_pop N (b + 75) 1 (zc w b C M1 r) = some (zc w b C M2 r) := t2
  obtain ⟨M3, t3, f3, n3⟩ := zj_pl1 (N := N) (w := w) (b := b) (k := 1) (ks := [1, 1]) (hE.m9 (zM9.tr (zM9.tr zM9.rf f1) f2)) (by decide) n2
  have g3 : ∀ (C : zC) (r : zv_X), mX9_push N (b + 75) (Int32.ofNat nm) 1 (zc w b C M2 r) = some (zc w b C M3 r) := t3
  refine ⟨M3, (zM9.tr (zM9.tr (zM9.tr zM9.rf f1) f2) f3), n3, fun C r => ?_⟩
  show mX9_judge_194 N (b + 75) (Int32.ofNat nm) P 128 L X Y _ = mX9_judge_570 N (b + 75) (Int32.ofNat nm) P L 1 _
  simp (decide := true) only [mX9_judge_194, mX9_judge_317, mX9_judgeReckoning, mX9_judgeReckoning_0, mX9_judgeReckoning_207, mX9_judgeReckoning_194, mX9_judgeReckoning_191, mX9_judgeReckoning_179, mX9_judgeReckoning_165, mX9_judgeReckoning_164, mX9_judgeReckoning_146, zqk_75, g1, g2, g3, Int32.reduceLT, Int32.reduceLE, Int32.reduceAdd, Int32.reduceSub, Int32.reduceMul, Int32.reduceDiv, Int32.reduceMod, ↓reduceIte, Option.bind_some]
theorem zj_o129 (hE : zEm K F ρ α π C0 M nm μs) (h : zNm (uSk (μs nm)) M (some (st, l))) : zOp w b N nm (K, F, ρ, μs) (μs nm) M st l 129 x y P L X Y := by
  have h12 : uSk (μs nm) ≤ 12 := hE.ok.2.2.2.2.2.2.2.2.2.1
  have n0 : zNm (uSk (μs nm)) M ((zpop [] st).map fun t => (t, l)) := h
  obtain ⟨M1, t1, f1, n1⟩ := zj_pl (N := N) (w := w) (b := b) (k := 2) (ks := []) (by decide) h12 n0
  have g1 : ∀ (C : zC) (r : zv_X), mX9_pop N (b + 75) 2 (zc w b C M r) = some (zc w b C M1 r) := t1
  obtain ⟨M2, t2, f2, n2⟩ := zj_pl (N := N) (w := w) (b := b) (k := 2) (ks := [2]) (by decide) h12 n1
  have g2 : ∀ (C : zC) (r : zv_X), mX9_pop N (b + 75) 2 (zc w b C M1 r) = some (zc w b C M2 r) := t2
  obtain ⟨M3, t3, f3, n3⟩ := zj_pl1 (N := N) (w := w) (b := b) (k := 2) (ks := [2, 2]) (hE.m9 (zM9.tr (zM9.tr zM9.rf f1) f2)) (by decide) n2
  have g3 : ∀ (C : zC) (r : zv_X), mX9_push N (b + 75) (Int32.ofNat nm) 2 (zc w b C M2 r) = some (zc w b C M3 r) := t3
  refine ⟨M3, (zM9.tr (zM9.tr (zM9.tr zM9.rf f1) f2) f3), n3, fun C r => ?_⟩
  show mX9_judge_194 N (b + 75) (Int32.ofNat nm) P 129 L X Y _ = mX9_judge_570 N (b + 75) (Int32.ofNat nm) P L 1 _
  simp (decide := true) only [mX9_judge_194, mX9_judge_317, mX9_judgeReckoning, mX9_judgeReckoning_0, mX9_judgeReckoning_207, mX9_judgeReckoning_194, mX9_judgeReckoning_191, mX9_judgeReckoning_179, mX9_judgeReckoning_165, mX9_judgeReckoning_164, mX9_judgeReckoning_146, zqk_75, g1, g2, g3, Int32.reduceLT, Int32.reduceLE, Int32.reduceAdd, Int32.reduceSub, Int32.reduceMul, Int32.reduceDiv, Int32.reduceMod, ↓reduceIte, Option.bind_some]
theorem zj_o130 (hE : zEm K F ρ α π C0 M nm μs) (h : zNm (uSk (μs nm)) M (some (st, l))) : zOp w b N nm (K, F, ρ, μs) (μs nm) M st l 130 x y P L X Y := by
  have h12 : uSk (μs nm) ≤ 12 := hE.ok.2.2.2.2.2.2.2.2.2.1
  have n0 : zNm (uSk (μs nm)) M ((zpop [] st).map fun t => (t, l)) := h
  obtain ⟨M1, t1, f1, n1⟩ := zj_pl (N := N) (w := w) (b := b) (k := 1) (ks := []) (by decide) h12 n0
  have g1 : ∀ (C : zC) (r : zv_X), mX9_pop N (b + 75) 1 (zc w b C M r) = some (zc w b C M1 r) := t1
  obtain ⟨M2, t2, f2, n2⟩ := zj_pl (N := N) (w := w) (b := b) (k := 1) (ks := [1]) (by decide) h12 n1
  have g2 : ∀ (C : zC) (r : zv_X), mX9_pop N (b + 75) 1 (zc w b C M1 r) = some (zc w b C M2 r) := t2
  obtain ⟨M3, t3, f3, n3⟩ := zj_pl1 (N := N) (w := w) (b := b) (k := 1) (ks := [1, 1]) (hE.m9 (zM9.tr (zM9.tr zM9.rf f1) f2)) (by decide) n2
  have g3 : ∀ (C : zC) (r : zv_X), mX9_push N (b + 75) (Int32.ofNat nm) 1 (zc w b C M2 r) = some (zc w b C M3 r) := t3
  refine ⟨M3, (zM9.tr (zM9.tr (zM9.tr zM9.rf f1) f2) f3), n3, fun C r => ?_⟩
  show mX9_judge_194 N (b + 75) (Int32.ofNat nm) P 130 L X Y _ = mX9_judge_570 N (b + 75) (Int32.ofNat nm) P L 1 _
  simp (decide := true) only [mX9_judge_194, mX9_judge_317, mX9_judgeReckoning, mX9_judgeReckoning_0, mX9_judgeReckoning_207, mX9_judgeReckoning_194, mX9_judgeReckoning_191, mX9_judgeReckoning_179, mX9_judgeReckoning_165, mX9_judgeReckoning_164, mX9_judgeReckoning_146, zqk_75, g1, g2, g3, Int32.reduceLT, Int32.reduceLE, Int32.reduceAdd, Int32.reduceSub, Int32.reduceMul, Int32.reduceDiv, Int32.reduceMod, ↓reduceIte, Option.bind_some]
theorem zj_o131 (hE : zEm K F ρ α π C0 M nm μs) (h : zNm (uSk (μs nm)) M (some (st, l))) : zOp w b N nm (K, F, ρ, μs) (μs nm) M st l 131 x y P L X Y := by
  have h12 : uSk (μs nm) ≤ 12 := hE.ok.2.2.2.2.2.2.2.2.2.1
  have n0 : zNm (uSk (μs nm)) M ((zpop [] st).map fun t => (t, l)) := h
  obtain ⟨M1, t1, f1, n1⟩ := zj_pl (N := N) (w := w) (b := b) (k := 2) (ks := []) (by decide) h12 n0
  have g1 : ∀ (C : zC) (r : zv_X), mX9_pop N (b + 75) 2 (zc w b C M r) = some (zc w b C M1 r) := t1
  obtain ⟨M2, t2, f2, n2⟩ := zj_pl (N := N) (w := w) (b := b) (k := 2) (ks := [2]) (by decide) h12 n1
  have g2 : ∀ (C : zC) (r : zv_X), mX9_pop N (b + 75) 2 (zc w b C M1 r) = some (zc w b C M2 r) := t2
  obtain ⟨M3, t3, f3, n3⟩ := zj_pl1 (N := N) (w := w) (b := b) (k := 2) (ks := [2, 2]) (hE.m9 (zM9.tr (zM9.tr zM9.rf f1) f2)) (by decide) n2
  have g3 : ∀ (C : zC) (r : zv_X), mX9_push N (b + 75) (Int32.ofNat nm) 2 (zc w b C M2 r) = some (zc w b C M3 r) := t3
  refine ⟨M3, (zM9.tr (zM9.tr (zM9.tr zM9.rf f1) f2) f3), n3, fun C r => ?_⟩
  show mX9_judge_194 N (b + 75) (Int32.ofNat nm) P 131 L X Y _ = mX9_judge_570 N (b + 75) (Int32.ofNat nm) P L 1 _
  simp (decide := true) only [mX9_judge_194, mX9_judge_317, mX9_judgeReckoning, mX9_judgeReckoning_0, mX9_judgeReckoning_207, mX9_judgeReckoning_194, mX9_judgeReckoning_191, mX9_judgeReckoning_179, mX9_judgeReckoning_165, mX9_judgeReckoning_164, mX9_judgeReckoning_146, zqk_75, g1, g2, g3, Int32.reduceLT, Int32.reduceLE, Int32.reduceAdd, Int32.reduceSub, Int32.reduceMul, Int32.reduceDiv, Int32.reduceMod, ↓reduceIte, Option.bind_some]
theorem zj_o133 (hE : zEm K F ρ α π C0 M nm μs) (h : zNm (uSk (μs nm)) M (some (st, l))) : zOp w b N nm (K, F, ρ, μs) (μs nm) M st l 133 x y P L X Y := by
  have h12 : uSk (μs nm) ≤ 12 := hE.ok.2.2.2.2.2.2.2.2.2.1
  have n0 : zNm (uSk (μs nm)) M ((zpop [] st).map fun t => (t, l)) := h
  obtain ⟨M1, t1, f1, n1⟩ := zj_pl (N := N) (w := w) (b := b) (k := 1) (ks := []) (by decide) h12 n0
  have g1 : ∀ (C : zC) (r : zv_X), mX9_pop N (b + 75) 1 (zc w b C M r) = some (zc w b C M1 r) := t1
  obtain ⟨M2, t2, f2, n2⟩ := zj_pl1 (N := N) (w := w) (b := b) (k := 2) (ks := [1]) (hE.m9 (zM9.tr zM9.rf f1)) (by decide) n1
  have g2 : ∀ (C : zC) (r : zv_X), mX9_push N (b + 75) (Int32.ofNat nm) 2 (zc w b C M1 r) = some (zc w b C M2 r) := t2
  refine ⟨M2, (zM9.tr (zM9.tr zM9.rf f1) f2), n2, fun C r => ?_⟩
  show mX9_judge_194 N (b + 75) (Int32.ofNat nm) P 133 L X Y _ = mX9_judge_570 N (b + 75) (Int32.ofNat nm) P L 1 _
  simp (decide := true) only [mX9_judge_194, mX9_judge_317, mX9_judgeReckoning, mX9_judgeReckoning_0, mX9_judgeReckoning_207, mX9_judgeReckoning_194, mX9_judgeReckoning_191, mX9_judgeReckoning_179, mX9_judgeReckoning_165, mX9_judgeReckoning_164, mX9_judgeReckoning_146, zqk_75, g1, g2, Int32.reduceLT, Int32.reduceLE, Int32.reduceAdd, Int32.reduceSub, Int32.reduceMul, Int32.reduceDiv, Int32.reduceMod, ↓reduceIte, Option.bind_some]
theorem zj_o136 (hE : zEm K F ρ α π C0 M nm μs) (h : zNm (uSk (μs nm)) M (some (st, l))) : zOp w b N nm (K, F, ρ, μs) (μs nm) M st l 136 x y P L X Y := by
  have h12 : uSk (μs nm) ≤ 12 := hE.ok.2.2.2.2.2.2.2.2.2.1
  have n0 : zNm (uSk (μs nm)) M ((zpop [] st).map fun t => (t, l)) := h
  obtain ⟨M1, t1, f1, n1⟩ := zj_pl (N := N) (w := w) (b := b) (k := 2) (ks := []) (by decide) h12 n0
  have g1 : ∀ (C : zC) (r : zv_X), mX9_pop N (b + 75) 2 (zc w b C M r) = some (zc w b C M1 r) := t1
  obtain ⟨M2, t2, f2, n2⟩ := zj_pl1 (N := N) (w := w) (b := b) (k := 1) (ks := [2]) (hE.m9 (zM9.tr zM9.rf f1)) (by decide) n1
  have g2 : ∀ (C : zC) (r : zv_X), mX9_push N (b + 75) (Int32.ofNat nm) 1 (zc w b C M1 r) = some (zc w b C M2 r) := t2
  refine ⟨M2, (zM9.tr (zM9.tr zM9.rf f1) f2), n2, fun C r => ?_⟩
  show mX9_judge_194 N (b + 75) (Int32.ofNat nm) P 136 L X Y _ = mX9_judge_570 N (b + 75) (Int32.ofNat nm) P L 1 _
  simp (decide := true) only [mX9_judge_194, mX9_judge_317, mX9_judgeReckoning, mX9_judgeReckoning_0, mX9_judgeReckoning_207, mX9_judgeReckoning_194, mX9_judgeReckoning_191, mX9_judgeReckoning_179, mX9_judgeReckoning_165, mX9_judgeReckoning_164, mX9_judgeReckoning_146, zqk_75, g1, g2, Int32.reduceLT, Int32.reduceLE, Int32.reduceAdd, Int32.reduceSub, Int32.reduceMul, Int32.reduceDiv, Int32.reduceMod, ↓reduceIte, Option.bind_some]
theorem zj_o145 (hE : zEm K F ρ α π C0 M nm μs) (h : zNm (uSk (μs nm)) M (some (st, l))) : zOp w b N nm (K, F, ρ, μs) (μs nm) M st l 145 x y P L X Y := by
  have h12 : uSk (μs nm) ≤ 12 := hE.ok.2.2.2.2.2.2.2.2.2.1
  have n0 : zNm (uSk (μs nm)) M ((zpop [] st).map fun t => (t, l)) := h
  obtain ⟨M1, t1, f1, n1⟩ := zj_pl (N := N) (w := w) (b := b) (k := 1) (ks := []) (by decide) h12 n0
  have g1 : ∀ (C : zC) (r : zv_X), mX9_pop N (b + 75) 1 (zc w b C M r) = some (zc w b C M1 r) := t1
  obtain ⟨M2, t2, f2, n2⟩ := zj_pl1 (N := N) (w := w) (b := b) (k := 1) (ks := [1]) (hE.m9 (zM9.tr zM9.rf f1)) (by decide) n1
  have g2 : ∀ (C : zC) (r : zv_X), mX9_push N (b + 75) (Int32.ofNat nm) 1 (zc w b C M1 r) = some (zc w b C M2 r) := t2
  refine ⟨M2, (zM9.tr (zM9.tr zM9.rf f1) f2), n2, fun C r => ?_⟩
  show mX9_judge_194 N (b + 75) (Int32.ofNat nm) P 145 L X Y _ = mX9_judge_570 N (b + 75) (Int32.ofNat nm) P L 1 _
  simp (decide := true) only [mX9_judge_194, mX9_judge_317, mX9_judgeReckoning, mX9_judgeReckoning_0, mX9_judgeReckoning_207, mX9_judgeReckoning_194, mX9_judgeReckoning_191, mX9_judgeReckoning_179, mX9_judgeReckoning_165, mX9_judgeReckoning_164, mX9_judgeReckoning_146, zqk_75, g1, g2, Int32.reduceLT, Int32.reduceLE, Int32.reduceAdd, Int32.reduceSub, Int32.reduceMul, Int32.reduceDiv, Int32.reduceMod, ↓reduceIte, Option.bind_some]
theorem zj_o146 (hE : zEm K F ρ α π C0 M nm μs) (h : zNm (uSk (μs nm)) M (some (st, l))) : zOp w b N nm (K, F, ρ, μs) (μs nm) M st l 146 x y P L X Y := by
  have h12 : uSk (μs nm) ≤ 12 := hE.ok.2.2.2.2.2.2.2.2.2.1
  have n0 : zNm (uSk (μs nm)) M ((zpop [] st).map fun t => (t, l)) := h
  obtain ⟨M1, t1, f1, n1⟩ := zj_pl (N := N) (w := w) (b := b) (k := 1) (ks := []) (by decide) h12 n0
  have g1 : ∀ (C : zC) (r : zv_X), mX9_pop N (b + 75) 1 (zc w b C M r) = some (zc w b C M1 r) := t1
  obtain ⟨M2, t2, f2, n2⟩ := zj_pl1 (N := N) (w := w) (b := b) (k := 1) (ks := [1]) (hE.m9 (zM9.tr zM9.rf f1)) (by decide) n1
  have g2 : ∀ (C : zC) (r : zv_X), mX9_push N (b + 75) (Int32.ofNat nm) 1 (zc w b C M1 r) = some (zc w b C M2 r) := t2
  refine ⟨M2, (zM9.tr (zM9.tr zM9.rf f1) f2), n2, fun C r => ?_⟩
  show mX9_judge_194 N (b + 75) (Int32.ofNat nm) P 146 L X Y _ = mX9_judge_570 N (b + 75) (Int32.ofNat nm) P L 1 _
  simp (decide := true) only [mX9_judge_194, mX9_judge_317, mX9_judgeReckoning, mX9_judgeReckoning_0, mX9_judgeReckoning_207, mX9_judgeReckoning_194, mX9_judgeReckoning_191, mX9_judgeReckoning_179, mX9_judgeReckoning_165, mX9_judgeReckoning_164, mX9_judgeReckoning_146, zqk_75, g1, g2, Int32.reduceLT, Int32.reduceLE, Int32.reduceAdd, Int32.reduceSub, Int32.reduceMul, Int32.reduceDiv, Int32.reduceMod, ↓reduceIte, Option.bind_some]
theorem zj_o147 (hE : zEm K F ρ α π C0 M nm μs) (h : zNm (uSk (μs nm)) M (some (st, l))) : zOp w b N nm (K, F, ρ, μs) (μs nm) M st l 147 x y P L X Y := by
  have h12 : uSk (μs nm) ≤ 12 := hE.ok.2.2.2.2.2.2.2.2.2.1
  have n0 : zNm (uSk (μs nm)) M ((zpop [] st).map fun t => (t, l)) := h
  obtain ⟨M1, t1, f1, n1⟩ := zj_pl (N := N) (w := w) (b := b) (k := 1) (ks := []) (by decide) h12 n0
  have g1 : ∀ (C : zC) (r : zv_X), mX9_pop N (b + 75) 1 (zc w b C M r) = some (zc w b C M1 r) := t1
  obtain ⟨M2, t2, f2, n2⟩ := zj_pl1 (N := N) (w := w) (b := b) (k := 1) (ks := [1]) (hE.m9 (zM9.tr zM9.rf f1)) (by decide) n1
  have g2 : ∀ (C : zC) (r : zv_X), mX9_push N (b + 75) (Int32.ofNat nm) 1 (zc w b C M1 r) = some (zc w b C M2 r) := t2
  refine ⟨M2, (zM9.tr (zM9.tr zM9.rf f1) f2), n2, fun C r => ?_⟩
  show mX9_judge_194 N (b + 75) (Int32.ofNat nm) P 147 L X Y _ = mX9_judge_570 N (b + 75) (Int32.ofNat nm) P L 1 _
  simp (decide := true) only [mX9_judge_194, mX9_judge_317, mX9_judgeReckoning, mX9_judgeReckoning_0, mX9_judgeReckoning_207, mX9_judgeReckoning_194, mX9_judgeReckoning_191, mX9_judgeReckoning_179, mX9_judgeReckoning_165, mX9_judgeReckoning_164, mX9_judgeReckoning_146, zqk_75, g1, g2, Int32.reduceLT, Int32.reduceLE, Int32.reduceAdd, Int32.reduceSub, Int32.reduceMul, Int32.reduceDiv, Int32.reduceMod, ↓reduceIte, Option.bind_some]
theorem zj_o148 (hE : zEm K F ρ α π C0 M nm μs) (h : zNm (uSk (μs nm)) M (some (st, l))) : zOp w b N nm (K, F, ρ, μs) (μs nm) M st l 148 x y P L X Y := by
  have h12 : uSk (μs nm) ≤ 12 := hE.ok.2.2.2.2.2.2.2.2.2.1
  have n0 : zNm (uSk (μs nm)) M ((zpop [] st).map fun t => (t, l)) := h
  obtain ⟨M1, t1, f1, n1⟩ := zj_pl (N := N) (w := w) (b := b) (k := 2) (ks := []) (by decide) h12 n0
  have g1 : ∀ (C : zC) (r : zv_X), mX9_pop N (b + 75) 2 (zc w b C M r) = some (zc w b C M1 r) := t1
  obtain ⟨M2, t2, f2, n2⟩ := zj_pl (N := N) (w := w) (b := b) (k := 2) (ks := [2]) (by decide) h12 n1
  have g2 : ∀ (C : zC) (r : zv_X), mX9_pop N (b + 75) 2 (zc w b C M1 r) = some (zc w b C M2 r) := t2
  obtain ⟨M3, t3, f3, n3⟩ := zj_pl1 (N := N) (w := w) (b := b) (k := 1) (ks := [2, 2]) (hE.m9 (zM9.tr (zM9.tr zM9.rf f1) f2)) (by decide) n2
  have g3 : ∀ (C : zC) (r : zv_X), mX9_push N (b + 75) (Int32.ofNat nm) 1 (zc w b C M2 r) = some (zc w b C M3 r) := t3
  refine ⟨M3, (zM9.tr (zM9.tr (zM9.tr zM9.rf f1) f2) f3), n3, fun C r => ?_⟩
  show mX9_judge_194 N (b + 75) (Int32.ofNat nm) P 148 L X Y _ = mX9_judge_570 N (b + 75) (Int32.ofNat nm) P L 1 _
  simp (decide := true) only [mX9_judge_194, mX9_judge_317, mX9_judgeReckoning, mX9_judgeReckoning_0, mX9_judgeReckoning_207, mX9_judgeReckoning_194, mX9_judgeReckoning_191, mX9_judgeReckoning_179, mX9_judgeReckoning_165, mX9_judgeReckoning_164, mX9_judgeReckoning_146, zqk_75, g1, g2, g3, Int32.reduceLT, Int32.reduceLE, Int32.reduceAdd, Int32.reduceSub, Int32.reduceMul, Int32.reduceDiv, Int32.reduceMod, ↓reduceIte, Option.bind_some]
theorem zj_o153 (hE : zEm K F ρ α π C0 M nm μs) (h : zNm (uSk (μs nm)) M (some (st, l))) : zOp w b N nm (K, F, ρ, μs) (μs nm) M st l 153 x y P L X Y := by
  have h12 : uSk (μs nm) ≤ 12 := hE.ok.2.2.2.2.2.2.2.2.2.1
  have n0 : zNm (uSk (μs nm)) M ((zpop [] st).map fun t => (t, l)) := h
  obtain ⟨M1, t1, f1, n1⟩ := zj_pl (N := N) (w := w) (b := b) (k := 1) (ks := []) (by decide) h12 n0
  have g1 : ∀ (C : zC) (r : zv_X), mX9_pop N (b + 75) 1 (zc w b C M r) = some (zc w b C M1 r) := t1
  refine ⟨M1, (zM9.tr zM9.rf f1), (zj_end0 h n1), fun C r => ?_⟩
  show mX9_judge_194 N (b + 75) (Int32.ofNat nm) P 153 L X Y _ = zTb N b (Int32.ofNat nm) P 153 L _
  simp (decide := true) only [mX9_judge_194, mX9_judge_317, mX9_judge_419, mX9_judgeBranch, mX9_judgeBranch_0, mX9_judgeBranch_19, mX9_judgeBranch_38, mX9_judgeBranch_59, mX9_judgeBranch_64, mX9_judgeBranch_78, mX9_judgeBranch_83, zTb, zqk_75, g1, Int32.reduceLT, Int32.reduceLE, Int32.reduceAdd, Int32.reduceSub, Int32.reduceMul, Int32.reduceDiv, Int32.reduceMod, ↓reduceIte, Option.bind_some]
theorem zj_o154 (hE : zEm K F ρ α π C0 M nm μs) (h : zNm (uSk (μs nm)) M (some (st, l))) : zOp w b N nm (K, F, ρ, μs) (μs nm) M st l 154 x y P L X Y := by
  have h12 : uSk (μs nm) ≤ 12 := hE.ok.2.2.2.2.2.2.2.2.2.1
  have n0 : zNm (uSk (μs nm)) M ((zpop [] st).map fun t => (t, l)) := h
  obtain ⟨M1, t1, f1, n1⟩ := zj_pl (N := N) (w := w) (b := b) (k := 1) (ks := []) (by decide) h12 n0
  have g1 : ∀ (C : zC) (r : zv_X), mX9_pop N (b + 75) 1 (zc w b C M r) = some (zc w b C M1 r) := t1
  refine ⟨M1, (zM9.tr zM9.rf f1), (zj_end0 h n1), fun C r => ?_⟩
  show mX9_judge_194 N (b + 75) (Int32.ofNat nm) P 154 L X Y _ = zTb N b (Int32.ofNat nm) P 154 L _
  simp (decide := true) only [mX9_judge_194, mX9_judge_317, mX9_judge_419, mX9_judgeBranch, mX9_judgeBranch_0, mX9_judgeBranch_19, mX9_judgeBranch_38, mX9_judgeBranch_59, mX9_judgeBranch_64, mX9_judgeBranch_78, mX9_judgeBranch_83, zTb, zqk_75, g1, Int32.reduceLT, Int32.reduceLE, Int32.reduceAdd, Int32.reduceSub, Int32.reduceMul, Int32.reduceDiv, Int32.reduceMod, ↓reduceIte, Option.bind_some]
theorem zj_o155 (hE : zEm K F ρ α π C0 M nm μs) (h : zNm (uSk (μs nm)) M (some (st, l))) : zOp w b N nm (K, F, ρ, μs) (μs nm) M st l 155 x y P L X Y := by
  have h12 : uSk (μs nm) ≤ 12 := hE.ok.2.2.2.2.2.2.2.2.2.1
  have n0 : zNm (uSk (μs nm)) M ((zpop [] st).map fun t => (t, l)) := h
  obtain ⟨M1, t1, f1, n1⟩ := zj_pl (N := N) (w := w) (b := b) (k := 1) (ks := []) (by decide) h12 n0
  have g1 : ∀ (C : zC) (r : zv_X), mX9_pop N (b + 75) 1 (zc w b C M r) = some (zc w b C M1 r) := t1
  refine ⟨M1, (zM9.tr zM9.rf f1), (zj_end0 h n1), fun C r => ?_⟩
  show mX9_judge_194 N (b + 75) (Int32.ofNat nm) P 155 L X Y _ = zTb N b (Int32.ofNat nm) P 155 L _
  simp (decide := true) only [mX9_judge_194, mX9_judge_317, mX9_judge_419, mX9_judgeBranch, mX9_judgeBranch_0, mX9_judgeBranch_19, mX9_judgeBranch_38, mX9_judgeBranch_59, mX9_judgeBranch_64, mX9_judgeBranch_78, mX9_judgeBranch_83, zTb, zqk_75, g1, Int32.reduceLT, Int32.reduceLE, Int32.reduceAdd, Int32.reduceSub, Int32.reduceMul, Int32.reduceDiv, Int32.reduceMod, ↓reduceIte, Option.bind_some]
theorem zj_o156 (hE : zEm K F ρ α π C0 M nm μs) (h : zNm (uSk (μs nm)) M (some (st, l))) : zOp w b N nm (K, F, ρ, μs) (μs nm) M st l 156 x y P L X Y := by
  have h12 : uSk (μs nm) ≤ 12 := hE.ok.2.2.2.2.2.2.2.2.2.1
  have n0 : zNm (uSk (μs nm)) M ((zpop [] st).map fun t => (t, l)) := h
  obtain ⟨M1, t1, f1, n1⟩ := zj_pl (N := N) (w := w) (b := b) (k := 1) (ks := []) (by decide) h12 n0
  have g1 : ∀ (C : zC) (r : zv_X), mX9_pop N (b + 75) 1 (zc w b C M r) = some (zc w b C M1 r) := t1
  refine ⟨M1, (zM9.tr zM9.rf f1), (zj_end0 h n1), fun C r => ?_⟩
  show mX9_judge_194 N (b + 75) (Int32.ofNat nm) P 156 L X Y _ = zTb N b (Int32.ofNat nm) P 156 L _
  simp (decide := true) only [mX9_judge_194, mX9_judge_317, mX9_judge_419, mX9_judgeBranch, mX9_judgeBranch_0, mX9_judgeBranch_19, mX9_judgeBranch_38, mX9_judgeBranch_59, mX9_judgeBranch_64, mX9_judgeBranch_78, mX9_judgeBranch_83, zTb, zqk_75, g1, Int32.reduceLT, Int32.reduceLE, Int32.reduceAdd, Int32.reduceSub, Int32.reduceMul, Int32.reduceDiv, Int32.reduceMod, ↓reduceIte, Option.bind_some]
theorem zj_o157 (hE : zEm K F ρ α π C0 M nm μs) (h : zNm (uSk (μs nm)) M (some (st, l))) : zOp w b N nm (K, F, ρ, μs) (μs nm) M st l 157 x y P L X Y := by
  have h12 : uSk (μs nm) ≤ 12 := hE.ok.2.2.2.2.2.2.2.2.2.1
  have n0 : zNm (uSk (μs nm)) M ((zpop [] st).map fun t => (t, l)) := h
  obtain ⟨M1, t1, f1, n1⟩ := zj_pl (N := N) (w := w) (b := b) (k := 1) (ks := []) (by decide) h12 n0
  have g1 : ∀ (C : zC) (r : zv_X), mX9_pop N (b + 75) 1 (zc w b C M r) = some (zc w b C M1 r) := t1
  refine ⟨M1, (zM9.tr zM9.rf f1), (zj_end0 h n1), fun C r => ?_⟩
  show mX9_judge_194 N (b + 75) (Int32.ofNat nm) P 157 L X Y _ = zTb N b (Int32.ofNat nm) P 157 L _
  simp (decide := true) only [mX9_judge_194, mX9_judge_317, mX9_judge_419, mX9_judgeBranch, mX9_judgeBranch_0, mX9_judgeBranch_19, mX9_judgeBranch_38, mX9_judgeBranch_59, mX9_judgeBranch_64, mX9_judgeBranch_78, mX9_judgeBranch_83, zTb, zqk_75, g1, Int32.reduceLT, Int32.reduceLE, Int32.reduceAdd, Int32.reduceSub, Int32.reduceMul, Int32.reduceDiv, Int32.reduceMod, ↓reduceIte, Option.bind_some]
theorem zj_o158 (hE : zEm K F ρ α π C0 M nm μs) (h : zNm (uSk (μs nm)) M (some (st, l))) : zOp w b N nm (K, F, ρ, μs) (μs nm) M st l 158 x y P L X Y := by
  have h12 : uSk (μs nm) ≤ 12 := hE.ok.2.2.2.2.2.2.2.2.2.1
  have n0 : zNm (uSk (μs nm)) M ((zpop [] st).map fun t => (t, l)) := h
  obtain ⟨M1, t1, f1, n1⟩ := zj_pl (N := N) (w := w) (b := b) (k := 1) (ks := []) (by decide) h12 n0
  have g1 : ∀ (C : zC) (r : zv_X), mX9_pop N (b + 75) 1 (zc w b C M r) = some (zc w b C M1 r) := t1
  refine ⟨M1, (zM9.tr zM9.rf f1), (zj_end0 h n1), fun C r => ?_⟩
  show mX9_judge_194 N (b + 75) (Int32.ofNat nm) P 158 L X Y _ = zTb N b (Int32.ofNat nm) P 158 L _
  simp (decide := true) only [mX9_judge_194, mX9_judge_317, mX9_judge_419, mX9_judgeBranch, mX9_judgeBranch_0, mX9_judgeBranch_19, mX9_judgeBranch_38, mX9_judgeBranch_59, mX9_judgeBranch_64, mX9_judgeBranch_78, mX9_judgeBranch_83, zTb, zqk_75, g1, Int32.reduceLT, Int32.reduceLE, Int32.reduceAdd, Int32.reduceSub, Int32.reduceMul, Int32.reduceDiv, Int32.reduceMod, ↓reduceIte, Option.bind_some]
theorem zj_o159 (hE : zEm K F ρ α π C0 M nm μs) (h : zNm (uSk (μs nm)) M (some (st, l))) : zOp w b N nm (K, F, ρ, μs) (μs nm) M st l 159 x y P L X Y := by
  have h12 : uSk (μs nm) ≤ 12 := hE.ok.2.2.2.2.2.2.2.2.2.1
  have n0 : zNm (uSk (μs nm)) M ((zpop [] st).map fun t => (t, l)) := h
  obtain ⟨M1, t1, f1, n1⟩ := zj_pl (N := N) (w := w) (b := b) (k := 1) (ks := []) (by decide) h12 n0
  have g1 : ∀ (C : zC) (r : zv_X), mX9_pop N (b + 75) 1 (zc w b C M r) = some (zc w b C M1 r) := t1
  obtain ⟨M2, t2, f2, n2⟩ := zj_pl (N := N) (w := w) (b := b) (k := 1) (ks := [1]) (by decide) h12 n1
  have g2 : ∀ (C : zC) (r : zv_X), mX9_pop N (b + 75) 1 (zc w b C M1 r) = some (zc w b C M2 r) := t2
  refine ⟨M2, (zM9.tr (zM9.tr zM9.rf f1) f2), (zj_end0 h n2), fun C r => ?_⟩
  show mX9_judge_194 N (b + 75) (Int32.ofNat nm) P 159 L X Y _ = zTb N b (Int32.ofNat nm) P 159 L _
  simp (decide := true) only [mX9_judge_194, mX9_judge_317, mX9_judge_419, mX9_judgeBranch, mX9_judgeBranch_0, mX9_judgeBranch_19, mX9_judgeBranch_38, mX9_judgeBranch_59, mX9_judgeBranch_64, mX9_judgeBranch_78, mX9_judgeBranch_83, zTb, zqk_75, g1, g2, Int32.reduceLT, Int32.reduceLE, Int32.reduceAdd, Int32.reduceSub, Int32.reduceMul, Int32.reduceDiv, Int32.reduceMod, ↓reduceIte, Option.bind_some]
theorem zj_o160 (hE : zEm K F ρ α π C0 M nm μs) (h : zNm (uSk (μs nm)) M (some (st, l))) : zOp w b N nm (K, F, ρ, μs) (μs nm) M st l 160 x y P L X Y := by
  have h12 : uSk (μs nm) ≤ 12 := hE.ok.2.2.2.2.2.2.2.2.2.1
  have n0 : zNm (uSk (μs nm)) M ((zpop [] st).map fun t => (t, l)) := h
  obtain ⟨M1, t1, f1, n1⟩ := zj_pl (N := N) (w := w) (b := b) (k := 1) (ks := []) (by decide) h12 n0
  have g1 : ∀ (C : zC) (r : zv_X), mX9_pop N (b + 75) 1 (zc w b C M r) = some (zc w b C M1 r) := t1
  obtain ⟨M2, t2, f2, n2⟩ := zj_pl (N := N) (w := w) (b := b) (k := 1) (ks := [1]) (by decide) h12 n1
  have g2 : ∀ (C : zC) (r : zv_X), mX9_pop N (b + 75) 1 (zc w b C M1 r) = some (zc w b C M2 r) := t2
  refine ⟨M2, (zM9.tr (zM9.tr zM9.rf f1) f2), (zj_end0 h n2), fun C r => ?_⟩
  show mX9_judge_194 N (b + 75) (Int32.ofNat nm) P 160 L X Y _ = zTb N b (Int32.ofNat nm) P 160 L _
  simp (decide := true) only [mX9_judge_194, mX9_judge_317, mX9_judge_419, mX9_judgeBranch, mX9_judgeBranch_0, mX9_judgeBranch_19, mX9_judgeBranch_38, mX9_judgeBranch_59, mX9_judgeBranch_64, mX9_judgeBranch_78, mX9_judgeBranch_83, zTb, zqk_75, g1, g2, Int32.reduceLT, Int32.reduceLE, Int32.reduceAdd, Int32.reduceSub, Int32.reduceMul, Int32.reduceDiv, Int32.reduceMod, ↓reduceIte, Option.bind_some]
theorem zj_o161 (hE : zEm K F ρ α π C0 M nm μs) (h : zNm (uSk (μs nm)) M (some (st, l))) : zOp w b N nm (K, F, ρ, μs) (μs nm) M st l 161 x y P L X Y := by
  have h12 : uSk (μs nm) ≤ 12 := hE.ok.2.2.2.2.2.2.2.2.2.1
  have n0 : zNm (uSk (μs nm)) M ((zpop [] st).map fun t => (t, l)) := h
  obtain ⟨M1, t1, f1, n1⟩ := zj_pl (N := N) (w := w) (b := b) (k := 1) (ks := []) (by decide) h12 n0
  have g1 : ∀ (C : zC) (r : zv_X), mX9_pop N (b + 75) 1 (zc w b C M r) = some (zc w b C M1 r) := t1
  obtain ⟨M2, t2, f2, n2⟩ := zj_pl (N := N) (w := w) (b := b) (k := 1) (ks := [1]) (by decide) h12 n1
  have g2 : ∀ (C : zC) (r : zv_X), mX9_pop N (b + 75) 1 (zc w b C M1 r) = some (zc w b C M2 r) := t2
  refine ⟨M2, (zM9.tr (zM9.tr zM9.rf f1) f2), (zj_end0 h n2), fun C r => ?_⟩
  show mX9_judge_194 N (b + 75) (Int32.ofNat nm) P 161 L X Y _ = zTb N b (Int32.ofNat nm) P 161 L _
  simp (decide := true) only [mX9_judge_194, mX9_judge_317, mX9_judge_419, mX9_judgeBranch, mX9_judgeBranch_0, mX9_judgeBranch_19, mX9_judgeBranch_38, mX9_judgeBranch_59, mX9_judgeBranch_64, mX9_judgeBranch_78, mX9_judgeBranch_83, zTb, zqk_75, g1, g2, Int32.reduceLT, Int32.reduceLE, Int32.reduceAdd, Int32.reduceSub, Int32.reduceMul, Int32.reduceDiv, Int32.reduceMod, ↓reduceIte, Option.bind_some]
theorem zj_o162 (hE : zEm K F ρ α π C0 M nm μs) (h : zNm (uSk (μs nm)) M (some (st, l))) : zOp w b N nm (K, F, ρ, μs) (μs nm) M st l 162 x y P L X Y := by
  have h12 : uSk (μs nm) ≤ 12 := hE.ok.2.2.2.2.2.2.2.2.2.1
  have n0 : zNm (uSk (μs nm)) M ((zpop [] st).map fun t => (t, l)) := h
  obtain ⟨M1, t1, f1, n1⟩ := zj_pl (N := N) (w := w) (b := b) (k := 1) (ks := []) (by decide) h12 n0
  have g1 : ∀ (C : zC) (r : zv_X), mX9_pop N (b + 75) 1 (zc w b C M r) = some (zc w b C M1 r) := t1
  obtain ⟨M2, t2, f2, n2⟩ := zj_pl (N := N) (w := w) (b := b) (k := 1) (ks := [1]) (by decide) h12 n1
  have g2 : ∀ (C : zC) (r : zv_X), mX9_pop N (b + 75) 1 (zc w b C M1 r) = some (zc w b C M2 r) := t2
  refine ⟨M2, (zM9.tr (zM9.tr zM9.rf f1) f2), (zj_end0 h n2), fun C r => ?_⟩
  show mX9_judge_194 N (b + 75) (Int32.ofNat nm) P 162 L X Y _ = zTb N b (Int32.ofNat nm) P 162 L _
  simp (decide := true) only [mX9_judge_194, mX9_judge_317, mX9_judge_419, mX9_judgeBranch, mX9_judgeBranch_0, mX9_judgeBranch_19, mX9_judgeBranch_38, mX9_judgeBranch_59, mX9_judgeBranch_64, mX9_judgeBranch_78, mX9_judgeBranch_83, zTb, zqk_75, g1, g2, Int32.reduceLT, Int32.reduceLE, Int32.reduceAdd, Int32.reduceSub, Int32.reduceMul, Int32.reduceDiv, Int32.reduceMod, ↓reduceIte, Option.bind_some]
theorem zj_o163 (hE : zEm K F ρ α π C0 M nm μs) (h : zNm (uSk (μs nm)) M (some (st, l))) : zOp w b N nm (K, F, ρ, μs) (μs nm) M st l 163 x y P L X Y := by
  have h12 : uSk (μs nm) ≤ 12 := hE.ok.2.2.2.2.2.2.2.2.2.1
  have n0 : zNm (uSk (μs nm)) M ((zpop [] st).map fun t => (t, l)) := h
  obtain ⟨M1, t1, f1, n1⟩ := zj_pl (N := N) (w := w) (b := b) (k := 1) (ks := []) (by decide) h12 n0
  have g1 : ∀ (C : zC) (r : zv_X), mX9_pop N (b + 75) 1 (zc w b C M r) = some (zc w b C M1 r) := t1
  obtain ⟨M2, t2, f2, n2⟩ := zj_pl (N := N) (w := w) (b := b) (k := 1) (ks := [1]) (by decide) h12 n1
  have g2 : ∀ (C : zC) (r : zv_X), mX9_pop N (b + 75) 1 (zc w b C M1 r) = some (zc w b C M2 r) := t2
  refine ⟨M2, (zM9.tr (zM9.tr zM9.rf f1) f2), (zj_end0 h n2), fun C r => ?_⟩
  show mX9_judge_194 N (b + 75) (Int32.ofNat nm) P 163 L X Y _ = zTb N b (Int32.ofNat nm) P 163 L _
  simp (decide := true) only [mX9_judge_194, mX9_judge_317, mX9_judge_419, mX9_judgeBranch, mX9_judgeBranch_0, mX9_judgeBranch_19, mX9_judgeBranch_38, mX9_judgeBranch_59, mX9_judgeBranch_64, mX9_judgeBranch_78, mX9_judgeBranch_83, zTb, zqk_75, g1, g2, Int32.reduceLT, Int32.reduceLE, Int32.reduceAdd, Int32.reduceSub, Int32.reduceMul, Int32.reduceDiv, Int32.reduceMod, ↓reduceIte, Option.bind_some]
theorem zj_o164 (hE : zEm K F ρ α π C0 M nm μs) (h : zNm (uSk (μs nm)) M (some (st, l))) : zOp w b N nm (K, F, ρ, μs) (μs nm) M st l 164 x y P L X Y := by
  have h12 : uSk (μs nm) ≤ 12 := hE.ok.2.2.2.2.2.2.2.2.2.1
  have n0 : zNm (uSk (μs nm)) M ((zpop [] st).map fun t => (t, l)) := h
  obtain ⟨M1, t1, f1, n1⟩ := zj_pl (N := N) (w := w) (b := b) (k := 1) (ks := []) (by decide) h12 n0
  have g1 : ∀ (C : zC) (r : zv_X), mX9_pop N (b + 75) 1 (zc w b C M r) = some (zc w b C M1 r) := t1
  obtain ⟨M2, t2, f2, n2⟩ := zj_pl (N := N) (w := w) (b := b) (k := 1) (ks := [1]) (by decide) h12 n1
  have g2 : ∀ (C : zC) (r : zv_X), mX9_pop N (b + 75) 1 (zc w b C M1 r) = some (zc w b C M2 r) := t2
  refine ⟨M2, (zM9.tr (zM9.tr zM9.rf f1) f2), (zj_end0 h n2), fun C r => ?_⟩
  show mX9_judge_194 N (b + 75) (Int32.ofNat nm) P 164 L X Y _ = zTb N b (Int32.ofNat nm) P 164 L _
  simp (decide := true) only [mX9_judge_194, mX9_judge_317, mX9_judge_419, mX9_judgeBranch, mX9_judgeBranch_0, mX9_judgeBranch_19, mX9_judgeBranch_38, mX9_judgeBranch_59, mX9_judgeBranch_64, mX9_judgeBranch_78, mX9_judgeBranch_83, zTb, zqk_75, g1, g2, Int32.reduceLT, Int32.reduceLE, Int32.reduceAdd, Int32.reduceSub, Int32.reduceMul, Int32.reduceDiv, Int32.reduceMod, ↓reduceIte, Option.bind_some]
theorem zj_o165 (hE : zEm K F ρ α π C0 M nm μs) (h : zNm (uSk (μs nm)) M (some (st, l))) : zOp w b N nm (K, F, ρ, μs) (μs nm) M st l 165 x y P L X Y := by
  have h12 : uSk (μs nm) ≤ 12 := hE.ok.2.2.2.2.2.2.2.2.2.1
  have n0 : zNm (uSk (μs nm)) M ((zpop [] st).map fun t => (t, l)) := h
  obtain ⟨M1, t1, f1, n1⟩ := zj_pl (N := N) (w := w) (b := b) (k := 3) (ks := []) (by decide) h12 n0
  have g1 : ∀ (C : zC) (r : zv_X), mX9_pop N (b + 75) 3 (zc w b C M r) = some (zc w b C M1 r) := t1
  obtain ⟨M2, t2, f2, n2⟩ := zj_pl (N := N) (w := w) (b := b) (k := 3) (ks := [3]) (by decide) h12 n1
  have g2 : ∀ (C : zC) (r : zv_X), mX9_pop N (b + 75) 3 (zc w b C M1 r) = some (zc w b C M2 r) := t2
  refine ⟨M2, (zM9.tr (zM9.tr zM9.rf f1) f2), (zj_end0 h n2), fun C r => ?_⟩
  show mX9_judge_194 N (b + 75) (Int32.ofNat nm) P 165 L X Y _ = zTb N b (Int32.ofNat nm) P 165 L _
  simp (decide := true) only [mX9_judge_194, mX9_judge_317, mX9_judge_419, mX9_judgeBranch, mX9_judgeBranch_0, mX9_judgeBranch_19, mX9_judgeBranch_38, mX9_judgeBranch_59, mX9_judgeBranch_64, mX9_judgeBranch_78, mX9_judgeBranch_83, zTb, zqk_75, g1, g2, Int32.reduceLT, Int32.reduceLE, Int32.reduceAdd, Int32.reduceSub, Int32.reduceMul, Int32.reduceDiv, Int32.reduceMod, ↓reduceIte, Option.bind_some]
theorem zj_o166 (hE : zEm K F ρ α π C0 M nm μs) (h : zNm (uSk (μs nm)) M (some (st, l))) : zOp w b N nm (K, F, ρ, μs) (μs nm) M st l 166 x y P L X Y := by
  have h12 : uSk (μs nm) ≤ 12 := hE.ok.2.2.2.2.2.2.2.2.2.1
  have n0 : zNm (uSk (μs nm)) M ((zpop [] st).map fun t => (t, l)) := h
  obtain ⟨M1, t1, f1, n1⟩ := zj_pl (N := N) (w := w) (b := b) (k := 3) (ks := []) (by decide) h12 n0
  have g1 : ∀ (C : zC) (r : zv_X), mX9_pop N (b + 75) 3 (zc w b C M r) = some (zc w b C M1 r) := t1
  obtain ⟨M2, t2, f2, n2⟩ := zj_pl (N := N) (w := w) (b := b) (k := 3) (ks := [3]) (by decide) h12 n1
  have g2 : ∀ (C : zC) (r : zv_X), mX9_pop N (b + 75) 3 (zc w b C M1 r) = some (zc w b C M2 r) := t2
  refine ⟨M2, (zM9.tr (zM9.tr zM9.rf f1) f2), (zj_end0 h n2), fun C r => ?_⟩
  show mX9_judge_194 N (b + 75) (Int32.ofNat nm) P 166 L X Y _ = zTb N b (Int32.ofNat nm) P 166 L _
  simp (decide := true) only [mX9_judge_194, mX9_judge_317, mX9_judge_419, mX9_judgeBranch, mX9_judgeBranch_0, mX9_judgeBranch_19, mX9_judgeBranch_38, mX9_judgeBranch_59, mX9_judgeBranch_64, mX9_judgeBranch_78, mX9_judgeBranch_83, zTb, zqk_75, g1, g2, Int32.reduceLT, Int32.reduceLE, Int32.reduceAdd, Int32.reduceSub, Int32.reduceMul, Int32.reduceDiv, Int32.reduceMod, ↓reduceIte, Option.bind_some]
theorem zj_o167 (hE : zEm K F ρ α π C0 M nm μs) (h : zNm (uSk (μs nm)) M (some (st, l))) : zOp w b N nm (K, F, ρ, μs) (μs nm) M st l 167 x y P L X Y := by
  have h12 : uSk (μs nm) ≤ 12 := hE.ok.2.2.2.2.2.2.2.2.2.1
  have n0 : zNm (uSk (μs nm)) M ((zpop [] st).map fun t => (t, l)) := h
  refine ⟨M, zM9.rf, (zj_end0 h n0), fun C r => ?_⟩
  show mX9_judge_194 N (b + 75) (Int32.ofNat nm) P 167 L X Y _ = zTb N b (Int32.ofNat nm) P 167 L _
  simp (decide := true) only [mX9_judge_194, mX9_judge_317, mX9_judge_419, mX9_judgeBranch, mX9_judgeBranch_0, mX9_judgeBranch_19, mX9_judgeBranch_38, mX9_judgeBranch_59, mX9_judgeBranch_64, mX9_judgeBranch_78, mX9_judgeBranch_83, zTb, zqk_75, Int32.reduceLT, Int32.reduceLE, Int32.reduceAdd, Int32.reduceSub, Int32.reduceMul, Int32.reduceDiv, Int32.reduceMod, ↓reduceIte, Option.bind_some]
theorem zj_o190 (hE : zEm K F ρ α π C0 M nm μs) (h : zNm (uSk (μs nm)) M (some (st, l))) : zOp w b N nm (K, F, ρ, μs) (μs nm) M st l 190 x y P L X Y := by
  have h12 : uSk (μs nm) ≤ 12 := hE.ok.2.2.2.2.2.2.2.2.2.1
  have n0 : zNm (uSk (μs nm)) M ((zpop [] st).map fun t => (t, l)) := h
  obtain ⟨M1, t1, f1, n1⟩ := zj_pl (N := N) (w := w) (b := b) (k := 3) (ks := []) (by decide) h12 n0
  have g1 : ∀ (C : zC) (r : zv_X), mX9_pop N (b + 75) 3 (zc w b C M r) = some (zc w b C M1 r) := t1
  obtain ⟨M2, t2, f2, n2⟩ := zj_pl1 (N := N) (w := w) (b := b) (k := 1) (ks := [3]) (hE.m9 (zM9.tr zM9.rf f1)) (by decide) n1
  have g2 : ∀ (C : zC) (r : zv_X), mX9_push N (b + 75) (Int32.ofNat nm) 1 (zc w b C M1 r) = some (zc w b C M2 r) := t2
  refine ⟨M2, (zM9.tr (zM9.tr zM9.rf f1) f2), n2, fun C r => ?_⟩
  show mX9_judge_194 N (b + 75) (Int32.ofNat nm) P 190 L X Y _ = mX9_judge_570 N (b + 75) (Int32.ofNat nm) P L 1 _
  simp (decide := true) only [mX9_judge_194, mX9_judge_317, mX9_judgeThing, mX9_judgeThing_0, mX9_judgeThing_415, mX9_judge_568, zqk_75, g1, g2, Int32.reduceLT, Int32.reduceLE, Int32.reduceAdd, Int32.reduceSub, Int32.reduceMul, Int32.reduceDiv, Int32.reduceMod, ↓reduceIte, Option.bind_some]
theorem zj_o191 (hE : zEm K F ρ α π C0 M nm μs) (h : zNm (uSk (μs nm)) M (some (st, l))) : zOp w b N nm (K, F, ρ, μs) (μs nm) M st l 191 x y P L X Y := by
  have h12 : uSk (μs nm) ≤ 12 := hE.ok.2.2.2.2.2.2.2.2.2.1
  have n0 : zNm (uSk (μs nm)) M ((zpop [] st).map fun t => (t, l)) := h
  obtain ⟨M1, t1, f1, n1⟩ := zj_pl (N := N) (w := w) (b := b) (k := 3) (ks := []) (by decide) h12 n0
  have g1 : ∀ (C : zC) (r : zv_X), mX9_pop N (b + 75) 3 (zc w b C M r) = some (zc w b C M1 r) := t1
  refine ⟨M1, (zM9.tr zM9.rf f1), (zj_end0 h n1), fun C r => ?_⟩
  show mX9_judge_194 N (b + 75) (Int32.ofNat nm) P 191 L X Y _ = mX9_judge_570 N (b + 75) (Int32.ofNat nm) P L 0 _
  simp (decide := true) only [mX9_judge_194, mX9_judge_317, mX9_judgeThing, mX9_judgeThing_0, mX9_judgeThing_415, mX9_judge_568, zqk_75, g1, Int32.reduceLT, Int32.reduceLE, Int32.reduceAdd, Int32.reduceSub, Int32.reduceMul, Int32.reduceDiv, Int32.reduceMod, ↓reduceIte, Option.bind_some]
theorem zj_o198 (hE : zEm K F ρ α π C0 M nm μs) (h : zNm (uSk (μs nm)) M (some (st, l))) : zOp w b N nm (K, F, ρ, μs) (μs nm) M st l 198 x y P L X Y := by
  have h12 : uSk (μs nm) ≤ 12 := hE.ok.2.2.2.2.2.2.2.2.2.1
  have n0 : zNm (uSk (μs nm)) M ((zpop [] st).map fun t => (t, l)) := h
  obtain ⟨M1, t1, f1, n1⟩ := zj_pl (N := N) (w := w) (b := b) (k := 3) (ks := []) (by decide) h12 n0
  have g1 : ∀ (C : zC) (r : zv_X), mX9_pop N (b + 75) 3 (zc w b C M r) = some (zc w b C M1 r) := t1
  refine ⟨M1, (zM9.tr zM9.rf f1), (zj_end0 h n1), fun C r => ?_⟩
  show mX9_judge_194 N (b + 75) (Int32.ofNat nm) P 198 L X Y _ = zTb N b (Int32.ofNat nm) P 198 L _
  simp (decide := true) only [mX9_judge_194, mX9_judge_317, mX9_judge_419, mX9_judgeBranch, mX9_judgeBranch_0, mX9_judgeBranch_19, mX9_judgeBranch_38, mX9_judgeBranch_59, mX9_judgeBranch_64, mX9_judgeBranch_78, mX9_judgeBranch_83, zTb, zqk_75, g1, Int32.reduceLT, Int32.reduceLE, Int32.reduceAdd, Int32.reduceSub, Int32.reduceMul, Int32.reduceDiv, Int32.reduceMod, ↓reduceIte, Option.bind_some]
theorem zj_o199 (hE : zEm K F ρ α π C0 M nm μs) (h : zNm (uSk (μs nm)) M (some (st, l))) : zOp w b N nm (K, F, ρ, μs) (μs nm) M st l 199 x y P L X Y := by
  have h12 : uSk (μs nm) ≤ 12 := hE.ok.2.2.2.2.2.2.2.2.2.1
  have n0 : zNm (uSk (μs nm)) M ((zpop [] st).map fun t => (t, l)) := h
  obtain ⟨M1, t1, f1, n1⟩ := zj_pl (N := N) (w := w) (b := b) (k := 3) (ks := []) (by decide) h12 n0
  have g1 : ∀ (C : zC) (r : zv_X), mX9_pop N (b + 75) 3 (zc w b C M r) = some (zc w b C M1 r) := t1
  refine ⟨M1, (zM9.tr zM9.rf f1), (zj_end0 h n1), fun C r => ?_⟩
  show mX9_judge_194 N (b + 75) (Int32.ofNat nm) P 199 L X Y _ = zTb N b (Int32.ofNat nm) P 199 L _
  simp (decide := true) only [mX9_judge_194, mX9_judge_317, mX9_judge_419, mX9_judgeBranch, mX9_judgeBranch_0, mX9_judgeBranch_19, mX9_judgeBranch_38, mX9_judgeBranch_59, mX9_judgeBranch_64, mX9_judgeBranch_78, mX9_judgeBranch_83, zTb, zqk_75, g1, Int32.reduceLT, Int32.reduceLE, Int32.reduceAdd, Int32.reduceSub, Int32.reduceMul, Int32.reduceDiv, Int32.reduceMod, ↓reduceIte, Option.bind_some]
end ZRO
