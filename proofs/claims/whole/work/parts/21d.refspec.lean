/-! ===== the reference's judge: instructions that look at more than the stack (written by wip/gen/ops14.py) ===== -/
section ZRP
variable {N w b K nm x y s k : Nat} {F ρ α π : Nat → Nat} {C0 : zC} {M M' : zM} {μs : Nat → zMu} {ks st : List Nat} {l : Nat → Nat} {o : Option (List Nat × (Nat → Nat))} {v : List Nat × (Nat → Nat)} {P L X Y : Int32}
/-- a local is read -/
theorem zj_load (hE : zEm K F ρ α π C0 M nm μs) (h : zNm (uSk (μs nm)) M (some (st, l))) (hx : x < 256) (hk : 1 ≤ k ∧ k ≤ 3) : ∃ M1, (∀ (C : zC) (r : zv_X), mX9_judgeLoad_59 N (b + 75) (Int32.ofNat nm) (Int32.ofNat x) (Int32.ofNat k) (zc w b C M r) = some (zc w b C M1 r)) ∧ zM9 M M1 ∧ zNm (uSk (μs nm)) M1 ((if x < uLo (μs nm) ∧ l x = k then some (st, l) else none).bind (zga (uSk (μs nm)) k)) := by
  have h20 := hE.2.1
  have h16 : uLo (μs nm) ≤ 16 := hE.ok.2.2.2.2.2.2.2.2.1
  have e14 : M.1 14 nm = Int32.ofNat (uLo (μs nm)) := hE.mt.2.2.2.2.2.2.1
  have hs := zNm.sel (x < uLo (μs nm) ∧ l x = k) h
  obtain ⟨h1, h2, h3, h4, h5, h6, h7⟩ := h
  dsimp only at h2 h3 h4 h5 h6 h7
  obtain ⟨M1, t1, t2, t3⟩ := zj_push (N := N) (w := w) (b := b) (hE.m9 zM9.r) hk hs
  refine ⟨M1, fun C r => ?_, zM9.r.tr t2, t3⟩
  have g1 : mX9_judgeLoad_95 N (b + 75) (Int32.ofNat nm) (Int32.ofNat k) (if x < uLo (μs nm) ∧ l x = k then 1 else 0) (b + 75) (zc w b C M r) = some (zc w b C M1 r) := by
    unfold mX9_judgeLoad_95
    rw [if_pos (zsel _), zqp_75_27, Option.bind_some, if_pos zqk_75, t1 C r]
    rfl
  rw [← g1]
  unfold mX9_judgeLoad_59 mX9_judgeLoad_94
  rw [zqg_75_27, Option.bind_some, h1, if_neg (show ¬ (1 : Int32) = 0 by decide), zqg_75_14, Option.bind_some, zqa_85 (by omega), Option.bind_some, e14]
  by_cases c1 : x < uLo (μs nm)
  · have hl := h7.1 x
    rw [if_neg (show ¬ Int32.ofNat (uLo (μs nm)) ≤ Int32.ofNat x by rw [zi_le (by omega) (by omega)]; omega), zqg_75_26, Option.bind_some, zqa_95 (by omega), Option.bind_some, h4 x (by omega)]
    by_cases c2 : l x = k
    · rw [if_pos (show Int32.ofNat (l x) = Int32.ofNat k by rw [c2]), if_pos ⟨c1, c2⟩]
    · rw [if_neg (show ¬ Int32.ofNat (l x) = Int32.ofNat k by rw [zi_eq (by omega) (by omega)]; exact c2), if_neg (fun c => c2 c.2)]
  · rw [if_pos (show Int32.ofNat (uLo (μs nm)) ≤ Int32.ofNat x by rw [zi_le (by omega) (by omega)]; omega), if_neg (fun c => c1 c.1)]
/-- a local is written -/
theorem zj_store (hE : zEm K F ρ α π C0 M nm μs) (h : zNm (uSk (μs nm)) M (some (st, l))) (hx : x < 256) (hk : 1 ≤ k ∧ k ≤ 3) : ∃ M1, (∀ (C : zC) (r : zv_X), mX9_judge_259 N (b + 75) (Int32.ofNat nm) P L (Int32.ofNat x) 1 (Int32.ofNat k) (zc w b C M r) = mX9_judge_570 N (b + 75) (Int32.ofNat nm) P L 1 (zc w b C M1 r)) ∧ zM9 M M1 ∧ zNm (uSk (μs nm)) M1 ((zpop [k] st).bind fun t => if x < uLo (μs nm) then some (t, zset l x k) else none) := by
  have h20 := hE.2.1
  have h12 : uSk (μs nm) ≤ 12 := hE.ok.2.2.2.2.2.2.2.2.2.1
  have h16 : uLo (μs nm) ≤ 16 := hE.ok.2.2.2.2.2.2.2.2.1
  have n0 : zNm (uSk (μs nm)) M ((zpop [] st).map fun t => (t, l)) := h
  obtain ⟨M1, t1, f1, n1⟩ := zj_pl (N := N) (w := w) (b := b) (k := k) (ks := []) hk.2 h12 n0
  have n2 : zNm (uSk (μs nm)) M1 ((zpop [k] st).map fun t => (t, l)) := n1
  have e14 : M1.1 14 nm = Int32.ofNat (uLo (μs nm)) := (hE.m9 f1).mt.2.2.2.2.2.2.1
  have bad : ∀ (C : zC) (r : zv_X), mX9_judge_290 N (b + 75) (Int32.ofNat nm) P L (Int32.ofNat x) 1 (Int32.ofNat k) (b + 75) (zc w b C M1 r) = mX9_judge_570 N (b + 75) (Int32.ofNat nm) P L 1 (zc w b C (zJ (zJ M1 100 27 0) 26 0 (Int32.ofNat k)) r) := fun C r => by
    unfold mX9_judge_290 mX9_judge_291 mX9_judge_311
    rw [if_pos (Or.inl rfl), zqp_75_27, Option.bind_some, zqg_75_26, Option.bind_some, zqg_75_27, Option.bind_some, show (zJ M1 100 27 0).1 100 27 = 0 from rfl, if_pos rfl, zi_l0, zqs_95 (by omega), Option.bind_some]
  have fb : zM9 M (zJ (zJ M1 100 27 0) 26 0 (Int32.ofNat k)) := (f1.tr zM9.r).tr (zM9.J (by omega))
  cases e : zpop [k] st with
  | none =>
    rw [e] at n2
    have n3 : M1.1 100 27 = 0 := n2
    refine ⟨zJ (zJ M1 100 27 0) 26 0 (Int32.ofNat k), fun C r => ?_, fb, rfl⟩
    rw [← bad C r]
    conv => lhs; unfold mX9_judge_259
    rw [if_pos zqk_75, t1 C r, Option.bind_some, zqg_75_27, Option.bind_some, n3, if_pos rfl]
  | some t =>
    rw [e] at n2
    obtain ⟨h1, h2, h3, h4, h5, h6, h7⟩ := n2
    dsimp only at h2 h3 h4 h5 h6 h7
    rw [Option.bind_some]
    by_cases c : x < uLo (μs nm)
    · rw [if_pos c]
      refine ⟨zJ (zJ M1 100 27 1) 26 x (Int32.ofNat k), fun C r => ?_, (f1.tr zM9.r).tr (zM9.J (by omega)), rfl, h2, h3, fun j hj => ?_, h5, h6, h7.set (by omega) hk.2⟩
      · unfold mX9_judge_259 mX9_judge_291 mX9_judge_311
        rw [if_pos zqk_75, t1 C r, Option.bind_some, zqg_75_27, Option.bind_some, h1, if_neg (show ¬ (1 : Int32) = 0 by decide), zqg_75_14, Option.bind_some, zqa_85 (by omega), Option.bind_some, e14, if_neg (show ¬ Int32.ofNat (uLo (μs nm)) ≤ Int32.ofNat x by rw [zi_le (by omega) (by omega)]; omega), if_pos (Or.inr rfl), zqp_75_27, Option.bind_some, zqg_75_26, Option.bind_some, zqg_75_27, Option.bind_some, show (zJ M1 100 27 1).1 100 27 = 1 from rfl, if_neg (show ¬ (1 : Int32) = 0 by decide), zqs_95 (by omega), Option.bind_some]
      · show (zJ (zJ M1 100 27 1) 26 x (Int32.ofNat k)).1 26 j = Int32.ofNat (if j = x then k else l j)
        by_cases d : j = x
        · rw [d, zJ1, if_pos ⟨rfl, rfl⟩, if_pos rfl]
        · rw [zJ1, if_neg (by omega), zJ1, if_neg (by omega), if_neg d]
          exact h4 j hj
    · rw [if_neg c]
      refine ⟨zJ (zJ M1 100 27 0) 26 0 (Int32.ofNat k), fun C r => ?_, fb, rfl⟩
      rw [← bad C r]
      conv => lhs; unfold mX9_judge_259
      rw [if_pos zqk_75, t1 C r, Option.bind_some, zqg_75_27, Option.bind_some, h1, if_neg (show ¬ (1 : Int32) = 0 by decide), zqg_75_14, Option.bind_some, zqa_85 (by omega), Option.bind_some, e14, if_pos (show Int32.ofNat (uLo (μs nm)) ≤ Int32.ofNat x by rw [zi_le (by omega) (by omega)]; omega)]
theorem zj_o132 (hE : zEm K F ρ α π C0 M nm μs) (h : zNm (uSk (μs nm)) M (some (st, l))) (hx : x < 256) : zOp w b N nm (K, F, ρ, μs) (μs nm) M st l 132 x y P L (Int32.ofNat x) Y := by
  have h20 := hE.2.1
  have h16 : uLo (μs nm) ≤ 16 := hE.ok.2.2.2.2.2.2.2.2.1
  have e14 : M.1 14 nm = Int32.ofNat (uLo (μs nm)) := hE.mt.2.2.2.2.2.2.1
  have hs := zNm.sel (x < uLo (μs nm) ∧ l x = 1) h
  obtain ⟨h1, h2, h3, h4, h5, h6, h7⟩ := h
  dsimp only at h2 h3 h4 h5 h6 h7
  refine ⟨zJ M 100 27 (if x < uLo (μs nm) ∧ l x = 1 then 1 else 0), zM9.r, ?_, fun C r => ?_⟩
  · show zNm (uSk (μs nm)) _ ((if x < uLo (μs nm) ∧ l x = 1 then some (st, l) else none).bind fun q => if ([] ++ q.1).length ≤ uSk (μs nm) then some ([] ++ q.1, q.2) else none)
    by_cases c : x < uLo (μs nm) ∧ l x = 1
    · rw [if_pos c, if_pos c] at hs ⊢
      rw [Option.bind_some, ze0 h6]
      exact hs
    · rw [if_neg c, if_neg c] at hs ⊢
      exact hs
  · show mX9_judge_194 N (b + 75) (Int32.ofNat nm) P 132 L (Int32.ofNat x) Y _ = mX9_judge_570 N (b + 75) (Int32.ofNat nm) P L 1 _
    have g1 : mX9_judgeReckoning_40 N (if x < uLo (μs nm) ∧ l x = 1 then 1 else 0) (b + 75) (zc w b C M r) = some (zc w b C (zJ M 100 27 (if x < uLo (μs nm) ∧ l x = 1 then 1 else 0)) r) := by
      unfold mX9_judgeReckoning_40 mX9_judgeReckoning_207
      rw [if_pos (zsel _), zqp_75_27, Option.bind_some]
    have g2 : mX9_judgeReckoning N (b + 75) (Int32.ofNat nm) 132 (Int32.ofNat x) (zc w b C M r) = some (zc w b C (zJ M 100 27 (if x < uLo (μs nm) ∧ l x = 1 then 1 else 0)) r) := by
      rw [← g1]
      unfold mX9_judgeReckoning mX9_judgeReckoning_0 mX9_judgeReckoning_39
      rw [if_pos rfl, zqg_75_27, Option.bind_some, h1, if_neg (show ¬ (1 : Int32) = 0 by decide), zqg_75_14, Option.bind_some, zqa_85 (by omega), Option.bind_some, e14]
      by_cases c1 : x < uLo (μs nm)
      · have hl := h7.1 x
        rw [if_neg (show ¬ Int32.ofNat (uLo (μs nm)) ≤ Int32.ofNat x by rw [zi_le (by omega) (by omega)]; omega), zqg_75_26, Option.bind_some, zqa_95 (by omega), Option.bind_some, h4 x (by omega)]
        by_cases c2 : l x = 1
        · rw [if_pos (show Int32.ofNat (l x) = 1 by rw [c2]; rfl), if_pos ⟨c1, c2⟩]
        · rw [if_neg (show ¬ Int32.ofNat (l x) = 1 by rw [zi_l1, zi_eq (by omega) (by omega)]; exact c2), if_neg (fun c => c2 c.2)]
      · rw [if_pos (show Int32.ofNat (uLo (μs nm)) ≤ Int32.ofNat x by rw [zi_le (by omega) (by omega)]; omega), if_neg (fun c => c1 c.1)]
    simp (decide := true) only [mX9_judge_194, mX9_judge_317, zqk_75, g2, Int32.reduceLT, Int32.reduceLE, Int32.reduceAdd, Int32.reduceSub, Int32.reduceMul, Int32.reduceDiv, Int32.reduceMod, ↓reduceIte, Option.bind_some]
/-- the result's kind is looked at -/
theorem zj_res (hE : zEm K F ρ α π C0 M nm μs) (h : zNm (uSk (μs nm)) M o) (hk : k ≤ 3) : ∃ M1, (∀ (C : zC) (r : zv_X), mX9_judge_513 N (b + 75) (Int32.ofNat nm) P L (Int32.ofNat k) (zc w b C M r) = mX9_judge_570 N (b + 75) (Int32.ofNat nm) P L 0 (zc w b C M1 r)) ∧ zM9 M M1 ∧ zNm (uSk (μs nm)) M1 (o.bind fun v => if uRs (μs nm) = k then some v else none) := by
  have h20 := hE.2.1
  have h3 : uRs (μs nm) ≤ 3 := hE.ok.2.2.2.2.2.2.2.2.2.2
  have e16 : M.1 16 nm = Int32.ofNat (uRs (μs nm)) := hE.mt.2.2.2.2.2.2.2.2
  cases o with
  | none =>
    have h1 : M.1 100 27 = 0 := h
    refine ⟨zJ M 100 27 0, fun C r => ?_, zM9.r, rfl⟩
    unfold mX9_judge_513 mX9_judge_536 mX9_judge_537
    rw [zqg_75_27, Option.bind_some, h1, if_pos rfl, if_pos (Or.inl rfl), zqp_75_27, Option.bind_some]
  | some v =>
    refine ⟨zJ M 100 27 (if uRs (μs nm) = k then 1 else 0), fun C r => ?_, zM9.r, zNm.sel _ h⟩
    unfold mX9_judge_513 mX9_judge_536 mX9_judge_537
    rw [zqg_75_27, Option.bind_some, h.1, if_neg (show ¬ (1 : Int32) = 0 by decide), zqg_75_16, Option.bind_some, zqa_87 (by omega), Option.bind_some, e16]
    by_cases c : uRs (μs nm) = k
    · rw [if_pos (show Int32.ofNat (uRs (μs nm)) = Int32.ofNat k by rw [c]), if_pos (Or.inr rfl), zqp_75_27, Option.bind_some, if_pos c]
    · rw [if_neg (show ¬ Int32.ofNat (uRs (μs nm)) = Int32.ofNat k by rw [zi_eq (by omega) (by omega)]; exact c), if_pos (Or.inl rfl), zqp_75_27, Option.bind_some, if_neg c]
theorem zj_ret (hE : zEm K F ρ α π C0 M nm μs) (h : zNm (uSk (μs nm)) M (some (st, l))) (hk : 1 ≤ k ∧ k ≤ 3) : ∃ M1, (∀ (C : zC) (r : zv_X), mX9_judge_500 N (b + 75) (Int32.ofNat nm) P L (Int32.ofNat k) (zc w b C M r) = mX9_judge_570 N (b + 75) (Int32.ofNat nm) P L 0 (zc w b C M1 r)) ∧ zM9 M M1 ∧ zNm (uSk (μs nm)) M1 (((zpop [k] st).map fun t => (t, l)).bind fun v => if uRs (μs nm) = k then some v else none) := by
  have h12 : uSk (μs nm) ≤ 12 := hE.ok.2.2.2.2.2.2.2.2.2.1
  have n0 : zNm (uSk (μs nm)) M ((zpop [] st).map fun t => (t, l)) := h
  obtain ⟨M1, t1, f1, n1⟩ := zj_pl (N := N) (w := w) (b := b) (k := k) (ks := []) hk.2 h12 n0
  obtain ⟨M2, t2, f2, n2⟩ := zj_res (N := N) (w := w) (b := b) (P := P) (L := L) (hE.m9 f1) n1 hk.2
  refine ⟨M2, fun C r => ?_, f1.tr f2, n2⟩
  unfold mX9_judge_500
  rw [if_neg (show ¬ Int32.ofNat k ≤ 0 by rw [zi_l0, zi_le (by omega) (by omega)]; omega), if_pos zqk_75, t1 C r, Option.bind_some, t2 C r]
theorem zbm {β γ : Type} {a : Option β} {f : β → γ} {g : γ → Option γ} : (a.map f).bind g = a.bind fun t => g (f t) := by cases a <;> rfl
/-- a number is popped and a thing made -/
theorem zj_316 {g : Int32} (hg : g = 0 ∨ g = 1) (hE : zEm K F ρ α π C0 M nm μs) (h : zNm (uSk (μs nm)) (zJ M 100 27 g) ((zpop ks st).map fun t => (t, l))) : ∃ M1, (∀ (C : zC) (r : zv_X), mX9_judgeThing_316 N (b + 75) (Int32.ofNat nm) g (b + 75) (zc w b C M r) = some (zc w b C M1 r)) ∧ zM9 M M1 ∧ zNm (uSk (μs nm)) M1 ((zpop (ks ++ [1]) st).bind fun t => if ([3] ++ t).length ≤ uSk (μs nm) then some ([3] ++ t, l) else none) := by
  have h12 : uSk (μs nm) ≤ 12 := hE.ok.2.2.2.2.2.2.2.2.2.1
  obtain ⟨M1, t1, f1, n1⟩ := zj_pl (N := N) (w := w) (b := b) (k := 1) (by decide) h12 h
  obtain ⟨M2, t2, f2, n2⟩ := zj_pl1 (N := N) (w := w) (b := b) (k := 3) (hE.m9 (zM9.r.tr f1)) (by decide) n1
  refine ⟨M2, fun C r => ?_, (zM9.r.tr f1).tr f2, n2⟩
  unfold mX9_judgeThing_316 mX9_judgeThing_415
  rw [if_pos hg, zqp_75_27, Option.bind_some, if_pos zqk_75, zi_l1, t1 C r, Option.bind_some, if_pos zqk_75, zi_l3, t2 C r, Option.bind_some]
theorem zj_316n (hE : zEm K F ρ α π C0 M nm μs) : ∃ M1, (∀ (C : zC) (r : zv_X), mX9_judgeThing_316 N (b + 75) (Int32.ofNat nm) 0 (b + 75) (zc w b C M r) = some (zc w b C M1 r)) ∧ zM9 M M1 ∧ zNm (uSk (μs nm)) M1 none := by
  have h12 : uSk (μs nm) ≤ 12 := hE.ok.2.2.2.2.2.2.2.2.2.1
  obtain ⟨M1, t1, f1, n1⟩ := zj_pop (N := N) (w := w) (b := b) (k := 1) (o := none) (M := zJ M 100 27 0) (by decide) h12 zNm.r0
  obtain ⟨M2, t2, f2, n2⟩ := zj_push (N := N) (w := w) (b := b) (k := 3) (o := none) (hE.m9 (zM9.r.tr f1)) (by decide) n1
  refine ⟨M2, fun C r => ?_, (zM9.r.tr f1).tr f2, n2⟩
  have t1' : ∀ (C : zC) (r : zv_X), mX9_pop N (b + 75) 1 (zc w b C (zJ M 100 27 0) r) = some (zc w b C M1 r) := t1
  have t2' : ∀ (C : zC) (r : zv_X), mX9_push N (b + 75) (Int32.ofNat nm) 3 (zc w b C M1 r) = some (zc w b C M2 r) := t2
  unfold mX9_judgeThing_316 mX9_judgeThing_415
  rw [if_pos (Or.inl rfl), zqp_75_27, Option.bind_some, if_pos zqk_75, t1' C r, Option.bind_some, if_pos zqk_75, t2' C r, Option.bind_some]
theorem zNm.f0 (n : zNm s M o) : zNm s M (o.bind fun q => if ([] ++ q.1).length ≤ s then some ([] ++ q.1, q.2) else none) := by
  cases o with
  | none => exact n
  | some v =>
    rw [Option.bind_some, ze0 n.2.2.2.2.2.1]
    exact n
theorem zga_eq (hk : 1 ≤ k) : zga s k v = if (k :: v.1).length ≤ s then some (k :: v.1, v.2) else none := by
  unfold zga
  rw [if_neg (by omega)]
theorem zga_some (hk : 1 ≤ k) (h : (k :: v.1).length ≤ s) : zga s k v = some (k :: v.1, v.2) := by rw [zga_eq hk, if_pos h]
/-- a number or a reference goes -/
def zei (v : List Nat × (Nat → Nat)) : Option (List Nat × (Nat → Nat)) := match v.1 with
  | k :: t => if k = 1 ∨ k = 3 then some (t, v.2) else none
  | [] => none
theorem zj_ei (h12 : s ≤ 12) (h : zNm s M o) : ∃ M1 kd, (∀ (C : zC) (r : zv_X), mX9_popEither N (b + 75) (zc w b C M r) = some (zc w b C M1 r, Int32.ofNat kd)) ∧ zM9 M M1 ∧ (1 ≤ kd ∧ kd ≤ 3) ∧ zNm s M1 (o.bind zei) ∧ ∀ v u, o = some v → zei v = some u → v.1 = kd :: u.1 := by
  obtain ⟨M1, kd, t1, f1, k1, k3, hh⟩ := zj_either (N := N) (w := w) (b := b) h12 h
  refine ⟨M1, kd, t1, f1, ⟨k1, k3⟩, ?_⟩
  rcases hh with ⟨a1, a2⟩ | ⟨st', l', a1, a2, a3⟩
  · have e : ∀ v, o = some v → zei v = none := fun v ev => by
      obtain ⟨st, l⟩ := v
      cases st with
      | nil => rfl
      | cons k s1 => exact if_neg (a2 _ ev k s1 rfl)
    refine ⟨?_, fun v u ev eu => ?_⟩
    · cases o with
      | none => exact a1
      | some v =>
        rw [Option.bind_some, e v rfl]
        exact a1
    · rw [e v ev] at eu
      cases eu
  · subst a1
    have e : zei (kd :: st', l') = some (st', l') := if_pos a2
    refine ⟨by rw [Option.bind_some, e]; exact a3, fun v u ev eu => ?_⟩
    injection ev with ev
    subst ev
    rw [e] at eu
    injection eu with eu
    subst eu
    rfl
theorem zj_o87 (hE : zEm K F ρ α π C0 M nm μs) (h : zNm (uSk (μs nm)) M (some (st, l))) : zOp w b N nm (K, F, ρ, μs) (μs nm) M st l 87 x y P L X Y := by
  have h12 : uSk (μs nm) ≤ 12 := hE.ok.2.2.2.2.2.2.2.2.2.1
  obtain ⟨M1, kd, g1, f1, k1, n1, _⟩ := zj_ei (N := N) (w := w) (b := b) h12 h
  refine ⟨M1, f1, ?_, fun C r => ?_⟩
  · have e : zheed (K, F, ρ, μs) nm (μs nm) 87 x y st l = zei (st, l) := by cases st <;> rfl
    show zNm (uSk (μs nm)) M1 ((zheed (K, F, ρ, μs) nm (μs nm) 87 x y st l).bind fun q => if ([] ++ q.1).length ≤ uSk (μs nm) then some ([] ++ q.1, q.2) else none)
    rw [e]
    exact n1.f0
  · show mX9_judge_194 N (b + 75) (Int32.ofNat nm) P 87 L X Y _ = mX9_judge_570 N (b + 75) (Int32.ofNat nm) P L 1 _
    simp (decide := true) only [mX9_judge_194, mX9_judge_317, mX9_judgeStack, mX9_judgeStack_0, mX9_judgeStack_63, zqk_75, g1, Int32.reduceLT, Int32.reduceLE, Int32.reduceAdd, Int32.reduceSub, Int32.reduceMul, Int32.reduceDiv, Int32.reduceMod, ↓reduceIte, Option.bind_some]
theorem zj_o89 (hE : zEm K F ρ α π C0 M nm μs) (h : zNm (uSk (μs nm)) M (some (st, l))) : zOp w b N nm (K, F, ρ, μs) (μs nm) M st l 89 x y P L X Y := by
  have h12 : uSk (μs nm) ≤ 12 := hE.ok.2.2.2.2.2.2.2.2.2.1
  obtain ⟨M1, kd, g1, f1, k1, n1, e1⟩ := zj_ei (N := N) (w := w) (b := b) h12 h
  obtain ⟨M2, t2, f2, n2⟩ := zj_push (N := N) (w := w) (b := b) (hE.m9 f1) k1 n1
  obtain ⟨M3, t3, f3, n3⟩ := zj_push (N := N) (w := w) (b := b) (hE.m9 (f1.tr f2)) k1 n2
  have g2 : ∀ (C : zC) (r : zv_X), mX9_push N (b + 75) (Int32.ofNat nm) (Int32.ofNat kd) (zc w b C M1 r) = some (zc w b C M2 r) := t2
  have g3 : ∀ (C : zC) (r : zv_X), mX9_push N (b + 75) (Int32.ofNat nm) (Int32.ofNat kd) (zc w b C M2 r) = some (zc w b C M3 r) := t3
  refine ⟨M3, (f1.tr f2).tr f3, ?_, fun C r => ?_⟩
  · have e : ztr (K, F, ρ, μs) nm (μs nm) 89 x y st l = (((some (st, l)).bind zei).bind (zga (uSk (μs nm)) kd)).bind (zga (uSk (μs nm)) kd) := by
      show (zheed (K, F, ρ, μs) nm (μs nm) 89 x y st l).bind (fun q => if ([] ++ q.1).length ≤ uSk (μs nm) then some ([] ++ q.1, q.2) else none) = _
      rw [Option.bind_some]
      cases st with
      | nil => rfl
      | cons k t =>
        by_cases c : k = 1 ∨ k = 3
        · have ez : zei (k :: t, l) = some (t, l) := if_pos c
          have ek : k = kd := by
            have := e1 (k :: t, l) (t, l) rfl ez
            injection this
          subst ek
          have eh : zheed (K, F, ρ, μs) nm (μs nm) 89 x y (k :: t) l = some (k :: k :: t, l) := if_pos c
          have hl : (k :: t).length ≤ uSk (μs nm) := h.2.2.2.2.2.1
          rw [ez, eh, Option.bind_some, Option.bind_some, zga_some (v := (t, l)) k1.1 hl, Option.bind_some, zga_eq k1.1]
          rfl
        · have ez : zei (k :: t, l) = none := if_neg c
          have eh : zheed (K, F, ρ, μs) nm (μs nm) 89 x y (k :: t) l = none := if_neg c
          rw [ez, eh]
          rfl
    rw [e]
    exact n3
  · show mX9_judge_194 N (b + 75) (Int32.ofNat nm) P 89 L X Y _ = mX9_judge_570 N (b + 75) (Int32.ofNat nm) P L 1 _
    simp (decide := true) only [mX9_judge_194, mX9_judge_317, mX9_judgeStack, mX9_judgeStack_0, mX9_judgeStack_63, zqk_75, g1, g2, g3, Int32.reduceLT, Int32.reduceLE, Int32.reduceAdd, Int32.reduceSub, Int32.reduceMul, Int32.reduceDiv, Int32.reduceMod, ↓reduceIte, Option.bind_some]
theorem zj_o95 (hE : zEm K F ρ α π C0 M nm μs) (h : zNm (uSk (μs nm)) M (some (st, l))) : zOp w b N nm (K, F, ρ, μs) (μs nm) M st l 95 x y P L X Y := by
  have h12 : uSk (μs nm) ≤ 12 := hE.ok.2.2.2.2.2.2.2.2.2.1
  obtain ⟨M1, kd, g1, f1, k1, n1, e1⟩ := zj_ei (N := N) (w := w) (b := b) h12 h
  obtain ⟨M4, ke, g4, f4, k4, n4, e4⟩ := zj_ei (N := N) (w := w) (b := b) h12 n1
  obtain ⟨M2, t2, f2, n2⟩ := zj_push (N := N) (w := w) (b := b) (hE.m9 (f1.tr f4)) k1 n4
  obtain ⟨M3, t3, f3, n3⟩ := zj_push (N := N) (w := w) (b := b) (hE.m9 ((f1.tr f4).tr f2)) k4 n2
  have g2 : ∀ (C : zC) (r : zv_X), mX9_push N (b + 75) (Int32.ofNat nm) (Int32.ofNat kd) (zc w b C M4 r) = some (zc w b C M2 r) := t2
  have g3 : ∀ (C : zC) (r : zv_X), mX9_push N (b + 75) (Int32.ofNat nm) (Int32.ofNat ke) (zc w b C M2 r) = some (zc w b C M3 r) := t3
  refine ⟨M3, ((f1.tr f4).tr f2).tr f3, ?_, fun C r => ?_⟩
  · have e : ztr (K, F, ρ, μs) nm (μs nm) 95 x y st l = ((((some (st, l)).bind zei).bind zei).bind (zga (uSk (μs nm)) kd)).bind (zga (uSk (μs nm)) ke) := by
      show (zheed (K, F, ρ, μs) nm (μs nm) 95 x y st l).bind (fun q => if ([] ++ q.1).length ≤ uSk (μs nm) then some ([] ++ q.1, q.2) else none) = _
      rw [Option.bind_some]
      cases st with
      | nil => rfl
      | cons k t =>
        by_cases c : k = 1 ∨ k = 3
        · have ez : zei (k :: t, l) = some (t, l) := if_pos c
          have ek : k = kd := by
            have := e1 (k :: t, l) (t, l) rfl ez
            injection this
          subst ek
          rw [ez, Option.bind_some]
          cases t with
          | nil => rfl
          | cons j t =>
            by_cases d : j = 1 ∨ j = 3
            · have ez2 : zei (j :: t, l) = some (t, l) := if_pos d
              have ej : j = ke := by
                have := e4 (j :: t, l) (t, l) (by rw [Option.bind_some, ez]) ez2
                injection this
              subst ej
              have eh : zheed (K, F, ρ, μs) nm (μs nm) 95 x y (k :: j :: t) l = some (j :: k :: t, l) := if_pos ⟨c, d⟩
              have hl : (k :: j :: t).length ≤ uSk (μs nm) := h.2.2.2.2.2.1
              have hl2 : (k :: t).length ≤ uSk (μs nm) := Nat.le_trans (Nat.le_succ _) hl
              rw [ez2, eh, Option.bind_some, Option.bind_some, zga_some (v := (t, l)) k1.1 hl2, Option.bind_some, zga_eq k4.1]
              rfl
            · have ez2 : zei (j :: t, l) = none := if_neg d
              have eh : zheed (K, F, ρ, μs) nm (μs nm) 95 x y (k :: j :: t) l = none := if_neg (fun e => d e.2)
              rw [ez2, eh]
              rfl
        · have ez : zei (k :: t, l) = none := if_neg c
          have eh : zheed (K, F, ρ, μs) nm (μs nm) 95 x y (k :: t) l = none := by
            cases t with
            | nil => rfl
            | cons j t => exact if_neg (fun e => c e.1)
          rw [ez, eh]
          rfl
    rw [e]
    exact n3
  · show mX9_judge_194 N (b + 75) (Int32.ofNat nm) P 95 L X Y _ = mX9_judge_570 N (b + 75) (Int32.ofNat nm) P L 1 _
    simp (decide := true) only [mX9_judge_194, mX9_judge_317, mX9_judgeStack, mX9_judgeStack_0, mX9_judgeStack_63, zqk_75, g1, g2, g3, g4, Int32.reduceLT, Int32.reduceLE, Int32.reduceAdd, Int32.reduceSub, Int32.reduceMul, Int32.reduceDiv, Int32.reduceMod, ↓reduceIte, Option.bind_some]
theorem zj_o187 (hE : zEm K F ρ α π C0 M nm μs) (h : zNm (uSk (μs nm)) M (some (st, l))) (hx : x < 256) : zOp w b N nm (K, F, ρ, μs) (μs nm) M st l 187 x y P L (Int32.ofNat x) Y := by
  have hK : K ≤ 30 := hE.1.2.2.2.1
  have e5 : M.1 100 5 = Int32.ofNat K := hE.1.2.1
  have h1 := h.1
  obtain ⟨M1, t1, f1, n1⟩ := zj_push (N := N) (w := w) (b := b) (k := 3) (hE.m9 zM9.r) (by decide) (zNm.sel (x < K) h)
  refine ⟨M1, zM9.r.tr f1, n1, fun C r => ?_⟩
  show mX9_judge_194 N (b + 75) (Int32.ofNat nm) P 187 L (Int32.ofNat x) Y _ = mX9_judge_570 N (b + 75) (Int32.ofNat nm) P L 1 _
  have t1' : mX9_push N (b + 75) (Int32.ofNat nm) 3 (zc w b C (zJ M 100 27 (if x < K then 1 else 0)) r) = some (zc w b C M1 r) := t1 C r
  have g1 : mX9_judgeThing_247 N (b + 75) (Int32.ofNat nm) (if x < K then 1 else 0) (b + 75) (zc w b C M r) = some (zc w b C M1 r) := by
    unfold mX9_judgeThing_247 mX9_judgeThing_415
    rw [if_pos (zsel _), zqp_75_27, Option.bind_some, if_pos zqk_75, t1', Option.bind_some]
  have g2 : mX9_judgeThing N (b + 75) (Int32.ofNat nm) 187 (Int32.ofNat x) Y (zc w b C M r) = some (zc w b C M1 r) := by
    rw [← g1]
    conv => lhs; simp (decide := true) only [mX9_judgeThing, mX9_judgeThing_0, mX9_judgeThing_246, Int32.reduceLT, Int32.reduceLE, Int32.reduceAdd, Int32.reduceSub, Int32.reduceMul, Int32.reduceDiv, Int32.reduceMod, ↓reduceIte, Option.bind_some]
    rw [zqg_75_27, Option.bind_some, h1, if_neg (show ¬ (1 : Int32) = 0 by decide), zqg_75_5, Option.bind_some, e5]
    by_cases c : x < K
    · rw [if_neg (show ¬ Int32.ofNat K ≤ Int32.ofNat x by rw [zi_le (by omega) (by omega)]; omega), if_pos c]
    · rw [if_pos (show Int32.ofNat K ≤ Int32.ofNat x by rw [zi_le (by omega) (by omega)]; omega), if_neg c]
  simp (decide := true) only [mX9_judge_194, mX9_judge_317, mX9_judge_568, zqk_75, g2, Int32.reduceLT, Int32.reduceLE, Int32.reduceAdd, Int32.reduceSub, Int32.reduceMul, Int32.reduceDiv, Int32.reduceMod, ↓reduceIte, Option.bind_some]
theorem zj_o188 (hE : zEm K F ρ α π C0 M nm μs) (h : zNm (uSk (μs nm)) M (some (st, l))) (hx : x < 256) : zOp w b N nm (K, F, ρ, μs) (μs nm) M st l 188 x y P L (Int32.ofNat x) Y := by
  have h1 := h.1
  have key : ∃ M1, zM9 M M1 ∧ zNm (uSk (μs nm)) M1 (ztr (K, F, ρ, μs) nm (μs nm) 188 x y st l) ∧ ∀ (C : zC) (r : zv_X), mX9_judgeThing_316 N (b + 75) (Int32.ofNat nm) (if 4 ≤ x ∧ x ≤ 11 ∧ x ≠ 6 ∧ x ≠ 7 then 1 else 0) (b + 75) (zc w b C M r) = some (zc w b C M1 r) := by
    by_cases c : 4 ≤ x ∧ x ≤ 11 ∧ x ≠ 6 ∧ x ≠ 7
    · obtain ⟨M1, t1, f1, n1⟩ := zj_316 (N := N) (w := w) (b := b) (g := 1) (ks := []) (st := st) (l := l) (Or.inr rfl) hE h.r1
      refine ⟨M1, f1, ?_, by rw [if_pos c]; exact t1⟩
      show zNm (uSk (μs nm)) M1 ((zpop [1] st).bind fun t => (if 4 ≤ x ∧ x ≤ 11 ∧ x ≠ 6 ∧ x ≠ 7 then some (t, l) else none).bind fun q => if ([3] ++ q.1).length ≤ uSk (μs nm) then some ([3] ++ q.1, q.2) else none)
      simp only [if_pos c, Option.bind_some]
      exact n1
    · obtain ⟨M1, t1, f1, n1⟩ := zj_316n (N := N) (w := w) (b := b) hE
      refine ⟨M1, f1, ?_, by rw [if_neg c]; exact t1⟩
      show zNm (uSk (μs nm)) M1 ((zpop [1] st).bind fun t => (if 4 ≤ x ∧ x ≤ 11 ∧ x ≠ 6 ∧ x ≠ 7 then some (t, l) else none).bind fun q => if ([3] ++ q.1).length ≤ uSk (μs nm) then some ([3] ++ q.1, q.2) else none)
      simp only [if_neg c, Option.bind_none]
      cases zpop [1] st <;> exact n1
  obtain ⟨M1, f1, n1, t1⟩ := key
  refine ⟨M1, f1, n1, fun C r => ?_⟩
  show mX9_judge_194 N (b + 75) (Int32.ofNat nm) P 188 L (Int32.ofNat x) Y _ = mX9_judge_570 N (b + 75) (Int32.ofNat nm) P L 1 _
  have g3 : mX9_judgeThing_273 N (b + 75) (Int32.ofNat nm) 188 (Int32.ofNat x) (zc w b C M r) = some (zc w b C M1 r) := by
    rw [← t1 C r]
    unfold mX9_judgeThing_273 mX9_judgeThing_315 mX9_judgeThing_311
    rw [zqg_75_27, Option.bind_some, h1, if_neg (show ¬ (1 : Int32) = 0 by decide), if_neg (show ¬ (188 : Int32) = 189 by decide)]
    by_cases c4 : x < 4
    · rw [if_pos (show Int32.ofNat x < 4 by rw [zi_l4, zi_lt (by omega) (by omega)]; omega), if_neg (by omega)]
    rw [if_neg (show ¬ Int32.ofNat x < 4 by rw [zi_l4, zi_lt (by omega) (by omega)]; omega)]
    by_cases c11 : 11 < x
    · rw [if_pos (show (11 : Int32) < Int32.ofNat x by rw [show (11 : Int32) = Int32.ofNat 11 from rfl, zi_lt (by omega) (by omega)]; omega), if_neg (by omega)]
    rw [if_neg (show ¬ (11 : Int32) < Int32.ofNat x by rw [show (11 : Int32) = Int32.ofNat 11 from rfl, zi_lt (by omega) (by omega)]; omega)]
    by_cases c6 : x = 6
    · rw [if_pos (show Int32.ofNat x = 6 by rw [c6]; rfl), if_neg (by omega)]
    rw [if_neg (show ¬ Int32.ofNat x = 6 by rw [show (6 : Int32) = Int32.ofNat 6 from rfl, zi_eq (by omega) (by omega)]; omega)]
    by_cases c7 : x = 7
    · rw [if_pos (show Int32.ofNat x = 7 by rw [c7]; rfl), if_neg (by omega)]
    rw [if_neg (show ¬ Int32.ofNat x = 7 by rw [show (7 : Int32) = Int32.ofNat 7 from rfl, zi_eq (by omega) (by omega)]; omega), if_pos (by omega)]
  have g2 : mX9_judgeThing N (b + 75) (Int32.ofNat nm) 188 (Int32.ofNat x) Y (zc w b C M r) = some (zc w b C M1 r) := by
    rw [← g3]
    conv => lhs; simp (decide := true) only [mX9_judgeThing, mX9_judgeThing_0, Int32.reduceLT, Int32.reduceLE, Int32.reduceAdd, Int32.reduceSub, Int32.reduceMul, Int32.reduceDiv, Int32.reduceMod, ↓reduceIte, Option.bind_some]
  simp (decide := true) only [mX9_judge_194, mX9_judge_317, mX9_judge_568, zqk_75, g2, Int32.reduceLT, Int32.reduceLE, Int32.reduceAdd, Int32.reduceSub, Int32.reduceMul, Int32.reduceDiv, Int32.reduceMod, ↓reduceIte, Option.bind_some]
theorem zj_o189 (hE : zEm K F ρ α π C0 M nm μs) (h : zNm (uSk (μs nm)) M (some (st, l))) : zOp w b N nm (K, F, ρ, μs) (μs nm) M st l 189 x y P L X Y := by
  have h1 := h.1
  obtain ⟨M1, t1, f1, n1⟩ := zj_316 (N := N) (w := w) (b := b) (g := 1) (ks := []) (st := st) (l := l) (Or.inr rfl) hE h.r1
  refine ⟨M1, f1, n1, fun C r => ?_⟩
  show mX9_judge_194 N (b + 75) (Int32.ofNat nm) P 189 L X Y _ = mX9_judge_570 N (b + 75) (Int32.ofNat nm) P L 1 _
  have g3 : mX9_judgeThing_273 N (b + 75) (Int32.ofNat nm) 189 X (zc w b C M r) = some (zc w b C M1 r) := by
    rw [← t1 C r]
    unfold mX9_judgeThing_273 mX9_judgeThing_315 mX9_judgeThing_311
    rw [zqg_75_27, Option.bind_some, h1, if_neg (show ¬ (1 : Int32) = 0 by decide), if_pos rfl]
  have g2 : mX9_judgeThing N (b + 75) (Int32.ofNat nm) 189 X Y (zc w b C M r) = some (zc w b C M1 r) := by
    rw [← g3]
    conv => lhs; simp (decide := true) only [mX9_judgeThing, mX9_judgeThing_0, Int32.reduceLT, Int32.reduceLE, Int32.reduceAdd, Int32.reduceSub, Int32.reduceMul, Int32.reduceDiv, Int32.reduceMod, ↓reduceIte, Option.bind_some]
  simp (decide := true) only [mX9_judge_194, mX9_judge_317, mX9_judge_568, zqk_75, g2, Int32.reduceLT, Int32.reduceLE, Int32.reduceAdd, Int32.reduceSub, Int32.reduceMul, Int32.reduceDiv, Int32.reduceMod, ↓reduceIte, Option.bind_some]
/-- a type is looked at, a reference goes -/
theorem zj_390 {k : Nat} (hk : 1 ≤ k ∧ k ≤ 3) (hE : zEm K F ρ α π C0 M nm μs) (h : zNm (uSk (μs nm)) M (some (st, l))) : ∃ M0 M1 M2, M0 = zJ M 100 27 (if x < K then 1 else 0) ∧ (∀ (C : zC) (r : zv_X), mX9_pop N (b + 75) 3 (zc w b C M0 r) = some (zc w b C M1 r)) ∧ (∀ (C : zC) (r : zv_X), mX9_push N (b + 75) (Int32.ofNat nm) (Int32.ofNat k) (zc w b C M1 r) = some (zc w b C M2 r)) ∧ zM9 M M2 ∧ zNm (uSk (μs nm)) M2 ((zpop [3] st).bind fun t => (if x < K then some (t, l) else none).bind fun q => if ([k] ++ q.1).length ≤ uSk (μs nm) then some ([k] ++ q.1, q.2) else none) := by
  have h12 : uSk (μs nm) ≤ 12 := hE.ok.2.2.2.2.2.2.2.2.2.1
  by_cases c : x < K
  · have n0 : zNm (uSk (μs nm)) (zJ M 100 27 1) ((zpop [] st).map fun t => (t, l)) := h.r1
    obtain ⟨M1, t1, f1, n1⟩ := zj_pl (N := N) (w := w) (b := b) (k := 3) (by decide) h12 n0
    obtain ⟨M2, t2, f2, n2⟩ := zj_pl1 (N := N) (w := w) (b := b) (hE.m9 (zM9.r.tr f1)) hk n1
    refine ⟨_, M1, M2, rfl, by rw [if_pos c]; exact t1, t2, (zM9.r.tr f1).tr f2, ?_⟩
    simp only [if_pos c, Option.bind_some]
    exact n2
  · obtain ⟨M1, t1, f1, n1⟩ := zj_pop (N := N) (w := w) (b := b) (k := 3) (o := none) (M := zJ M 100 27 0) (by decide) h12 zNm.r0
    obtain ⟨M2, t2, f2, n2⟩ := zj_push (N := N) (w := w) (b := b) (o := none) (hE.m9 (zM9.r.tr f1)) hk n1
    refine ⟨_, M1, M2, rfl, by rw [if_neg c]; exact t1, t2, (zM9.r.tr f1).tr f2, ?_⟩
    simp only [if_neg c, Option.bind_none]
    cases zpop [3] st <;> exact n2
theorem zj_o21 (hE : zEm K F ρ α π C0 M nm μs) (h : zNm (uSk (μs nm)) M (some (st, l))) (hx : x < 256) : zOp w b N nm (K, F, ρ, μs) (μs nm) M st l 21 x y P L (Int32.ofNat x) Y := by
  obtain ⟨M1, t1, f1, n1⟩ := zj_load (N := N) (w := w) (b := b) (k := 1) hE h hx (by decide)
  refine ⟨M1, f1, n1, fun C r => ?_⟩
  show mX9_judge_194 N (b + 75) (Int32.ofNat nm) P 21 L (Int32.ofNat x) Y _ = mX9_judge_570 N (b + 75) (Int32.ofNat nm) P L 1 _
  have g1 : mX9_judgeLoad_59 N (b + 75) (Int32.ofNat nm) (Int32.ofNat x) 1 (zc w b C M r) = some (zc w b C M1 r) := t1 C r
  simp (decide := true) only [mX9_judge_194, mX9_judgeLoad, mX9_judgeLoad_0, zqk_75, g1, Int32.reduceLT, Int32.reduceLE, Int32.reduceAdd, Int32.reduceSub, Int32.reduceMul, Int32.reduceDiv, Int32.reduceMod, ↓reduceIte, Option.bind_some]
theorem zj_o22 (hE : zEm K F ρ α π C0 M nm μs) (h : zNm (uSk (μs nm)) M (some (st, l))) (hx : x < 256) : zOp w b N nm (K, F, ρ, μs) (μs nm) M st l 22 x y P L (Int32.ofNat x) Y := by
  obtain ⟨M1, t1, f1, n1⟩ := zj_load (N := N) (w := w) (b := b) (k := 2) hE h hx (by decide)
  refine ⟨M1, f1, n1, fun C r => ?_⟩
  show mX9_judge_194 N (b + 75) (Int32.ofNat nm) P 22 L (Int32.ofNat x) Y _ = mX9_judge_570 N (b + 75) (Int32.ofNat nm) P L 1 _
  have g1 : mX9_judgeLoad_59 N (b + 75) (Int32.ofNat nm) (Int32.ofNat x) 2 (zc w b C M r) = some (zc w b C M1 r) := t1 C r
  simp (decide := true) only [mX9_judge_194, mX9_judgeLoad, mX9_judgeLoad_0, zqk_75, g1, Int32.reduceLT, Int32.reduceLE, Int32.reduceAdd, Int32.reduceSub, Int32.reduceMul, Int32.reduceDiv, Int32.reduceMod, ↓reduceIte, Option.bind_some]
theorem zj_o25 (hE : zEm K F ρ α π C0 M nm μs) (h : zNm (uSk (μs nm)) M (some (st, l))) (hx : x < 256) : zOp w b N nm (K, F, ρ, μs) (μs nm) M st l 25 x y P L (Int32.ofNat x) Y := by
  obtain ⟨M1, t1, f1, n1⟩ := zj_load (N := N) (w := w) (b := b) (k := 3) hE h hx (by decide)
  refine ⟨M1, f1, n1, fun C r => ?_⟩
  show mX9_judge_194 N (b + 75) (Int32.ofNat nm) P 25 L (Int32.ofNat x) Y _ = mX9_judge_570 N (b + 75) (Int32.ofNat nm) P L 1 _
  have g1 : mX9_judgeLoad_59 N (b + 75) (Int32.ofNat nm) (Int32.ofNat x) 3 (zc w b C M r) = some (zc w b C M1 r) := t1 C r
  simp (decide := true) only [mX9_judge_194, mX9_judgeLoad, mX9_judgeLoad_0, zqk_75, g1, Int32.reduceLT, Int32.reduceLE, Int32.reduceAdd, Int32.reduceSub, Int32.reduceMul, Int32.reduceDiv, Int32.reduceMod, ↓reduceIte, Option.bind_some]
theorem zj_o54 (hE : zEm K F ρ α π C0 M nm μs) (h : zNm (uSk (μs nm)) M (some (st, l))) (hx : x < 256) : zOp w b N nm (K, F, ρ, μs) (μs nm) M st l 54 x y P L (Int32.ofNat x) Y := by
  obtain ⟨M1, t1, f1, n1⟩ := zj_store (N := N) (w := w) (b := b) (P := P) (L := L) (k := 1) hE h hx (by decide)
  refine ⟨M1, f1, ?_, fun C r => ?_⟩
  · have n2 := n1.f0
    rw [Option.bind_assoc] at n2
    exact n2
  · show mX9_judge_194 N (b + 75) (Int32.ofNat nm) P 54 L (Int32.ofNat x) Y _ = mX9_judge_570 N (b + 75) (Int32.ofNat nm) P L 1 _
    have g1 : mX9_judge_259 N (b + 75) (Int32.ofNat nm) P L (Int32.ofNat x) 1 1 (zc w b C M r) = mX9_judge_570 N (b + 75) (Int32.ofNat nm) P L 1 (zc w b C M1 r) := t1 C r
    simp (decide := true) only [mX9_judge_194, g1, Int32.reduceLT, Int32.reduceLE, Int32.reduceAdd, Int32.reduceSub, Int32.reduceMul, Int32.reduceDiv, Int32.reduceMod, ↓reduceIte, Option.bind_some]
theorem zj_o55 (hE : zEm K F ρ α π C0 M nm μs) (h : zNm (uSk (μs nm)) M (some (st, l))) (hx : x < 256) : zOp w b N nm (K, F, ρ, μs) (μs nm) M st l 55 x y P L (Int32.ofNat x) Y := by
  obtain ⟨M1, t1, f1, n1⟩ := zj_store (N := N) (w := w) (b := b) (P := P) (L := L) (k := 2) hE h hx (by decide)
  refine ⟨M1, f1, ?_, fun C r => ?_⟩
  · have n2 := n1.f0
    rw [Option.bind_assoc] at n2
    exact n2
  · show mX9_judge_194 N (b + 75) (Int32.ofNat nm) P 55 L (Int32.ofNat x) Y _ = mX9_judge_570 N (b + 75) (Int32.ofNat nm) P L 1 _
    have g1 : mX9_judge_259 N (b + 75) (Int32.ofNat nm) P L (Int32.ofNat x) 1 2 (zc w b C M r) = mX9_judge_570 N (b + 75) (Int32.ofNat nm) P L 1 (zc w b C M1 r) := t1 C r
    simp (decide := true) only [mX9_judge_194, g1, Int32.reduceLT, Int32.reduceLE, Int32.reduceAdd, Int32.reduceSub, Int32.reduceMul, Int32.reduceDiv, Int32.reduceMod, ↓reduceIte, Option.bind_some]
theorem zj_o58 (hE : zEm K F ρ α π C0 M nm μs) (h : zNm (uSk (μs nm)) M (some (st, l))) (hx : x < 256) : zOp w b N nm (K, F, ρ, μs) (μs nm) M st l 58 x y P L (Int32.ofNat x) Y := by
  obtain ⟨M1, t1, f1, n1⟩ := zj_store (N := N) (w := w) (b := b) (P := P) (L := L) (k := 3) hE h hx (by decide)
  refine ⟨M1, f1, ?_, fun C r => ?_⟩
  · have n2 := n1.f0
    rw [Option.bind_assoc] at n2
    exact n2
  · show mX9_judge_194 N (b + 75) (Int32.ofNat nm) P 58 L (Int32.ofNat x) Y _ = mX9_judge_570 N (b + 75) (Int32.ofNat nm) P L 1 _
    have g1 : mX9_judge_259 N (b + 75) (Int32.ofNat nm) P L (Int32.ofNat x) 1 3 (zc w b C M r) = mX9_judge_570 N (b + 75) (Int32.ofNat nm) P L 1 (zc w b C M1 r) := t1 C r
    simp (decide := true) only [mX9_judge_194, g1, Int32.reduceLT, Int32.reduceLE, Int32.reduceAdd, Int32.reduceSub, Int32.reduceMul, Int32.reduceDiv, Int32.reduceMod, ↓reduceIte, Option.bind_some]
theorem zj_o172 (hE : zEm K F ρ α π C0 M nm μs) (h : zNm (uSk (μs nm)) M (some (st, l))) : zOp w b N nm (K, F, ρ, μs) (μs nm) M st l 172 x y P L X Y := by
  obtain ⟨M1, t1, f1, n1⟩ := zj_ret (N := N) (w := w) (b := b) (P := P) (L := L) (k := 1) hE h (by decide)
  refine ⟨M1, f1, ?_, fun C r => ?_⟩
  · have n2 := n1.f0
    rw [zbm, Option.bind_assoc] at n2
    exact n2
  · show mX9_judge_194 N (b + 75) (Int32.ofNat nm) P 172 L X Y _ = mX9_judge_570 N (b + 75) (Int32.ofNat nm) P L 0 _
    have g1 : mX9_judge_500 N (b + 75) (Int32.ofNat nm) P L 1 (zc w b C M r) = mX9_judge_570 N (b + 75) (Int32.ofNat nm) P L 0 (zc w b C M1 r) := t1 C r
    simp (decide := true) only [mX9_judge_194, mX9_judge_317, g1, Int32.reduceLT, Int32.reduceLE, Int32.reduceAdd, Int32.reduceSub, Int32.reduceMul, Int32.reduceDiv, Int32.reduceMod, ↓reduceIte, Option.bind_some]
theorem zj_o173 (hE : zEm K F ρ α π C0 M nm μs) (h : zNm (uSk (μs nm)) M (some (st, l))) : zOp w b N nm (K, F, ρ, μs) (μs nm) M st l 173 x y P L X Y := by
  obtain ⟨M1, t1, f1, n1⟩ := zj_ret (N := N) (w := w) (b := b) (P := P) (L := L) (k := 2) hE h (by decide)
  refine ⟨M1, f1, ?_, fun C r => ?_⟩
  · have n2 := n1.f0
    rw [zbm, Option.bind_assoc] at n2
    exact n2
  · show mX9_judge_194 N (b + 75) (Int32.ofNat nm) P 173 L X Y _ = mX9_judge_570 N (b + 75) (Int32.ofNat nm) P L 0 _
    have g1 : mX9_judge_500 N (b + 75) (Int32.ofNat nm) P L 2 (zc w b C M r) = mX9_judge_570 N (b + 75) (Int32.ofNat nm) P L 0 (zc w b C M1 r) := t1 C r
    simp (decide := true) only [mX9_judge_194, mX9_judge_317, g1, Int32.reduceLT, Int32.reduceLE, Int32.reduceAdd, Int32.reduceSub, Int32.reduceMul, Int32.reduceDiv, Int32.reduceMod, ↓reduceIte, Option.bind_some]
theorem zj_o176 (hE : zEm K F ρ α π C0 M nm μs) (h : zNm (uSk (μs nm)) M (some (st, l))) : zOp w b N nm (K, F, ρ, μs) (μs nm) M st l 176 x y P L X Y := by
  obtain ⟨M1, t1, f1, n1⟩ := zj_ret (N := N) (w := w) (b := b) (P := P) (L := L) (k := 3) hE h (by decide)
  refine ⟨M1, f1, ?_, fun C r => ?_⟩
  · have n2 := n1.f0
    rw [zbm, Option.bind_assoc] at n2
    exact n2
  · show mX9_judge_194 N (b + 75) (Int32.ofNat nm) P 176 L X Y _ = mX9_judge_570 N (b + 75) (Int32.ofNat nm) P L 0 _
    have g1 : mX9_judge_500 N (b + 75) (Int32.ofNat nm) P L 3 (zc w b C M r) = mX9_judge_570 N (b + 75) (Int32.ofNat nm) P L 0 (zc w b C M1 r) := t1 C r
    simp (decide := true) only [mX9_judge_194, mX9_judge_317, g1, Int32.reduceLT, Int32.reduceLE, Int32.reduceAdd, Int32.reduceSub, Int32.reduceMul, Int32.reduceDiv, Int32.reduceMod, ↓reduceIte, Option.bind_some]
theorem zj_o177 (hE : zEm K F ρ α π C0 M nm μs) (h : zNm (uSk (μs nm)) M (some (st, l))) : zOp w b N nm (K, F, ρ, μs) (μs nm) M st l 177 x y P L X Y := by
  obtain ⟨M1, t1, f1, n1⟩ := zj_res (N := N) (w := w) (b := b) (P := P) (L := L) (k := 0) hE h (by decide)
  refine ⟨M1, f1, n1.f0, fun C r => ?_⟩
  show mX9_judge_194 N (b + 75) (Int32.ofNat nm) P 177 L X Y _ = mX9_judge_570 N (b + 75) (Int32.ofNat nm) P L 0 _
  have g1 : mX9_judge_513 N (b + 75) (Int32.ofNat nm) P L 0 (zc w b C M r) = mX9_judge_570 N (b + 75) (Int32.ofNat nm) P L 0 (zc w b C M1 r) := t1 C r
  simp (decide := true) only [mX9_judge_194, mX9_judge_317, mX9_judge_500, g1, Int32.reduceLT, Int32.reduceLE, Int32.reduceAdd, Int32.reduceSub, Int32.reduceMul, Int32.reduceDiv, Int32.reduceMod, ↓reduceIte, Option.bind_some]
theorem zj_o192 (hE : zEm K F ρ α π C0 M nm μs) (h : zNm (uSk (μs nm)) M (some (st, l))) (hx : x < 256) : zOp w b N nm (K, F, ρ, μs) (μs nm) M st l 192 x y P L (Int32.ofNat x) Y := by
  have hK : K ≤ 30 := hE.1.2.2.2.1
  have e5 : M.1 100 5 = Int32.ofNat K := hE.1.2.1
  have h1 := h.1
  obtain ⟨M0, M1, M2, e0, t1, t2, f2, n2⟩ := zj_390 (N := N) (w := w) (b := b) (x := x) (k := 3) (by decide) hE h
  refine ⟨M2, f2, n2, fun C r => ?_⟩
  show mX9_judge_194 N (b + 75) (Int32.ofNat nm) P 192 L (Int32.ofNat x) Y _ = mX9_judge_570 N (b + 75) (Int32.ofNat nm) P L 1 _
  have t2' : mX9_push N (b + 75) (Int32.ofNat nm) 3 (zc w b C M1 r) = some (zc w b C M2 r) := t2 C r
  have g1 : mX9_judgeThing_390 N (b + 75) (Int32.ofNat nm) 192 (if x < K then 1 else 0) (b + 75) (zc w b C M r) = some (zc w b C M2 r) := by
    unfold mX9_judgeThing_390 mX9_judgeThing_412 mX9_judgeThing_415
    rw [if_pos (zsel _), zqp_75_27, Option.bind_some, if_pos zqk_75, ← e0, t1 C r, Option.bind_some, if_pos rfl, if_pos zqk_75, t2', Option.bind_some]
  have g2 : mX9_judgeThing N (b + 75) (Int32.ofNat nm) 192 (Int32.ofNat x) Y (zc w b C M r) = some (zc w b C M2 r) := by
    rw [← g1]
    conv => lhs; simp (decide := true) only [mX9_judgeThing, mX9_judgeThing_0, mX9_judgeThing_389, Int32.reduceLT, Int32.reduceLE, Int32.reduceAdd, Int32.reduceSub, Int32.reduceMul, Int32.reduceDiv, Int32.reduceMod, ↓reduceIte, Option.bind_some]
    rw [zqg_75_27, Option.bind_some, h1, if_neg (show ¬ (1 : Int32) = 0 by decide), zqg_75_5, Option.bind_some, e5]
    by_cases c : x < K
    · rw [if_neg (show ¬ Int32.ofNat K ≤ Int32.ofNat x by rw [zi_le (by omega) (by omega)]; omega), if_pos c]
    · rw [if_pos (show Int32.ofNat K ≤ Int32.ofNat x by rw [zi_le (by omega) (by omega)]; omega), if_neg c]
  simp (decide := true) only [mX9_judge_194, mX9_judge_317, mX9_judge_568, zqk_75, g2, Int32.reduceLT, Int32.reduceLE, Int32.reduceAdd, Int32.reduceSub, Int32.reduceMul, Int32.reduceDiv, Int32.reduceMod, ↓reduceIte, Option.bind_some]
theorem zj_o193 (hE : zEm K F ρ α π C0 M nm μs) (h : zNm (uSk (μs nm)) M (some (st, l))) (hx : x < 256) : zOp w b N nm (K, F, ρ, μs) (μs nm) M st l 193 x y P L (Int32.ofNat x) Y := by
  have hK : K ≤ 30 := hE.1.2.2.2.1
  have e5 : M.1 100 5 = Int32.ofNat K := hE.1.2.1
  have h1 := h.1
  obtain ⟨M0, M1, M2, e0, t1, t2, f2, n2⟩ := zj_390 (N := N) (w := w) (b := b) (x := x) (k := 1) (by decide) hE h
  refine ⟨M2, f2, n2, fun C r => ?_⟩
  show mX9_judge_194 N (b + 75) (Int32.ofNat nm) P 193 L (Int32.ofNat x) Y _ = mX9_judge_570 N (b + 75) (Int32.ofNat nm) P L 1 _
  have t2' : mX9_push N (b + 75) (Int32.ofNat nm) 1 (zc w b C M1 r) = some (zc w b C M2 r) := t2 C r
  have g1 : mX9_judgeThing_390 N (b + 75) (Int32.ofNat nm) 193 (if x < K then 1 else 0) (b + 75) (zc w b C M r) = some (zc w b C M2 r) := by
    unfold mX9_judgeThing_390 mX9_judgeThing_412 mX9_judgeThing_415
    rw [if_pos (zsel _), zqp_75_27, Option.bind_some, if_pos zqk_75, ← e0, t1 C r, Option.bind_some, if_neg (show ¬ (193 : Int32) = 192 by decide), if_pos zqk_75, t2', Option.bind_some]
  have g2 : mX9_judgeThing N (b + 75) (Int32.ofNat nm) 193 (Int32.ofNat x) Y (zc w b C M r) = some (zc w b C M2 r) := by
    rw [← g1]
    conv => lhs; simp (decide := true) only [mX9_judgeThing, mX9_judgeThing_0, mX9_judgeThing_389, Int32.reduceLT, Int32.reduceLE, Int32.reduceAdd, Int32.reduceSub, Int32.reduceMul, Int32.reduceDiv, Int32.reduceMod, ↓reduceIte, Option.bind_some]
    rw [zqg_75_27, Option.bind_some, h1, if_neg (show ¬ (1 : Int32) = 0 by decide), zqg_75_5, Option.bind_some, e5]
    by_cases c : x < K
    · rw [if_neg (show ¬ Int32.ofNat K ≤ Int32.ofNat x by rw [zi_le (by omega) (by omega)]; omega), if_pos c]
    · rw [if_pos (show Int32.ofNat K ≤ Int32.ofNat x by rw [zi_le (by omega) (by omega)]; omega), if_neg c]
  simp (decide := true) only [mX9_judge_194, mX9_judge_317, mX9_judge_568, zqk_75, g2, Int32.reduceLT, Int32.reduceLE, Int32.reduceAdd, Int32.reduceSub, Int32.reduceMul, Int32.reduceDiv, Int32.reduceMod, ↓reduceIte, Option.bind_some]
/-- a field's kind, of the reference -/
theorem zEm.kf (hE : zEm K F ρ α π C0 M nm μs) (hx : x < K) (hy : y < F x) : M.1 4 (8 * x + y) = Int32.ofNat (zkf ρ x y) ∧ (1 ≤ zkf ρ x y ∧ zkf ρ x y ≤ 3) ∧ M.1 3 x = Int32.ofNat (F x) ∧ F x ≤ 8 ∧ K ≤ 30 := by
  obtain ⟨a1, a2, a3, a4, a5, a6, a7, a8⟩ := hE.1
  obtain ⟨b1, b2, b3, b4, b5, b6, b7, b8⟩ := a7 x hx
  refine ⟨b8 y hy, ?_, b4, b5, a4⟩
  unfold zkf
  split <;> omega
/-- no such field -/
theorem zj_14n {op : Nat} (hE : zEm K F ρ α π C0 M nm μs) (h : zNm (uSk (μs nm)) M (some (st, l))) (hx : x < 256) (hy : y < 256) (c : ¬ (x < K ∧ y < F x)) (C : zC) (r : zv_X) : mX9_judgeThing_14 N (b + 75) (Int32.ofNat nm) (Int32.ofNat op) (Int32.ofNat x) (Int32.ofNat y) (zc w b C M r) = some (zc w b C (zJ M 100 27 0) r) := by
  have hK : K ≤ 30 := hE.1.2.2.2.1
  have e5 : M.1 100 5 = Int32.ofNat K := hE.1.2.1
  have bad : mX9_judgeThing_45 N (b + 75) (Int32.ofNat nm) (Int32.ofNat op) (Int32.ofNat x) (Int32.ofNat y) (b + 75) (zc w b C M r) = some (zc w b C (zJ M 100 27 0) r) := by
    unfold mX9_judgeThing_45 mX9_judgeThing_46 mX9_judgeThing_415
    rw [if_pos (Or.inl rfl), zqp_75_27, Option.bind_some, zqg_75_27, Option.bind_some, show (zJ M 100 27 0).1 100 27 = 0 from rfl, if_pos rfl]
  unfold mX9_judgeThing_14
  rw [zqg_75_27, Option.bind_some, h.1, if_neg (show ¬ (1 : Int32) = 0 by decide), zqg_75_5, Option.bind_some, e5]
  by_cases c1 : x < K
  · obtain ⟨b1, b2, b3, b4, b5, b6, b7, b8⟩ := hE.1.2.2.2.2.2.2.1 x c1
    rw [if_neg (show ¬ Int32.ofNat K ≤ Int32.ofNat x by rw [zi_le (by omega) (by omega)]; omega), zqg_75_3, Option.bind_some, zqa_77 (by omega), Option.bind_some, b4, if_pos (show Int32.ofNat (F x) ≤ Int32.ofNat y by rw [zi_le (by omega) (by omega)]; omega), bad]
  · rw [if_pos (show Int32.ofNat K ≤ Int32.ofNat x by rw [zi_le (by omega) (by omega)]; omega), bad]
theorem zj_14y {op : Nat} (hE : zEm K F ρ α π C0 M nm μs) (h : zNm (uSk (μs nm)) M (some (st, l))) (hx : x < K) (hy : y < F x) (C : zC) (r : zv_X) : mX9_judgeThing_14 N (b + 75) (Int32.ofNat nm) (Int32.ofNat op) (Int32.ofNat x) (Int32.ofNat y) (zc w b C M r) = if Int32.ofNat op = (181 : Int32) then (mX9_pop N (b + 75) (Int32.ofNat (zkf ρ x y)) (zc w b C (zJ M 100 27 1) r)).bind fun o9 => mX9_judgeThing_83 N (b + 75) (Int32.ofNat nm) (Int32.ofNat op) (Int32.ofNat (zkf ρ x y)) o9 else mX9_judgeThing_83 N (b + 75) (Int32.ofNat nm) (Int32.ofNat op) (Int32.ofNat (zkf ρ x y)) (zc w b C (zJ M 100 27 1) r) := by
  obtain ⟨e4, hk, e3, h8, hK⟩ := hE.kf hx hy
  have e5 : M.1 100 5 = Int32.ofNat K := hE.1.2.1
  unfold mX9_judgeThing_14 mX9_judgeThing_46
  rw [zqg_75_27, Option.bind_some, h.1, if_neg (show ¬ (1 : Int32) = 0 by decide), zqg_75_5, Option.bind_some, e5, if_neg (show ¬ Int32.ofNat K ≤ Int32.ofNat x by rw [zi_le (by omega) (by omega)]; omega), zqg_75_3, Option.bind_some, zqa_77 (by omega), Option.bind_some, e3, if_neg (show ¬ Int32.ofNat (F x) ≤ Int32.ofNat y by rw [zi_le (by omega) (by omega)]; omega), if_pos (show (1 : Int32) = 0 ∨ (1 : Int32) = 1 from Or.inr rfl), zqp_75_27, Option.bind_some, zqg_75_27, Option.bind_some, show (zJ M 100 27 1).1 100 27 = 1 from rfl, if_neg (show ¬ (1 : Int32) = 0 by decide), zqg_75_4, Option.bind_some, show (8 : Int32) = Int32.ofNat 8 from rfl, zi_mul, zi_add, zqa_78 (by omega), Option.bind_some, show (zJ M 100 27 1).1 4 (8 * x + y) = Int32.ofNat (zkf ρ x y) from e4, if_pos zqk_75]
theorem zj_o180 (hE : zEm K F ρ α π C0 M nm μs) (h : zNm (uSk (μs nm)) M (some (st, l))) (hx : x < 256) (hy : y < 256) : zOp w b N nm (K, F, ρ, μs) (μs nm) M st l 180 x y P L (Int32.ofNat x) (Int32.ofNat y) := by
  have h12 : uSk (μs nm) ≤ 12 := hE.ok.2.2.2.2.2.2.2.2.2.1
  by_cases c : x < K ∧ y < F x
  · obtain ⟨e4, hk, e3, h8, hK⟩ := hE.kf c.1 c.2
    have n0 : zNm (uSk (μs nm)) (zJ M 100 27 1) ((zpop [] st).map fun t => (t, l)) := h.r1
    obtain ⟨M1, t1, f1, n1⟩ := zj_pl (N := N) (w := w) (b := b) (k := 3) (by decide) h12 n0
    obtain ⟨M2, t2, f2, n2⟩ := zj_pl1 (N := N) (w := w) (b := b) (hE.m9 (zM9.r.tr f1)) hk n1
    refine ⟨M2, (zM9.r.tr f1).tr f2, ?_, fun C r => ?_⟩
    · show zNm (uSk (μs nm)) M2 ((zpop [3] st).bind fun t => (if x < K ∧ y < F x then some (zkf ρ x y :: t, l) else none).bind fun q => if ([] ++ q.1).length ≤ uSk (μs nm) then some ([] ++ q.1, q.2) else none)
      simp only [if_pos c, Option.bind_some]
      exact n2
    · show mX9_judge_194 N (b + 75) (Int32.ofNat nm) P 180 L (Int32.ofNat x) (Int32.ofNat y) _ = mX9_judge_570 N (b + 75) (Int32.ofNat nm) P L 1 _
      have t1' : mX9_pop N (b + 75) 3 (zc w b C (zJ M 100 27 1) r) = some (zc w b C M1 r) := t1 C r
      have g1 : mX9_judgeThing_14 N (b + 75) (Int32.ofNat nm) 180 (Int32.ofNat x) (Int32.ofNat y) (zc w b C M r) = some (zc w b C M2 r) := by
        refine (zj_14y (op := 180) hE h c.1 c.2 C r).trans ?_
        rw [if_neg (by decide)]
        unfold mX9_judgeThing_83 mX9_judgeThing_102 mX9_judgeThing_415
        rw [if_pos zqk_75, t1', Option.bind_some, if_pos (show Int32.ofNat 180 = (180 : Int32) from rfl), if_pos zqk_75, t2 C r, Option.bind_some]
      have g2 : mX9_judgeThing N (b + 75) (Int32.ofNat nm) 180 (Int32.ofNat x) (Int32.ofNat y) (zc w b C M r) = some (zc w b C M2 r) := by
        unfold mX9_judgeThing mX9_judgeThing_0
        rw [if_pos rfl, g1]
      simp (decide := true) only [mX9_judge_194, mX9_judge_317, mX9_judge_568, zqk_75, g2, Int32.reduceLT, Int32.reduceLE, Int32.reduceAdd, Int32.reduceSub, Int32.reduceMul, Int32.reduceDiv, Int32.reduceMod, ↓reduceIte, Option.bind_some]
  · refine ⟨zJ M 100 27 0, zM9.r, ?_, fun C r => ?_⟩
    · show zNm (uSk (μs nm)) _ ((zpop [3] st).bind fun t => (if x < K ∧ y < F x then some (zkf ρ x y :: t, l) else none).bind fun q => if ([] ++ q.1).length ≤ uSk (μs nm) then some ([] ++ q.1, q.2) else none)
      simp only [if_neg c, Option.bind_none]
      cases zpop [3] st <;> exact zNm.r0
    · show mX9_judge_194 N (b + 75) (Int32.ofNat nm) P 180 L (Int32.ofNat x) (Int32.ofNat y) _ = mX9_judge_570 N (b + 75) (Int32.ofNat nm) P L 1 _
      have g2 : mX9_judgeThing N (b + 75) (Int32.ofNat nm) 180 (Int32.ofNat x) (Int32.ofNat y) (zc w b C M r) = some (zc w b C (zJ M 100 27 0) r) := by
        unfold mX9_judgeThing mX9_judgeThing_0
        rw [if_pos rfl]
        exact zj_14n (op := 180) hE h hx hy c C r
      simp (decide := true) only [mX9_judge_194, mX9_judge_317, mX9_judge_568, zqk_75, g2, Int32.reduceLT, Int32.reduceLE, Int32.reduceAdd, Int32.reduceSub, Int32.reduceMul, Int32.reduceDiv, Int32.reduceMod, ↓reduceIte, Option.bind_some]
theorem zj_o181 (hE : zEm K F ρ α π C0 M nm μs) (h : zNm (uSk (μs nm)) M (some (st, l))) (hx : x < 256) (hy : y < 256) : zOp w b N nm (K, F, ρ, μs) (μs nm) M st l 181 x y P L (Int32.ofNat x) (Int32.ofNat y) := by
  have h12 : uSk (μs nm) ≤ 12 := hE.ok.2.2.2.2.2.2.2.2.2.1
  by_cases c : x < K ∧ y < F x
  · obtain ⟨e4, hk, e3, h8, hK⟩ := hE.kf c.1 c.2
    have n0 : zNm (uSk (μs nm)) (zJ M 100 27 1) ((zpop [] st).map fun t => (t, l)) := h.r1
    obtain ⟨M1, t1, f1, n1⟩ := zj_pl (N := N) (w := w) (b := b) (k := zkf ρ x y) hk.2 h12 n0
    obtain ⟨M2, t2, f2, n2⟩ := zj_pl (N := N) (w := w) (b := b) (k := 3) (by decide) h12 n1
    refine ⟨M2, (zM9.r.tr f1).tr f2, ?_, fun C r => ?_⟩
    · show zNm (uSk (μs nm)) M2 ((if x < K ∧ y < F x then (zpop [zkf ρ x y, 3] st).map fun st => (st, l) else none).bind fun q => if ([] ++ q.1).length ≤ uSk (μs nm) then some ([] ++ q.1, q.2) else none)
      rw [if_pos c]
      exact zNm.f0 n2
    · show mX9_judge_194 N (b + 75) (Int32.ofNat nm) P 181 L (Int32.ofNat x) (Int32.ofNat y) _ = mX9_judge_570 N (b + 75) (Int32.ofNat nm) P L 1 _
      have t2' : mX9_pop N (b + 75) 3 (zc w b C M1 r) = some (zc w b C M2 r) := t2 C r
      have g1 : mX9_judgeThing_14 N (b + 75) (Int32.ofNat nm) 181 (Int32.ofNat x) (Int32.ofNat y) (zc w b C M r) = some (zc w b C M2 r) := by
        refine (zj_14y (op := 181) hE h c.1 c.2 C r).trans ?_
        rw [if_pos (by decide), t1 C r, Option.bind_some]
        unfold mX9_judgeThing_83 mX9_judgeThing_102 mX9_judgeThing_415
        rw [if_pos zqk_75, t2', Option.bind_some, if_neg (by decide)]
      have g2 : mX9_judgeThing N (b + 75) (Int32.ofNat nm) 181 (Int32.ofNat x) (Int32.ofNat y) (zc w b C M r) = some (zc w b C M2 r) := by
        unfold mX9_judgeThing mX9_judgeThing_0
        rw [if_neg (by decide), if_pos rfl, g1]
      simp (decide := true) only [mX9_judge_194, mX9_judge_317, mX9_judge_568, zqk_75, g2, Int32.reduceLT, Int32.reduceLE, Int32.reduceAdd, Int32.reduceSub, Int32.reduceMul, Int32.reduceDiv, Int32.reduceMod, ↓reduceIte, Option.bind_some]
  · refine ⟨zJ M 100 27 0, zM9.r, ?_, fun C r => ?_⟩
    · show zNm (uSk (μs nm)) _ ((if x < K ∧ y < F x then (zpop [zkf ρ x y, 3] st).map fun st => (st, l) else none).bind fun q => if ([] ++ q.1).length ≤ uSk (μs nm) then some ([] ++ q.1, q.2) else none)
      rw [if_neg c]
      exact zNm.r0
    · show mX9_judge_194 N (b + 75) (Int32.ofNat nm) P 181 L (Int32.ofNat x) (Int32.ofNat y) _ = mX9_judge_570 N (b + 75) (Int32.ofNat nm) P L 1 _
      have g2 : mX9_judgeThing N (b + 75) (Int32.ofNat nm) 181 (Int32.ofNat x) (Int32.ofNat y) (zc w b C M r) = some (zc w b C (zJ M 100 27 0) r) := by
        unfold mX9_judgeThing mX9_judgeThing_0
        rw [if_neg (by decide), if_pos rfl]
        exact zj_14n (op := 181) hE h hx hy c C r
      simp (decide := true) only [mX9_judge_194, mX9_judge_317, mX9_judge_568, zqk_75, g2, Int32.reduceLT, Int32.reduceLE, Int32.reduceAdd, Int32.reduceSub, Int32.reduceMul, Int32.reduceDiv, Int32.reduceMod, ↓reduceIte, Option.bind_some]
/-- a call's arguments go, the last first; its result comes -/
theorem zj_args (hx : x ≤ nm) : ∀ (n fuel : Nat) (ks : List Nat) (M : zM), zEm K F ρ α π C0 M nm μs → n ≤ uNa (μs x) → n < fuel → zNm (uSk (μs nm)) M ((zpop ks st).map fun t => (t, l)) → ∃ M1, (∀ (C : zC) (r : zv_X), mX9_judgeThing_163 N fuel (b + 75) (Int32.ofNat nm) (Int32.ofNat x) (Int32.ofNat n + -1) (zc w b C M r) = some (zc w b C M1 r)) ∧ zM9 M M1 ∧ zNm (uSk (μs nm)) M1 (((zpop (ks ++ zargs (uKd (μs x)) n) st).map fun t => (t, l)).bind (zga (uSk (μs nm)) (uRs (μs x))))
  | 0, fuel, ks, M, hE, hn, hf, h => by
    obtain ⟨fuel, rfl⟩ : ∃ g, fuel = g + 1 := ⟨fuel - 1, by omega⟩
    have h20 := hE.2.1
    have hR : uRs (μs x) ≤ 3 := (hE.2.2.2 x hx).2.2.2.2.2.2.2.2.2.2.2
    have e16 : M.1 16 x = Int32.ofNat (uRs (μs x)) := (hE.2.2.2 x hx).1.2.2.2.2.2.2.2.2
    have h' : zNm (uSk (μs nm)) M ((zpop (ks ++ zargs (uKd (μs x)) 0) st).map fun t => (t, l)) := by
      show zNm (uSk (μs nm)) M ((zpop (ks ++ []) st).map fun t => (t, l))
      rw [List.append_nil]
      exact h
    have ne : Int32.ofNat 0 + -1 < (0 : Int32) := by decide
    cases e : (zpop (ks ++ zargs (uKd (μs x)) 0) st).map fun t => (t, l) with
    | none =>
      rw [e] at h'
      have h1 : M.1 100 27 = 0 := h'
      refine ⟨M, fun C r => ?_, zM9.rf, h1⟩
      unfold mX9_judgeThing_163 mX9_judgeThing_415
      rw [if_pos ne, zqg_75_27, Option.bind_some, h1, if_pos rfl]
    | some v =>
      rw [e] at h'
      rw [Option.bind_some]
      by_cases c : uRs (μs x) = 0
      · refine ⟨M, fun C r => ?_, zM9.rf, by unfold zga; rw [if_pos c]; exact h'⟩
        unfold mX9_judgeThing_163 mX9_judgeThing_415
        rw [if_pos ne, zqg_75_27, Option.bind_some, h'.1, if_neg (show ¬ (1 : Int32) = 0 by decide), zqg_75_16, Option.bind_some, zqa_87 (by omega), Option.bind_some, e16, c, if_pos (show Int32.ofNat 0 ≤ 0 by decide)]
      · obtain ⟨M1, t1, f1, n1⟩ := zj_push (N := N) (w := w) (b := b) hE (k := uRs (μs x)) ⟨by omega, hR⟩ h'
        refine ⟨M1, fun C r => ?_, f1, n1⟩
        unfold mX9_judgeThing_163 mX9_judgeThing_415
        rw [if_pos ne, zqg_75_27, Option.bind_some, h'.1, if_neg (show ¬ (1 : Int32) = 0 by decide), zqg_75_16, Option.bind_some, zqa_87 (by omega), Option.bind_some, e16, if_neg (show ¬ Int32.ofNat (uRs (μs x)) ≤ 0 by rw [zi_l0, zi_le (by omega) (by omega)]; omega), Option.bind_some, zqa_87 (by omega), Option.bind_some, e16, if_pos zqk_75, t1 C r]
        rfl
  | n + 1, fuel, ks, M, hE, hn, hf, h => by
    obtain ⟨fuel, rfl⟩ : ∃ g, fuel = g + 1 := ⟨fuel - 1, by omega⟩
    have h20 := hE.2.1
    have h12 : uSk (μs nm) ≤ 12 := hE.ok.2.2.2.2.2.2.2.2.2.1
    have h4 : uNa (μs x) ≤ 4 := (hE.2.2.2 x hx).2.2.2.2.2.2.1
    have hk := (hE.2.2.2 x hx).2.2.2.2.2.2.2.1 n (by omega)
    have e13 : M.1 13 (4 * x + n) = Int32.ofNat (uKd (μs x) n) := (hE.2.2.2 x hx).1.2.2.2.2.2.1 n (by omega)
    obtain ⟨M1, t1, f1, n1⟩ := zj_pl (N := N) (w := w) (b := b) (k := uKd (μs x) n) hk.2 h12 h
    obtain ⟨M2, t2, f2, n2⟩ := zj_args hx n fuel (ks ++ [uKd (μs x) n]) M1 (hE.m9 f1) (by omega) (by omega) n1
    refine ⟨M2, fun C r => ?_, f1.tr f2, ?_⟩
    · rw [zi_pred, ← t2 C r]
      conv => lhs; unfold mX9_judgeThing_163
      rw [if_neg (by rw [zi_nn (by omega)]; exact not_false), zqg_75_13, Option.bind_some, zi_l4, zi_mul, zi_add, zqa_84 (by omega), Option.bind_some, e13, if_pos zqk_75, t1 C r, Option.bind_some]
    · rw [List.append_assoc] at n2
      exact n2
theorem zj_o184 (hN : 5 < N) (hE : zEm K F ρ α π C0 M nm μs) (h : zNm (uSk (μs nm)) M (some (st, l))) (hx : x < 256) : zOp w b N nm (K, F, ρ, μs) (μs nm) M st l 184 x y P L (Int32.ofNat x) Y := by
  have h20 := hE.2.1
  have e19 : M.1 100 19 = Int32.ofNat nm := hE.2.2.1
  have h12 : uSk (μs nm) ≤ 12 := hE.ok.2.2.2.2.2.2.2.2.2.1
  have h1 := h.1
  by_cases c : x ≤ nm
  · have h4 : uNa (μs x) ≤ 4 := (hE.2.2.2 x c).2.2.2.2.2.2.1
    have e12 : M.1 12 x = Int32.ofNat (uNa (μs x)) := (hE.2.2.2 x c).1.2.2.2.2.1
    have n0 : zNm (uSk (μs nm)) (zJ M 100 27 1) ((zpop [] st).map fun t => (t, l)) := h.r1
    obtain ⟨M1, t1, f1, n1⟩ := zj_args (N := N) (w := w) (b := b) c (uNa (μs x)) N [] (zJ M 100 27 1) (hE.m9 zM9.r) (Nat.le_refl _) (by omega) n0
    refine ⟨M1, zM9.r.tr f1, ?_, fun C r => ?_⟩
    · show zNm (uSk (μs nm)) M1 ((if x ≤ nm then (zpop (zargs (uKd (μs x)) (uNa (μs x))) st).map fun st => (if uRs (μs x) = 0 then st else uRs (μs x) :: st, l) else none).bind fun q => if ([] ++ q.1).length ≤ uSk (μs nm) then some ([] ++ q.1, q.2) else none)
      rw [if_pos c]
      have n2 : zNm (uSk (μs nm)) M1 (((zpop (zargs (uKd (μs x)) (uNa (μs x))) st).map fun t => (t, l)).bind (zga (uSk (μs nm)) (uRs (μs x)))) := n1
      cases e : zpop (zargs (uKd (μs x)) (uNa (μs x))) st with
      | none =>
        rw [e] at n2
        exact n2
      | some t =>
        rw [e] at n2
        have n3 : zNm (uSk (μs nm)) M1 (zga (uSk (μs nm)) (uRs (μs x)) (t, l)) := n2
        unfold zga at n3
        rw [Option.map_some, Option.bind_some]
        by_cases z : uRs (μs x) = 0
        · rw [if_pos z] at n3
          rw [if_pos z]
          exact zNm.f0 n3
        · rw [if_neg z] at n3
          rw [if_neg z]
          exact n3
    · show mX9_judge_194 N (b + 75) (Int32.ofNat nm) P 184 L (Int32.ofNat x) Y _ = mX9_judge_570 N (b + 75) (Int32.ofNat nm) P L 1 _
      have g1 : mX9_judgeThing_139 N (b + 75) (Int32.ofNat nm) (Int32.ofNat x) 1 (b + 75) (zc w b C M r) = some (zc w b C M1 r) := by
        unfold mX9_judgeThing_139 mX9_judgeThing_161
        rw [if_pos (Or.inr rfl), zqp_75_27, Option.bind_some, zqg_75_27, Option.bind_some, show (zJ M 100 27 1).1 100 27 = 1 from rfl, if_neg (show ¬ (1 : Int32) = 0 by decide), zqg_75_12, Option.bind_some, zqa_83 (by omega), Option.bind_some, show (zJ M 100 27 1).1 12 x = Int32.ofNat (uNa (μs x)) from e12, Int32.sub_eq_add_neg]
        exact t1 C r
      have g2 : mX9_judgeThing N (b + 75) (Int32.ofNat nm) 184 (Int32.ofNat x) Y (zc w b C M r) = some (zc w b C M1 r) := by
        rw [← g1]
        unfold mX9_judgeThing mX9_judgeThing_0
        rw [if_neg (show ¬ (184 : Int32) = 180 by decide), if_neg (show ¬ (184 : Int32) = 181 by decide), if_pos rfl, zqg_75_27, Option.bind_some, h1, if_neg (show ¬ (1 : Int32) = 0 by decide), zqg_75_19, Option.bind_some, e19, if_neg (show ¬ Int32.ofNat nm < Int32.ofNat x by rw [zi_lt (by omega) (by omega)]; omega), if_neg (show ¬ (20 : Int32) ≤ Int32.ofNat x by rw [show (20 : Int32) = Int32.ofNat 20 from rfl, zi_le (by omega) (by omega)]; omega)]
      simp (decide := true) only [mX9_judge_194, mX9_judge_317, mX9_judge_568, zqk_75, g2, Int32.reduceLT, Int32.reduceLE, Int32.reduceAdd, Int32.reduceSub, Int32.reduceMul, Int32.reduceDiv, Int32.reduceMod, ↓reduceIte, Option.bind_some]
  · refine ⟨zJ M 100 27 0, zM9.r, ?_, fun C r => ?_⟩
    · show zNm (uSk (μs nm)) _ ((if x ≤ nm then (zpop (zargs (uKd (μs x)) (uNa (μs x))) st).map fun st => (if uRs (μs x) = 0 then st else uRs (μs x) :: st, l) else none).bind fun q => if ([] ++ q.1).length ≤ uSk (μs nm) then some ([] ++ q.1, q.2) else none)
      rw [if_neg c]
      exact zNm.r0
    · show mX9_judge_194 N (b + 75) (Int32.ofNat nm) P 184 L (Int32.ofNat x) Y _ = mX9_judge_570 N (b + 75) (Int32.ofNat nm) P L 1 _
      obtain ⟨n, rfl⟩ : ∃ n, N = n + 1 := ⟨N - 1, by omega⟩
      have g1 : mX9_judgeThing_138 (n + 1) (b + 75) (Int32.ofNat nm) (Int32.ofNat x) (b + 75) (zc w b C M r) = some (zc w b C (zJ M 100 27 0) r) := by
        unfold mX9_judgeThing_138 mX9_judgeThing_139 mX9_judgeThing_161 mX9_judgeThing_163 mX9_judgeThing_415
        rw [if_pos (Or.inl rfl), zqp_75_27, Option.bind_some, zqg_75_27, Option.bind_some, show (zJ M 100 27 0).1 100 27 = 0 from rfl, if_pos rfl, if_pos (show (-1 : Int32) < 0 by decide), Option.bind_some, if_pos rfl]
      have g2 : mX9_judgeThing (n + 1) (b + 75) (Int32.ofNat nm) 184 (Int32.ofNat x) Y (zc w b C M r) = some (zc w b C (zJ M 100 27 0) r) := by
        rw [← g1]
        unfold mX9_judgeThing mX9_judgeThing_0
        rw [if_neg (show ¬ (184 : Int32) = 180 by decide), if_neg (show ¬ (184 : Int32) = 181 by decide), if_pos rfl, zqg_75_27, Option.bind_some, h1, if_neg (show ¬ (1 : Int32) = 0 by decide), zqg_75_19, Option.bind_some, e19, if_pos (show Int32.ofNat nm < Int32.ofNat x by rw [zi_lt (by omega) (by omega)]; omega)]
      simp (decide := true) only [mX9_judge_194, mX9_judge_317, mX9_judge_568, zqk_75, g2, Int32.reduceLT, Int32.reduceLE, Int32.reduceAdd, Int32.reduceSub, Int32.reduceMul, Int32.reduceDiv, Int32.reduceMod, ↓reduceIte, Option.bind_some]
end ZRP
