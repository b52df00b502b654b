/-! ===== the reference's judge: one place (written by wip/gen/ops15.py) ===== -/
/-- frame of a look -/
def zMx (M M' : zM) : Prop := (∀ o k, ¬ (20 ≤ o ∧ o ≤ 24 ∨ o = 26 ∨ o = 100 ∧ (k = 25 ∨ k = 27 ∨ k = 28)) → M'.1 o k = M.1 o k) ∧ M'.2 = M.2
section ZRJ
variable {N w b K nm x y s k p n : Nat} {F ρ α π : Nat → Nat} {C0 : zC} {M M' M1 : zM} {μs : Nat → zMu} {ks st : List Nat} {l : Nat → Nat} {o : Option (List Nat × (Nat → Nat))} {v : List Nat × (Nat → Nat)} {P L X Y : Int32} {σ σ' σ1 : zTau} {oσ : Option zTau}
theorem zMx.rf : zMx M M := ⟨fun _ _ _ => rfl, rfl⟩
theorem zMx.tr {M2 : zM} (h : zMx M M1) (h' : zMx M1 M2) : zMx M M2 := ⟨fun o k e => (h'.1 o k e).trans (h.1 o k e), h'.2.trans h.2⟩
theorem zM9.mx (h : zM9 M M') : zMx M M' := ⟨fun o k e => h.1 o k (by omega), h.2⟩
theorem zMl.mx (h : zMl M M') : zMx M M' := ⟨fun o k e => h.1 o k (by omega), h.2⟩
theorem zEm.mx (h : zEm K F ρ α π C0 M nm μs) (h' : zMx M M') : zEm K F ρ α π C0 M' nm μs := h.cong (fun o k e => h'.1 o k (by omega)) (fun k e => h'.1 100 k (by omega))
theorem zQl.tr (h : zQl M M1 σ (some σ1)) (h' : zQl M1 M' σ1 oσ) : zQl M M' σ oσ := by
  cases oσ with
  | none => exact h'
  | some σ' =>
    obtain ⟨a1, a2, a3⟩ := h
    obtain ⟨b1, b2, b3⟩ := h'
    refine ⟨b1, b2, ?_⟩
    rcases a3 with ⟨c1, c2⟩ | ⟨c1, c2⟩
    · rcases b3 with ⟨d1, d2⟩ | ⟨d1, d2⟩
      · exact Or.inl ⟨d1.trans c1, d2.trans c2⟩
      · rw [c1] at d2; exact Or.inr ⟨d1, d2⟩
    · rcases b3 with ⟨d1, d2⟩ | ⟨d1, d2⟩
      · rw [d1]; exact Or.inr ⟨d2.trans c1, c2⟩
      · exact Or.inr ⟨d1, Nat.lt_trans d2 c2⟩
theorem zQl.from (h : M1.1 100 28 = M.1 100 28) (h' : zQl M1 M' σ oσ) : zQl M M' σ oσ := by
  cases oσ with
  | none => exact h'
  | some σ' =>
    obtain ⟨b1, b2, b3⟩ := h'
    rw [h] at b3
    exact ⟨b1, b2, b3⟩
theorem zsh_j3 : ∀ op, op < 256 → (153 ≤ op ∧ op ≤ 167 ∨ op = 198 ∨ op = 199) → (zsh op).1 = 3 := by decide +kernel
theorem zj_ops {op : Nat} (hN : 17 ≤ N) (hE : zEm K F ρ α π C0 M nm μs) (hn : zNm (uSk (μs nm)) M (some (st, l))) (hop : op < 256) (h0 : 0 < (zsh op).1) (hX : 1 < (zsh op).1 → X = Int32.ofNat x ∧ x < 256) (hY : 2 < (zsh op).1 → Y = Int32.ofNat y ∧ y < 256) : zOp w b N nm (K, F, ρ, μs) (μs nm) M st l op x y P L X Y := by
  have hmem := zk_ops op hop h0
  simp only [List.mem_cons, List.not_mem_nil, or_false] at hmem
  rcases hmem with h | h | h | h | h | h | h | h | h | h | h | h | h | h | h | h | h | h | h | h | h | h | h | h | h | h | h | h | h | h | h | h | h | h | h | h | h | h | h | h | h | h | h | h | h | h | h | h | h | h | h | h | h | h | h | h | h | h | h | h | h | h | h | h | h | h | h | h | h | h | h | h | h | h | h | h | h | h | h | h | h | h | h | h | h | h | h | h | h | h | h | h | h | h | h | h | h
  · rw [h]; exact zj_o0 hE hn
  · rw [h]; exact zj_o1 hE hn
  · rw [h]; exact zj_o2 hE hn
  · rw [h]; exact zj_o3 hE hn
  · rw [h]; exact zj_o4 hE hn
  · rw [h]; exact zj_o5 hE hn
  · rw [h]; exact zj_o6 hE hn
  · rw [h]; exact zj_o7 hE hn
  · rw [h]; exact zj_o8 hE hn
  · rw [h]; exact zj_o9 hE hn
  · rw [h]; exact zj_o10 hE hn
  · rw [h]; exact zj_o16 hE hn
  · rw [h]; exact zj_o17 hE hn
  · rw [(hX (by rw [h]; decide)).1, h]; exact zj_o21 hE hn (hX (by rw [h]; decide)).2
  · rw [(hX (by rw [h]; decide)).1, h]; exact zj_o22 hE hn (hX (by rw [h]; decide)).2
  · rw [(hX (by rw [h]; decide)).1, h]; exact zj_o25 hE hn (hX (by rw [h]; decide)).2
  · rw [h]; exact zj_o46 hE hn
  · rw [h]; exact zj_o47 hE hn
  · rw [h]; exact zj_o50 hE hn
  · rw [h]; exact zj_o51 hE hn
  · rw [h]; exact zj_o52 hE hn
  · rw [h]; exact zj_o53 hE hn
  · rw [(hX (by rw [h]; decide)).1, h]; exact zj_o54 hE hn (hX (by rw [h]; decide)).2
  · rw [(hX (by rw [h]; decide)).1, h]; exact zj_o55 hE hn (hX (by rw [h]; decide)).2
  · rw [(hX (by rw [h]; decide)).1, h]; exact zj_o58 hE hn (hX (by rw [h]; decide)).2
  · rw [h]; exact zj_o79 hE hn
  · rw [h]; exact zj_o80 hE hn
  · rw [h]; exact zj_o83 hE hn
  · rw [h]; exact zj_o84 hE hn
  · rw [h]; exact zj_o85 hE hn
  · rw [h]; exact zj_o86 hE hn
  · rw [h]; exact zj_o87 hE hn
  · rw [h]; exact zj_o88 hE hn
  · rw [h]; exact zj_o89 hE hn
  · rw [h]; exact zj_o95 hE hn
  · rw [h]; exact zj_o96 hE hn
  · rw [h]; exact zj_o97 hE hn
  · rw [h]; exact zj_o100 hE hn
  · rw [h]; exact zj_o101 hE hn
  · rw [h]; exact zj_o104 hE hn
  · rw [h]; exact zj_o105 hE hn
  · rw [h]; exact zj_o108 hE hn
  · rw [h]; exact zj_o109 hE hn
  · rw [h]; exact zj_o112 hE hn
  · rw [h]; exact zj_o113 hE hn
  · rw [h]; exact zj_o116 hE hn
  · rw [h]; exact zj_o117 hE hn
  · rw [h]; exact zj_o120 hE hn
  · rw [h]; exact zj_o121 hE hn
  · rw [h]; exact zj_o122 hE hn
  · rw [h]; exact zj_o123 hE hn
  · rw [h]; exact zj_o124 hE hn
  · rw [h]; exact zj_o125 hE hn
  · rw [h]; exact zj_o126 hE hn
  · rw [h]; exact zj_o127 hE hn
  · rw [h]; exact zj_o128 hE hn
  · rw [h]; exact zj_o129 hE hn
  · rw [h]; exact zj_o130 hE hn
  · rw [h]; exact zj_o131 hE hn
  · rw [(hX (by rw [h]; decide)).1, h]; exact zj_o132 hE hn (hX (by rw [h]; decide)).2
  · rw [h]; exact zj_o133 hE hn
  · rw [h]; exact zj_o136 hE hn
  · rw [h]; exact zj_o145 hE hn
  · rw [h]; exact zj_o146 hE hn
  · rw [h]; exact zj_o147 hE hn
  · rw [h]; exact zj_o148 hE hn
  · rw [h]; exact zj_o153 hE hn
  · rw [h]; exact zj_o154 hE hn
  · rw [h]; exact zj_o155 hE hn
  · rw [h]; exact zj_o156 hE hn
  · rw [h]; exact zj_o157 hE hn
  · rw [h]; exact zj_o158 hE hn
  · rw [h]; exact zj_o159 hE hn
  · rw [h]; exact zj_o160 hE hn
  · rw [h]; exact zj_o161 hE hn
  · rw [h]; exact zj_o162 hE hn
  · rw [h]; exact zj_o163 hE hn
  · rw [h]; exact zj_o164 hE hn
  · rw [h]; exact zj_o165 hE hn
  · rw [h]; exact zj_o166 hE hn
  · rw [h]; exact zj_o167 hE hn
  · rw [h]; exact zj_o172 hE hn
  · rw [h]; exact zj_o173 hE hn
  · rw [h]; exact zj_o176 hE hn
  · rw [h]; exact zj_o177 hE hn
  · rw [(hX (by rw [h]; decide)).1, (hY (by rw [h]; decide)).1, h]; exact zj_o180 hE hn (hX (by rw [h]; decide)).2 (hY (by rw [h]; decide)).2
  · rw [(hX (by rw [h]; decide)).1, (hY (by rw [h]; decide)).1, h]; exact zj_o181 hE hn (hX (by rw [h]; decide)).2 (hY (by rw [h]; decide)).2
  · rw [(hX (by rw [h]; decide)).1, h]; exact zj_o184 (by omega) hE hn (hX (by rw [h]; decide)).2
  · rw [(hX (by rw [h]; decide)).1, h]; exact zj_o187 hE hn (hX (by rw [h]; decide)).2
  · rw [(hX (by rw [h]; decide)).1, h]; exact zj_o188 hE hn (hX (by rw [h]; decide)).2
  · rw [h]; exact zj_o189 hE hn
  · rw [h]; exact zj_o190 hE hn
  · rw [h]; exact zj_o191 hE hn
  · rw [(hX (by rw [h]; decide)).1, h]; exact zj_o192 hE hn (hX (by rw [h]; decide)).2
  · rw [(hX (by rw [h]; decide)).1, h]; exact zj_o193 hE hn (hX (by rw [h]; decide)).2
  · rw [h]; exact zj_o198 hE hn
  · rw [h]; exact zj_o199 hE hn
/-- the end of a place without a jump -/
theorem zj_570 {g : Int32} (hN : 17 ≤ N) (hE : zEm K F ρ α π C0 M nm μs) (hP : zPm M σ) (hO : zOs (uLen (μs nm)) (uSk (μs nm)) σ) (h : zNm (uSk (μs nm)) M o) (hp : p < 2 ^ 20) (hn : n < 2 ^ 20) (G : Prop) [Decidable G] (hg : g = if G then 1 else 0) : ∃ M', (∀ (C : zC) (r : zv_X), mX9_judge_570 N (b + 75) (Int32.ofNat nm) (Int32.ofNat p) (Int32.ofNat n) g (zc w b C M r) = some (zc w b C M' r)) ∧ zMl M M' ∧ zQl M M' σ (o.bind fun v => if G then zlead (uLen (μs nm)) (p + n : Nat) v.1 v.2 σ else some σ) := by
  cases o with
  | none =>
    have h1 : M.1 100 27 = 0 := h
    refine ⟨M, fun C r => ?_, zMl.rf, h1⟩
    unfold mX9_judge_570 mX9_judge_591
    rw [zqg_75_27, Option.bind_some, h1, if_pos rfl]
  | some v =>
    rw [Option.bind_some]
    by_cases c : G
    · rw [if_pos c] at hg ⊢
      obtain ⟨M', t1, t2, t3, _⟩ := zj_lead (N := N) (w := w) (b := b) (st := v.1) (l := v.2) (q := ((p + n : Nat) : Int)) hN hE hP hO h (by omega) (by omega)
      refine ⟨M', fun C r => ?_, t2, t3⟩
      have et : mX9_lead N (b + 75) (Int32.ofNat nm) (Int32.ofNat (p + n)) (zc w b C M r) = some (zc w b C M' r) := t1 C r
      unfold mX9_judge_570 mX9_judge_591
      rw [zqg_75_27, Option.bind_some, h.1, if_neg (show ¬ (1 : Int32) = 0 by decide), hg, if_neg (show ¬ (1 : Int32) = 0 by decide), if_pos zqk_75, zi_add, et, Option.bind_some]
    · rw [if_neg c] at hg ⊢
      refine ⟨M, fun C r => ?_, zMl.rf, h.1, hP, Or.inl ⟨rfl, rfl⟩⟩
      unfold mX9_judge_570 mX9_judge_591
      rw [zqg_75_27, Option.bind_some, h.1, if_neg (show ¬ (1 : Int32) = 0 by decide), hg, if_pos rfl]
theorem zn_toZ (hm : nm < 20) (hM : zMt M nm (μs nm)) (hK : zMuOk K (μs nm)) (hl : p + 2 < uLen (μs nm)) (C : zC) (r : zv_X) : mX9_to N (b + 75) (Int32.ofNat nm) (Int32.ofNat p) (zc w b C M r) = some (zc w b C M r, Int32.ofInt (zto p (uC (μs nm) (p + 1)) (uC (μs nm) (p + 2)))) := by
  have e1 := zn_code (N := N) (w := w) (b := b) hm hM hK.1 (show p + 1 < uLen (μs nm) by omega) C r
  have e2 := zn_code (N := N) (w := w) (b := b) hm hM hK.1 (show p + 2 < uLen (μs nm) by omega) C r
  have hb1 := hK.2.1 (p + 1) (by omega)
  unfold mX9_to mX9_to_0
  simp only [zqk_75, ↓reduceIte, show Int32.ofNat p + 1 = Int32.ofNat (p + 1) from zi_add p 1, show Int32.ofNat p + 2 = Int32.ofNat (p + 2) from zi_add p 2, e1, e2, Option.bind_some, qX9_signed, (zk_sg _ hb1).2, Option.map_some]
  have e : Int32.ofNat p + Int32.ofInt (zsg (uC (μs nm) (p + 1))) * 256 + Int32.ofNat (uC (μs nm) (p + 2)) = Int32.ofInt (zto p (uC (μs nm) (p + 1)) (uC (μs nm) (p + 2))) := by
    unfold zto
    rw [← Int32.ofInt_eq_ofNat, ← Int32.ofInt_eq_ofNat, show (256 : Int32) = Int32.ofInt 256 from rfl, ← Int32.ofInt_mul, ← Int32.ofInt_add, ← Int32.ofInt_add]
  rw [e]
/-- the end of a place: where it leads -/
theorem zj_tl {op : Nat} (hN : 17 ≤ N) (hE : zEm K F ρ α π C0 M nm μs) (hP : zPm M σ) (hO : zOs (uLen (μs nm)) (uSk (μs nm)) σ) (h : zNm (uSk (μs nm)) M o) (hop : uC (μs nm) p = op) (ho : op < 256) (hl : p + (zsh op).1 ≤ uLen (μs nm)) (h0 : 0 < (zsh op).1) : ∃ M', (∀ (C : zC) (r : zv_X), zTl N b (Int32.ofNat nm) (Int32.ofNat p) (Int32.ofNat op) (Int32.ofNat (zsh op).1) op (zc w b C M r) = some (zc w b C M' r)) ∧ zMl M M' ∧ zQl M M' σ (o.bind fun v => zout (μs nm) p v σ) := by
  have hn : uLen (μs nm) ≤ 200 := hE.ok.1
  have h20 := hE.2.1
  unfold zTl
  by_cases j : 153 ≤ op ∧ op ≤ 167 ∨ op = 198 ∨ op = 199
  · have l3 : (zsh op).1 = 3 := zsh_j3 op ho j
    rw [l3] at hl ⊢
    simp only [if_pos j]
    have run2 : ∀ {M : zM} {σ : zTau} {o : Option (List Nat × (Nat → Nat))}, zEm K F ρ α π C0 M nm μs → zPm M σ → zOs (uLen (μs nm)) (uSk (μs nm)) σ → zNm (uSk (μs nm)) M o → ∃ M', (∀ (C : zC) (r : zv_X), mX9_judge_442 N (b + 75) (Int32.ofNat nm) (Int32.ofNat p) (Int32.ofNat op) (Int32.ofNat 3) (zc w b C M r) = some (zc w b C M' r)) ∧ zMl M M' ∧ zQl M M' σ (o.bind fun v => if op < 167 ∨ 177 < op ∧ op ≠ 191 then zlead (uLen (μs nm)) (p + 3 : Nat) v.1 v.2 σ else some σ) := fun {M σ o} hE hP hO h => by
      obtain ⟨M', t1, t2, t3⟩ := zj_570 (N := N) (w := w) (b := b) (p := p) (n := 3) (g := if op < 167 ∨ 177 < op ∧ op ≠ 191 then 1 else 0) hN hE hP hO h (by omega) (by omega) (op < 167 ∨ 177 < op ∧ op ≠ 191) rfl
      refine ⟨M', fun C r => ?_, t2, t3⟩
      rw [← t1 C r]
      unfold mX9_judge_442 mX9_judge_454
      by_cases c : op = 167
      · rw [if_pos (show Int32.ofNat op = 167 by rw [c]; rfl), if_neg (by omega)]
      · rw [if_neg (show ¬ Int32.ofNat op = 167 by rw [show (167 : Int32) = Int32.ofNat 167 from rfl, zi_eq (by omega) (by omega)]; exact c), if_pos (by omega)]
    cases o with
    | none =>
      have h1 : M.1 100 27 = 0 := h
      obtain ⟨M', t1, t2, t3⟩ := run2 hE hP hO h
      refine ⟨M', fun C r => ?_, t2, t3⟩
      unfold zTb
      rw [zqg_75_27, Option.bind_some, h1, if_pos rfl, t1 C r]
    | some v =>
      have y1 := hE.ok.2.1 (p + 1) (by omega)
      have y2 := hE.ok.2.1 (p + 2) (by omega)
      have hz := zto_b (p := p) (by omega) y1 y2
      obtain ⟨M2, t1, t2, t3, _⟩ := zj_lead (N := N) (w := w) (b := b) (st := v.1) (l := v.2) (q := zto p (uC (μs nm) (p + 1)) (uC (μs nm) (p + 2))) hN hE hP hO h hz.1 hz.2
      have head : ∀ (C : zC) (r : zv_X), zTb N b (Int32.ofNat nm) (Int32.ofNat p) (Int32.ofNat op) (Int32.ofNat 3) (zc w b C M r) = mX9_judge_442 N (b + 75) (Int32.ofNat nm) (Int32.ofNat p) (Int32.ofNat op) (Int32.ofNat 3) (zc w b C M2 r) := fun C r => by
        have et : mX9_lead N (b + 75) (Int32.ofNat nm) (Int32.ofInt (zto p (uC (μs nm) (p + 1)) (uC (μs nm) (p + 2)))) (zc w b C M r) = some (zc w b C M2 r) := t1 C r
        unfold zTb
        rw [zqg_75_27, Option.bind_some, h.1, if_neg (show ¬ (1 : Int32) = 0 by decide), if_pos zqk_75, zn_toZ h20 hE.mt hE.ok (by omega) C r, Option.bind_some, if_pos zqk_75, et, Option.bind_some]
      rw [Option.bind_some]
      unfold zout
      rw [hop, if_pos j, l3]
      cases e : zlead (uLen (μs nm)) (zto p (uC (μs nm) (p + 1)) (uC (μs nm) (p + 2))) v.1 v.2 σ with
      | none =>
        rw [e] at t3
        have t3' : zNm (uSk (μs nm)) M2 none := t3
        refine ⟨M2, fun C r => ?_, t2, t3⟩
        have t4 : M2.1 100 27 = 0 := t3
        rw [head C r]
        unfold mX9_judge_442 mX9_judge_454 mX9_judge_570 mX9_judge_591
        rw [zqg_75_27, Option.bind_some, Option.bind_some, t4, if_pos rfl, if_pos rfl]
        split <;> rfl
      | some σ2 =>
        rw [e] at t3
        have k2 := zlead_os e hO h.2.2.2.2.2.1 h.2.2.2.2.1 h.2.2.2.2.2.2
        obtain ⟨M3, s1, s2, s3⟩ := run2 (hE.ml t2) t3.2.1 k2 (zNm.ml (st := v.1) (l := v.2) h t2 t3.1)
        refine ⟨M3, fun C r => (head C r).trans (s1 C r), t2.tr s2, t3.tr s3⟩
  · simp only [if_neg j]
    obtain ⟨M', t1, t2, t3⟩ := zj_570 (N := N) (w := w) (b := b) (p := p) (n := (zsh op).1) (g := if op < 167 ∨ 177 < op ∧ op ≠ 191 then 1 else 0) hN hE hP hO h (by omega) (by omega) (op < 167 ∨ 177 < op ∧ op ≠ 191) rfl
    refine ⟨M', t1, t2, ?_⟩
    unfold zout
    rw [hop]
    simp only [if_neg j, Option.bind_some]
    exact t3
theorem zj_194 {op : Nat} (hN : 17 ≤ N) (hE : zEm K F ρ α π C0 M nm μs) (hP : zPm M σ) (hO : zOs (uLen (μs nm)) (uSk (μs nm)) σ) (h : zNm (uSk (μs nm)) M (some (st, l))) (hop : uC (μs nm) p = op) (ho : op < 256) (hl : p + (zsh op).1 ≤ uLen (μs nm)) (h0 : 0 < (zsh op).1) (hX : 1 < (zsh op).1 → X = Int32.ofNat (uC (μs nm) (p + 1))) (hY : 2 < (zsh op).1 → Y = Int32.ofNat (uC (μs nm) (p + 2))) : ∃ M', (∀ (C : zC) (r : zv_X), mX9_judge_194 N (b + 75) (Int32.ofNat nm) (Int32.ofNat p) (Int32.ofNat op) (Int32.ofNat (zsh op).1) X Y (zc w b C M r) = some (zc w b C M' r)) ∧ zMx M M' ∧ zQl M M' σ ((ztr (K, F, ρ, μs) nm (μs nm) op (uC (μs nm) (p + 1)) (uC (μs nm) (p + 2)) st l).bind fun v => zout (μs nm) p v σ) := by
  obtain ⟨M1, f1, n1, t1⟩ := zj_ops (w := w) (b := b) (x := uC (μs nm) (p + 1)) (y := uC (μs nm) (p + 2)) (P := Int32.ofNat p) (L := Int32.ofNat (zsh op).1) hN hE h ho h0 (fun c => ⟨hX c, hE.ok.2.1 (p + 1) (by omega)⟩) (fun c => ⟨hY c, hE.ok.2.1 (p + 2) (by omega)⟩)
  obtain ⟨M2, t2, f2, q2⟩ := zj_tl (N := N) (w := w) (b := b) hN (hE.m9 f1) (hP.m9 f1) hO n1 hop ho hl h0
  exact ⟨M2, fun C r => (t1 C r).trans (t2 C r), f1.mx.tr f2.mx, zQl.from (f1.1 100 28 (by omega)) q2⟩
/-- a place after its handlers -/
theorem zj_101 (hN : 17 ≤ N) (hE : zEm K F ρ α π C0 M nm μs) (hP : zPm M σ) (hO : zOs (uLen (μs nm)) (uSk (μs nm)) σ) (h : zNm (uSk (μs nm)) M (some (st, l))) (hp : p < uLen (μs nm)) : ∃ M', (∀ (C : zC) (r : zv_X), mX9_judge_101 N (b + 75) (Int32.ofNat nm) (Int32.ofNat p) (zc w b C M r) = some (zc w b C M' r)) ∧ zMx M M' ∧ zQl M M' σ (if 0 < (zsh (uC (μs nm) p)).1 ∧ p + (zsh (uC (μs nm) p)).1 ≤ uLen (μs nm) then (ztr (K, F, ρ, μs) nm (μs nm) (uC (μs nm) p) (uC (μs nm) (p + 1)) (uC (μs nm) (p + 2)) st l).bind (fun v => zout (μs nm) p v σ) else none) := by
  have hn : uLen (μs nm) ≤ 200 := hE.ok.1
  have h20 := hE.2.1
  have ho := hE.ok.2.1 p hp
  have h3 := zk_len3 _ ho
  have e18 : M.1 18 nm = Int32.ofNat (uLen (μs nm)) := hE.mt.1
  have bad : ∀ (C : zC) (r : zv_X) (O L : Int32), mX9_judge_144 N (b + 75) (Int32.ofNat nm) (Int32.ofNat p) O L (b + 75) (zc w b C M r) = some (zc w b C (zJ M 100 27 0) r) := fun C r O L => by
    unfold mX9_judge_144 mX9_judge_145
    rw [if_pos (Or.inl rfl), zqp_75_27, Option.bind_some, zqg_75_27, Option.bind_some, show (zJ M 100 27 0).1 100 27 = 0 from rfl, if_pos rfl]
  have ec : ∀ (C : zC) (r : zv_X), mX9_code N (b + 75) (Int32.ofNat nm) (Int32.ofNat p) (zc w b C M r) = some (zc w b C M r, Int32.ofNat (uC (μs nm) p)) := fun C r => zn_code (N := N) (w := w) (b := b) h20 hE.mt hn hp C r
  have el : ∀ (C : zC) (r : zv_X), mX9_length N (Int32.ofNat (uC (μs nm) p)) (zc w b C M r) = some (zc w b C M r, Int32.ofNat (zsh (uC (μs nm) p)).1) := fun C r => by
    rw [qX9_length, zk_length _ ho]
    rfl
  by_cases c0 : 0 < (zsh (uC (μs nm) p)).1
  · by_cases c1 : p + (zsh (uC (μs nm) p)).1 ≤ uLen (μs nm)
    · rw [if_pos ⟨c0, c1⟩]
      have hr : zM9 M (zJ M 100 27 1) := zM9.r
      have cd : ∀ k, p + k < uLen (μs nm) → ∀ (C : zC) (r : zv_X), mX9_code N (b + 75) (Int32.ofNat nm) (Int32.ofNat p + Int32.ofNat k) (zc w b C (zJ M 100 27 1) r) = some (zc w b C (zJ M 100 27 1) r, Int32.ofNat (uC (μs nm) (p + k))) := fun k hk C r => by
        rw [zi_add]
        exact zn_code (N := N) (w := w) (b := b) h20 (hE.m9 hr).mt hn hk C r
      obtain ⟨M', t1, t2, t3⟩ := zj_194 (N := N) (w := w) (b := b) (X := if (zsh (uC (μs nm) p)).1 ≤ 1 then 0 else Int32.ofNat (uC (μs nm) (p + 1))) (Y := if (zsh (uC (μs nm) p)).1 ≤ 2 then 0 else Int32.ofNat (uC (μs nm) (p + 2))) hN (hE.m9 hr) (hP.m9 hr) hO h.r1 rfl ho c1 c0 (fun c => if_neg (by omega)) (fun c => if_neg (by omega))
      refine ⟨M', fun C r => ?_, hr.mx.tr t2, zQl.from (hr.1 100 28 (by omega)) t3⟩
      rw [← t1 C r]
      unfold mX9_judge_101 mX9_judge_145 mX9_judge_174
      rw [if_pos zqk_75, ec C r, Option.bind_some, el C r, Option.bind_some, zqg_75_27, Option.bind_some, h.1, if_neg (show ¬ (1 : Int32) = 0 by decide), if_neg (show ¬ Int32.ofNat (zsh (uC (μs nm) p)).1 ≤ 0 by rw [zi_l0, zi_le (by omega) (by omega)]; omega), zqg_75_18, Option.bind_some, zqa_89 (by omega), Option.bind_some, e18, zi_add, if_neg (show ¬ Int32.ofNat (uLen (μs nm)) < Int32.ofNat (p + (zsh (uC (μs nm) p)).1) by rw [zi_lt (by omega) (by omega)]; omega), if_pos (show (1 : Int32) = 0 ∨ (1 : Int32) = 1 from Or.inr rfl), zqp_75_27, Option.bind_some, zqg_75_27, Option.bind_some, show (zJ M 100 27 1).1 100 27 = 1 from rfl, if_neg (show ¬ (1 : Int32) = 0 by decide)]
      by_cases d1 : (zsh (uC (μs nm) p)).1 ≤ 1
      · rw [if_pos (show Int32.ofNat (zsh (uC (μs nm) p)).1 ≤ 1 by rw [zi_l1, zi_le (by omega) (by omega)]; omega), if_pos (show Int32.ofNat (zsh (uC (μs nm) p)).1 ≤ 2 by rw [zi_l2, zi_le (by omega) (by omega)]; omega), if_pos d1, if_pos (by omega)]
      · rw [if_neg (show ¬ Int32.ofNat (zsh (uC (μs nm) p)).1 ≤ 1 by rw [zi_l1, zi_le (by omega) (by omega)]; omega), if_pos zqk_75, if_neg d1]
        have c2 : mX9_code N (b + 75) (Int32.ofNat nm) (Int32.ofNat p + 1) (zc w b C (zJ M 100 27 1) r) = some (zc w b C (zJ M 100 27 1) r, Int32.ofNat (uC (μs nm) (p + 1))) := cd 1 (by omega) C r
        rw [c2, Option.bind_some]
        by_cases d2 : (zsh (uC (μs nm) p)).1 ≤ 2
        · rw [if_pos (show Int32.ofNat (zsh (uC (μs nm) p)).1 ≤ 2 by rw [zi_l2, zi_le (by omega) (by omega)]; omega), if_pos d2]
        · have c3 : mX9_code N (b + 75) (Int32.ofNat nm) (Int32.ofNat p + 2) (zc w b C (zJ M 100 27 1) r) = some (zc w b C (zJ M 100 27 1) r, Int32.ofNat (uC (μs nm) (p + 2))) := cd 2 (by omega) C r
          rw [if_neg (show ¬ Int32.ofNat (zsh (uC (μs nm) p)).1 ≤ 2 by rw [zi_l2, zi_le (by omega) (by omega)]; omega), if_pos zqk_75, c3, Option.bind_some, if_neg d2]
    · rw [if_neg (fun c => c1 c.2)]
      refine ⟨zJ M 100 27 0, fun C r => ?_, zM9.r.mx, rfl⟩
      unfold mX9_judge_101
      rw [if_pos zqk_75, ec C r, Option.bind_some, el C r, Option.bind_some, zqg_75_27, Option.bind_some, h.1, if_neg (show ¬ (1 : Int32) = 0 by decide), if_neg (show ¬ Int32.ofNat (zsh (uC (μs nm) p)).1 ≤ 0 by rw [zi_l0, zi_le (by omega) (by omega)]; omega), zqg_75_18, Option.bind_some, zqa_89 (by omega), Option.bind_some, e18, zi_add, if_pos (show Int32.ofNat (uLen (μs nm)) < Int32.ofNat (p + (zsh (uC (μs nm) p)).1) by rw [zi_lt (by omega) (by omega)]; omega), bad]
  · rw [if_neg (fun c => c0 c.1)]
    refine ⟨zJ M 100 27 0, fun C r => ?_, zM9.r.mx, rfl⟩
    unfold mX9_judge_101
    rw [if_pos zqk_75, ec C r, Option.bind_some, el C r, Option.bind_some, zqg_75_27, Option.bind_some, h.1, if_neg (show ¬ (1 : Int32) = 0 by decide), if_pos (show Int32.ofNat (zsh (uC (μs nm) p)).1 ≤ 0 by rw [zi_l0, zi_le (by omega) (by omega)]; omega), bad]
theorem zj_101n (hE : zEm K F ρ α π C0 M nm μs) (h : M.1 100 27 = 0) (hp : p < uLen (μs nm)) (C : zC) (r : zv_X) : mX9_judge_101 N (b + 75) (Int32.ofNat nm) (Int32.ofNat p) (zc w b C M r) = some (zc w b C (zJ M 100 27 0) r) := by
  have hn : uLen (μs nm) ≤ 200 := hE.ok.1
  have h20 := hE.2.1
  have ho := hE.ok.2.1 p hp
  have ec : mX9_code N (b + 75) (Int32.ofNat nm) (Int32.ofNat p) (zc w b C M r) = some (zc w b C M r, Int32.ofNat (uC (μs nm) p)) := zn_code (N := N) (w := w) (b := b) h20 hE.mt hn hp C r
  unfold mX9_judge_101 mX9_judge_144 mX9_judge_145
  rw [if_pos zqk_75, ec, Option.bind_some, qX9_length, zk_length _ ho, Option.map_some, Option.bind_some, zqg_75_27, Option.bind_some, h, if_pos rfl, if_pos (Or.inl rfl), zqp_75_27, Option.bind_some, zqg_75_27, Option.bind_some, show (zJ M 100 27 0).1 100 27 = 0 from rfl, if_pos rfl]
/-- a lead with what is known of its own place leaves it -/
theorem zlead_at {q : Int} (h : zlead n q [3] l σ = some σ') (hp : σ p = some (st, l)) : σ' p = some (st, l) := by
  unfold zlead at h
  by_cases c : 0 ≤ q ∧ q < (n : Int)
  · rw [if_pos c] at h
    by_cases cp : p = q.toNat
    · rw [← cp, hp] at h
      dsimp only at h
      by_cases cs : st = [3]
      · rw [if_pos cs] at h
        injection h with h
        rw [← h, zpu_at]
        have : zmt l l = l := funext fun k => if_pos rfl
        rw [this]
      · rw [if_neg cs] at h; cases h
    · cases e : σ q.toNat with
      | none =>
        rw [e] at h
        injection h with h
        rw [← h, zpu_ne cp]
        exact hp
      | some v =>
        rw [e] at h
        dsimp only at h
        by_cases cs : v.1 = [3]
        · rw [if_pos cs] at h
          injection h with h
          rw [← h, zpu_ne cp]
          exact hp
        · rw [if_neg cs] at h; cases h
  · rw [if_neg c] at h; cases h
theorem zj_7n {fuel j : Nat} (hE : zEm K F ρ α π C0 M nm μs) (h : M.1 100 27 = 0) (hf : 0 < fuel) (C : zC) (r : zv_X) : mX9_judge_7 N fuel (b + 75) (Int32.ofNat nm) (Int32.ofNat p) (Int32.ofNat j) (zc w b C M r) = mX9_judge_101 N (b + 75) (Int32.ofNat nm) (Int32.ofNat p) (zc w b C M r) := by
  obtain ⟨fuel, rfl⟩ : ∃ g, fuel = g + 1 := ⟨fuel - 1, by omega⟩
  have h20 := hE.2.1
  conv => lhs; unfold mX9_judge_7
  rw [zqg_75_11, Option.bind_some, zqa_82 (by omega), Option.bind_some, zqg_75_27, Option.bind_some, h, if_pos rfl]
  split <;> rfl
/-- handlers of the reference -/
theorem zj_han (hN : 17 ≤ N) (hp : p < uLen (μs nm)) : ∀ (c j fuel : Nat) (M : zM) (σ : zTau), j + c = uH (μs nm) → c + 1 < fuel → zEm K F ρ α π C0 M nm μs → zPm M σ → zOs (uLen (μs nm)) (uSk (μs nm)) σ → σ p = some (st, l) → zNm (uSk (μs nm)) M (some (st, l)) → ∃ M', (∀ (C : zC) (r : zv_X), mX9_judge_7 N fuel (b + 75) (Int32.ofNat nm) (Int32.ofNat p) (Int32.ofNat j) (zc w b C M r) = mX9_judge_101 N (b + 75) (Int32.ofNat nm) (Int32.ofNat p) (zc w b C M' r)) ∧ zMx M M' ∧ zQl M M' σ (zhan (μs nm) p l c j σ) ∧ ∀ σ', zhan (μs nm) p l c j σ = some σ' → zNm (uSk (μs nm)) M' (some (st, l)) ∧ zOs (uLen (μs nm)) (uSk (μs nm)) σ'
  | 0, j, fuel, M, σ, hj, hf, hE, hP, hO, e, h => by
    obtain ⟨fuel, rfl⟩ : ∃ g, fuel = g + 1 := ⟨fuel - 1, by omega⟩
    have h20 := hE.2.1
    have h8 : uH (μs nm) ≤ 8 := hE.ok.2.2.1
    have e11 : M.1 11 nm = Int32.ofNat (uH (μs nm)) := hE.mt.2.2.1
    refine ⟨M, fun C r => ?_, zMx.rf, ⟨h.1, hP, Or.inl ⟨rfl, rfl⟩⟩, fun σ' e' => ?_⟩
    · unfold mX9_judge_7
      rw [zqg_75_11, Option.bind_some, zqa_82 (by omega), Option.bind_some, e11, if_pos (show Int32.ofNat (uH (μs nm)) ≤ Int32.ofNat j by rw [zi_le (by omega) (by omega)]; omega)]
    · injection e' with e'
      subst e'
      exact ⟨h, hO⟩
  | c + 1, j, fuel, M, σ, hj, hf, hE, hP, hO, e, h => by
    obtain ⟨fuel, rfl⟩ : ∃ g, fuel = g + 1 := ⟨fuel - 1, by omega⟩
    have h20 := hE.2.1
    have hn : uLen (μs nm) ≤ 200 := hE.ok.1
    have h8 : uH (μs nm) ≤ 8 := hE.ok.2.2.1
    have h12 : uSk (μs nm) ≤ 12 := hE.ok.2.2.2.2.2.2.2.2.2.1
    have e11 : M.1 11 nm = Int32.ofNat (uH (μs nm)) := hE.mt.2.2.1
    have u0 := hE.ok.2.2.2.1 (4 * j) (by omega)
    have u1 := hE.ok.2.2.2.1 (4 * j + 1) (by omega)
    have u2 := hE.ok.2.2.2.1 (4 * j + 2) (by omega)
    have t0 : M.1 10 (32 * nm + 4 * j) = Int32.ofNat (uHs (μs nm) (4 * j)) := hE.mt.2.2.2.1 (4 * j) (by omega)
    have t1 : M.1 10 (32 * nm + 4 * j + 1) = Int32.ofNat (uHs (μs nm) (4 * j + 1)) := hE.mt.2.2.2.1 (4 * j + 1) (by omega)
    have hd : ∀ (C : zC) (r : zv_X), mX9_judge_7 N (fuel + 1) (b + 75) (Int32.ofNat nm) (Int32.ofNat p) (Int32.ofNat j) (zc w b C M r) = if Int32.ofNat p < Int32.ofNat (uHs (μs nm) (4 * j)) then mX9_judge_7 N fuel (b + 75) (Int32.ofNat nm) (Int32.ofNat p) (Int32.ofNat (j + 1)) (zc w b C M r) else if Int32.ofNat (uHs (μs nm) (4 * j + 1)) ≤ Int32.ofNat p then mX9_judge_7 N fuel (b + 75) (Int32.ofNat nm) (Int32.ofNat p) (Int32.ofNat (j + 1)) (zc w b C M r) else (mX9_push N (b + 75) (Int32.ofNat nm) 3 (zc w b C (zJ M 100 25 0) r)).bind fun o17 => (zm_I o17 (b + 75) 9 27).bind fun v19 => if v19 = 0 then (mX9_judge_90 (mX9_judge_7 N fuel) N (b + 75) (Int32.ofNat nm) (Int32.ofNat p) (Int32.ofNat j) o17) else ((zm_R o17 (b + 75) 9 10).bind fun v21 => (zm_aI o17 v21 (Int32.ofNat (32 * nm + 4 * j + 2))).bind fun v23 => if zm_k o17 (b + 75) 9 = true then ((mX9_lead N (b + 75) (Int32.ofNat nm) v23 o17).bind fun o25 => mX9_judge_90 (mX9_judge_7 N fuel) N (b + 75) (Int32.ofNat nm) (Int32.ofNat p) (Int32.ofNat j) o25) else none) := fun C r => by
      conv => lhs; unfold mX9_judge_7 mX9_judge_95
      rw [zqg_75_11, Option.bind_some, zqa_82 (by omega), Option.bind_some, e11, if_neg (show ¬ Int32.ofNat (uH (μs nm)) ≤ Int32.ofNat j by rw [zi_le (by omega) (by omega)]; omega), zqg_75_27, Option.bind_some, h.1, if_neg (show ¬ (1 : Int32) = 0 by decide), zqg_75_10, Option.bind_some, show (32 : Int32) = Int32.ofNat 32 from rfl, zi_l4, zi_mul, zi_mul, zi_add, zqa_81 (by omega), Option.bind_some, t0, Option.bind_some, zi_l1, zi_l2, zi_add, zi_add, zi_add, zqa_81 (by omega), Option.bind_some, t1, zqp_75_25, Option.bind_some, if_pos zqk_75]
    unfold zhan
    by_cases g : uHs (μs nm) (4 * j) ≤ p ∧ p < uHs (μs nm) (4 * j + 1)
    · rw [if_pos g]
      have hd2 : ∀ (C : zC) (r : zv_X), mX9_judge_7 N (fuel + 1) (b + 75) (Int32.ofNat nm) (Int32.ofNat p) (Int32.ofNat j) (zc w b C M r) = _ := fun C r => (hd C r).trans (by rw [if_neg (show ¬ Int32.ofNat p < Int32.ofNat (uHs (μs nm) (4 * j)) by rw [zi_lt (by omega) (by omega)]; omega), if_neg (show ¬ Int32.ofNat (uHs (μs nm) (4 * j + 1)) ≤ Int32.ofNat p by rw [zi_le (by omega) (by omega)]; omega)])
      have f0 : zM9 M (zJ M 100 25 0) := zM9.J (by omega)
      have hz : zNm (uSk (μs nm)) (zJ M 100 25 0) (some ([], l)) := ⟨h.1, rfl, rfl, h.2.2.2.1, zkS.nil, Nat.zero_le _, h.2.2.2.2.2.2⟩
      obtain ⟨M1, a1, f1, n1⟩ := zj_push (N := N) (w := w) (b := b) (k := 3) (hE.m9 f0) (by decide) hz
      have a1' : ∀ (C : zC) (r : zv_X), mX9_push N (b + 75) (Int32.ofNat nm) 3 (zc w b C (zJ M 100 25 0) r) = some (zc w b C M1 r) := a1
      have F1 : zM9 M M1 := f0.tr f1
      have E1 := hE.m9 F1
      have P1 := hP.m9 F1
      have x28 : M1.1 100 28 = M.1 100 28 := F1.1 100 28 (by omega)
      rw [Option.bind_some] at n1
      have dep := ((P1 p (by omega)).2 st l e).1
      have hl12 : st.length ≤ 12 := Nat.le_trans (hO p st l e).2.1 h12
      by_cases z : 0 < uSk (μs nm)
      · rw [if_pos z]
        have n2 : zNm (uSk (μs nm)) M1 (some ([3], l)) := by
          have e3 : zga (uSk (μs nm)) 3 ([], l) = some ([3], l) := by
            unfold zga
            rw [if_neg (by decide), if_pos (show [3].length ≤ uSk (μs nm) from z)]
          rw [e3] at n1
          exact n1
        have tt : M1.1 10 (32 * nm + 4 * j + 2) = Int32.ofNat (uHs (μs nm) (4 * j + 2)) := E1.mt.2.2.2.1 (4 * j + 2) (by omega)
        obtain ⟨M2, b1, f2, q2, q3⟩ := zj_lead (N := N) (w := w) (b := b) (q := (uHs (μs nm) (4 * j + 2) : Nat)) hN E1 P1 hO n2 (by omega) (by omega)
        have b1' : ∀ (C : zC) (r : zv_X), mX9_lead N (b + 75) (Int32.ofNat nm) (Int32.ofNat (uHs (μs nm) (4 * j + 2))) (zc w b C M1 r) = some (zc w b C M2 r) := b1
        have E2 := E1.ml f2
        have head : ∀ M3, (∀ (C : zC) (r : zv_X), mX9_take N (b + 75) (Int32.ofNat p) (zc w b C M2 r) = some (zc w b C M3 r)) → ∀ (C : zC) (r : zv_X), mX9_judge_7 N (fuel + 1) (b + 75) (Int32.ofNat nm) (Int32.ofNat p) (Int32.ofNat j) (zc w b C M r) = mX9_judge_7 N fuel (b + 75) (Int32.ofNat nm) (Int32.ofNat p) (Int32.ofNat (j + 1)) (zc w b C M3 r) := fun M3 ht C r => by
          rw [hd2 C r, a1' C r, Option.bind_some, zqg_75_27, Option.bind_some, n2.1, if_neg (show ¬ (1 : Int32) = 0 by decide), zqg_75_10, Option.bind_some, zqa_81 (by omega), Option.bind_some, tt, if_pos zqk_75, b1' C r, Option.bind_some]
          unfold mX9_judge_90 mX9_judge_95
          rw [if_pos zqk_75, ht C r, Option.bind_some, zi_l1, zi_add]
        cases ez : zlead (uLen (μs nm)) (uHs (μs nm) (4 * j + 2) : Nat) [3] l σ with
        | none =>
          rw [ez] at q2 q3
          have r0 : M2.1 100 27 = 0 := q2
          obtain ⟨M3, s1, s2, s3, _⟩ := zj_take0 (N := N) (w := w) (b := b) (p := p) (n := st.length) hN hl12 (by omega) ((q3 rfl p).trans dep)
          have r3 : M3.1 100 27 = 0 := s3.trans r0
          refine ⟨M3, fun C r => ?_, (F1.mx.tr f2.mx).tr s2.mx, r3, fun σ' e' => by cases e'⟩
          rw [head M3 s1 C r]
          exact zj_7n (E2.m9 s2) r3 (by omega) C r
        | some σ2 =>
          rw [ez] at q2
          rw [Option.bind_some]
          have k2 := zlead_os ez hO (show [3].length ≤ uSk (μs nm) from z) (fun k hk => by rw [List.mem_singleton.mp hk]; omega) h.2.2.2.2.2.2
          have e2 := zlead_at ez e
          obtain ⟨M3, s1, s2, s3, s4⟩ := zj_take (N := N) (w := w) (b := b) hN h12 q2.2.1 k2 (by omega) e2
          obtain ⟨M4, v1, v2, v3, v4⟩ := zj_han hN hp c (j + 1) fuel M3 σ2 (by omega) (by omega) (E2.m9 s2) (q2.2.1.m9 s2) k2 e2 (s4 q2.1)
          refine ⟨M4, fun C r => (head M3 s1 C r).trans (v1 C r), ((F1.mx.tr f2.mx).tr s2.mx).tr v2, ?_, v4⟩
          exact zQl.tr (zQl.from x28 q2) (zQl.from (s2.1 100 28 (by omega)) v3)
      · rw [if_neg z]
        have n2 : M1.1 100 27 = 0 := by
          have e3 : zga (uSk (μs nm)) 3 ([], l) = none := by
            unfold zga
            rw [if_neg (by decide), if_neg (show ¬ [3].length ≤ uSk (μs nm) from z)]
          rw [e3] at n1
          exact n1
        obtain ⟨M3, s1, s2, s3, _⟩ := zj_take0 (N := N) (w := w) (b := b) (p := p) (n := st.length) hN hl12 (by omega) dep
        have s1' : ∀ (C : zC) (r : zv_X), mX9_take N (b + 75) (Int32.ofNat p) (zc w b C M1 r) = some (zc w b C M3 r) := s1
        have r3 : M3.1 100 27 = 0 := s3.trans n2
        refine ⟨M3, fun C r => ?_, F1.mx.tr s2.mx, r3, fun σ' e' => by cases e'⟩
        rw [hd2 C r, a1' C r, Option.bind_some, zqg_75_27, Option.bind_some, n2, if_pos rfl]
        unfold mX9_judge_90 mX9_judge_95
        rw [if_pos zqk_75, s1' C r, Option.bind_some, zi_l1, zi_add]
        exact zj_7n (E1.m9 s2) r3 (by omega) C r
    · rw [if_neg g, Option.bind_some]
      obtain ⟨M4, v1, v2, v3, v4⟩ := zj_han hN hp c (j + 1) fuel M σ (by omega) (by omega) hE hP hO e h
      refine ⟨M4, fun C r => ?_, v2, v3, v4⟩
      rw [hd C r, ← v1 C r]
      by_cases g1 : p < uHs (μs nm) (4 * j)
      · rw [if_pos (show Int32.ofNat p < Int32.ofNat (uHs (μs nm) (4 * j)) by rw [zi_lt (by omega) (by omega)]; exact g1)]
      · rw [if_neg (show ¬ Int32.ofNat p < Int32.ofNat (uHs (μs nm) (4 * j)) by rw [zi_lt (by omega) (by omega)]; exact g1), if_pos (show Int32.ofNat (uHs (μs nm) (4 * j + 1)) ≤ Int32.ofNat p by rw [zi_le (by omega) (by omega)]; omega)]
/-- a look of the reference at one place -/
theorem zj_judge (hN : 17 ≤ N) (hE : zEm K F ρ α π C0 M nm μs) (hP : zPm M σ) (hO : zOs (uLen (μs nm)) (uSk (μs nm)) σ) (e : σ p = some (st, l)) (h1 : M.1 100 27 = 1) : ∃ M', (∀ (C : zC) (r : zv_X), mX9_judge N (b + 75) (Int32.ofNat nm) (Int32.ofNat p) (zc w b C M r) = some (zc w b C M' r)) ∧ zMx M M' ∧ zQl M M' σ (zlook (K, F, ρ, μs) nm (μs nm) p st l σ) := by
  have hn : uLen (μs nm) ≤ 200 := hE.ok.1
  have h8 : uH (μs nm) ≤ 8 := hE.ok.2.2.1
  have h12 : uSk (μs nm) ≤ 12 := hE.ok.2.2.2.2.2.2.2.2.2.1
  have hp := (hO p st l e).1
  obtain ⟨M1, s1, s2, s3, s4⟩ := zj_take (N := N) (w := w) (b := b) hN h12 hP hO (by omega) e
  have s1' : ∀ (C : zC) (r : zv_X), mX9_take N (b + 75) (Int32.ofNat p) (zc w b C M r) = some (zc w b C M1 r) := s1
  obtain ⟨M2, v1, v2, v3, v4⟩ := zj_han (N := N) (w := w) (b := b) hN hp (uH (μs nm)) 0 N M1 σ (by omega) (by omega) (hE.m9 s2) (hP.m9 s2) hO e (s4 h1)
  have head : ∀ (C : zC) (r : zv_X), mX9_judge N (b + 75) (Int32.ofNat nm) (Int32.ofNat p) (zc w b C M r) = mX9_judge_101 N (b + 75) (Int32.ofNat nm) (Int32.ofNat p) (zc w b C M2 r) := fun C r => by
    unfold mX9_judge mX9_judge_0
    rw [if_pos zqk_75, s1' C r, Option.bind_some, zi_l0, v1 C r]
  have E2 := (hE.m9 s2).mx v2
  have v3' : zQl M M2 σ (zhan (μs nm) p l (uH (μs nm)) 0 σ) := zQl.from (s2.1 100 28 (by omega)) v3
  unfold zlook
  cases ez : zhan (μs nm) p l (uH (μs nm)) 0 σ with
  | none =>
    rw [ez] at v3'
    refine ⟨zJ M2 100 27 0, fun C r => (head C r).trans (zj_101n E2 v3' hp C r), (s2.mx.tr v2).tr zM9.r.mx, ?_⟩
    rw [Option.bind_none, ite_self]
    rfl
  | some σ1 =>
    rw [ez] at v3'
    obtain ⟨w1, w2⟩ := v4 σ1 ez
    obtain ⟨M3, t1, t2, t3⟩ := zj_101 (N := N) (w := w) (b := b) hN E2 v3'.2.1 w2 w1 hp
    exact ⟨M3, fun C r => (head C r).trans (t1 C r), (s2.mx.tr v2).tr t2, zQl.tr v3' t3⟩
end ZRJ
