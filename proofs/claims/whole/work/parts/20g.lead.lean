/-! ===== the class's judge: lead ===== -/
theorem zi_ofneg {q : Int} (h : q < 0) (h2 : -2 ^ 31 ≤ q) : Int32.ofInt q < 0 := by
  rw [Int32.lt_iff_toInt_lt, Int32.toInt_ofInt_of_le h2 (by omega)]
  exact h
theorem zi_ofnn (n : Nat) : Int32.ofInt (n : Int) = Int32.ofNat n := rfl
def zJc (C : zC) (σ : zTau) (wt : Nat → Bool) (n : Nat) : Prop :=
  C.1 9 7 = Int32.ofNat n ∧ n = zs (fun p => if wt p = true then 1 else 0) 200 ∧ (∀ p, p < 200 → C.1 10 p = if (σ p).isSome = true then 1 else 0) ∧ (∀ p, p < 200 → C.1 11 p = if wt p = true then 1 else 0) ∧
  (∀ i, i < n → ∃ p, C.1 12 i = Int32.ofNat p ∧ p < 200 ∧ wt p = true) ∧ (∀ i j, i < j → j < n → C.1 12 i ≠ C.1 12 j) ∧ (∀ p st l, σ p = some (st, l) → C.1 13 p = Int32.ofNat (zpS st) ∧ C.1 14 p = Int32.ofNat (zpk l 16)) ∧ ∀ p, wt p = true → p < 200 ∧ (σ p).isSome = true
def zFl (C C' : zC) : Prop := (∀ o k, ¬ (10 ≤ o ∧ o ≤ 14) → ¬ (o = 9 ∧ (k = 7 ∨ k = 9)) → C'.1 o k = C.1 o k) ∧ C'.2 = C.2
def zWk (σ : zTau) (wt : Nat → Bool) (σ' : zTau) (wt' : Nat → Bool) : Prop := (∀ p, wt p = true → wt' p = true) ∧ ∀ p, σ' p = σ p ∨ wt' p = true
section ZLD
variable {N w b K nm p q n : Nat} {F ρ α π : Nat → Nat} {C C' : zC} {M : zM} {r : zv_X} {ra : Nat → Nat} {μs : Nat → zMu} {σ σ' : zTau} {wt wt' : Nat → Bool} {st : List Nat} {l : Nat → Nat}
theorem zFl.rf : zFl C C := ⟨fun _ _ _ _ => rfl, rfl⟩
theorem zFl.tr {C1 C2 : zC} (h : zFl C C1) (h' : zFl C1 C2) : zFl C C2 := ⟨fun o k e f => (h'.1 o k e f).trans (h.1 o k e f), h'.2.trans h.2⟩
theorem zFl.I {o k : Nat} {v : Int32} (h : 10 ≤ o ∧ o ≤ 14 ∨ o = 9 ∧ (k = 7 ∨ k = 9)) : zFl C (zI C o k v) := ⟨fun o' k' e f => by rw [zI1, if_neg (by rintro ⟨rfl, rfl⟩; rcases h with h | h; exact e h; exact f h)], rfl⟩
theorem zrq_fl {v : Int32} : zFl C (zrq C v) := by
  unfold zrq
  split
  · exact zFl.I (Or.inr ⟨rfl, Or.inr rfl⟩)
  · exact zFl.rf
theorem zWk.rf : zWk σ wt σ wt := ⟨fun _ h => h, fun _ => Or.inl rfl⟩
theorem zWk.tr {σ1 σ2 : zTau} {w1 w2 : Nat → Bool} (h : zWk σ wt σ1 w1) (h' : zWk σ1 w1 σ2 w2) : zWk σ wt σ2 w2 := ⟨fun p e => h'.1 p (h.1 p e), fun p => by
  rcases h'.2 p with e | e
  · rcases h.2 p with f | f
    · exact Or.inl (e.trans f)
    · exact Or.inr (h'.1 p f)
  · exact Or.inr e⟩
theorem zEv.fl (h : zEv b K F ρ α π r C M nm ra μs) (h' : zFl C C') : zEv b K F ρ α π r C' M nm ra μs := h.cong (fun o k e => h'.1 o k (by omega) (by omega)) (by rw [h'.2])
/-- arrays of the judge alone are seen -/
theorem zJc.cong (h : zJc C σ wt n) (h7 : C'.1 9 7 = C.1 9 7) (h1 : ∀ o k, 10 ≤ o → o ≤ 14 → C'.1 o k = C.1 o k) : zJc C' σ wt n := by
  obtain ⟨a1, a2, a3, a4, a5, a6, a7, a8⟩ := h
  refine ⟨h7.trans a1, a2, fun p hp => (h1 10 p (by decide) (by decide)).trans (a3 p hp), fun p hp => (h1 11 p (by decide) (by decide)).trans (a4 p hp), fun i hi => ?_, fun i j hi hj => ?_, fun p st l e => ?_, a8⟩
  · rw [h1 12 i (by decide) (by decide)]; exact a5 i hi
  · rw [h1 12 i (by decide) (by decide), h1 12 j (by decide) (by decide)]; exact a6 i j hi hj
  · rw [h1 13 p (by decide) (by decide), h1 14 p (by decide) (by decide)]; exact a7 p st l e
theorem zJc.lt (h : zJc C σ wt n) (hq : q < 200) (hw : wt q = false) : n < 200 := by
  have e : zs (fun p => if wt p = true then 1 else 0) 200 < zs (fun _ => 1) 200 := zs_lt (a := q) (fun i _ => by split <;> omega) hq (by rw [hw]; decide)
  rw [zs_one, ← h.2.1] at e
  exact e
/-- one place more waits -/
def zwt1 (wt : Nat → Bool) (q : Nat) : Nat → Bool := fun p => if p = q then true else wt p
theorem zd_await (h : zJc C σ wt n) (hq : q < 200) (hs : (σ q).isSome = true) : ∃ C' n', zHC w b (mX3_await N (b + 9) (Int32.ofNat q)) C r id C' r ∧ zFl C C' ∧ C'.1 9 9 = C.1 9 9 ∧ zJc C' σ (zwt1 wt q) n' ∧ n' ≤ n + 1 := by
  have h' := h
  obtain ⟨a1, a2, a3, a4, a5, a6, a7, a8⟩ := h
  cases hw : wt q with
  | true =>
    refine ⟨C, n, fun M0 => ?_, zFl.rf, rfl, ?_, by omega⟩
    · unfold mX3_await mX3_await_0
      rw [zqg_9_3, Option.bind_some, zqa_11 hq, Option.bind_some, a4 q hq, hw, if_pos rfl, if_neg (by decide)]
      rfl
    · have : zwt1 wt q = wt := funext fun p => by
        show (if p = q then true else wt p) = wt p
        split
        · next e => rw [e, hw]
        · rfl
      rw [this]
      exact h'
  | false =>
    have hn := h'.lt hq hw
    refine ⟨zI (zI (zI C 11 q 1) 12 n (Int32.ofNat q)) 9 7 (Int32.ofNat (n + 1)), n + 1, fun M0 => ?_, (zFl.I (by omega)).tr ((zFl.I (by omega)).tr (zFl.I (by omega))), rfl, ?_, Nat.le_refl _⟩
    · unfold mX3_await mX3_await_0
      have e1 : (zI C 11 q 1).1 9 7 = Int32.ofNat n := a1
      have e2 : (zI (zI C 11 q 1) 12 n (Int32.ofNat q)).1 9 7 = Int32.ofNat n := a1
      rw [zqg_9_3, Option.bind_some, zqa_11 hq, Option.bind_some, a4 q hq, hw, if_neg (show ¬ false = true by decide), if_pos rfl, Option.bind_some, zqs_11 (Or.inr rfl) hq, Option.bind_some, zqg_9_4, Option.bind_some, zqg_9_7, Option.bind_some, e1, zqs_12 hn, Option.bind_some, zqg_9_7, Option.bind_some, e2, zi_l1, zi_add, zqp_9_7, Option.bind_some]
      rfl
    · have u := zs_upd (f := fun p => if wt p = true then 1 else 0) (g := fun p => if zwt1 wt q p = true then 1 else 0) (a := q) (n := 200) (fun i hi => by
        show (if (if i = q then true else wt i) = true then 1 else 0) = _
        rw [if_neg hi]) hq
      have u1 : (if zwt1 wt q q = true then 1 else 0) = 1 := by
        show (if (if q = q then true else wt q) = true then 1 else 0) = 1
        rw [if_pos rfl, if_pos rfl]
      simp only [u1, hw] at u
      refine ⟨rfl, ?_, fun p hp => ?_, fun p hp => ?_, fun i hi => ?_, fun i j hi hj => ?_, fun p st l e => a7 p st l e, fun p hp => ?_⟩
      · simp at u
        omega
      · rw [zI1, if_neg (by omega), zI1, if_neg (by omega), zI1, if_neg (by omega)]
        exact a3 p hp
      · rw [zI1, if_neg (by omega), zI1, if_neg (by omega), zI1]
        show _ = if (if p = q then true else wt p) = true then 1 else 0
        by_cases c : p = q
        · rw [if_pos ⟨rfl, c⟩, if_pos c, if_pos rfl]
        · rw [if_neg (fun e => c e.2), if_neg c]
          exact a4 p hp
      · have e12 : ∀ i, (zI (zI (zI C 11 q 1) 12 n (Int32.ofNat q)) 9 7 (Int32.ofNat (n + 1))).1 12 i = if i = n then Int32.ofNat q else C.1 12 i := fun i => by
          rw [zI1, if_neg (by omega), zI1]
          by_cases c : i = n
          · rw [if_pos ⟨rfl, c⟩, if_pos c]
          · rw [if_neg (fun e => c e.2), zI1, if_neg (by omega), if_neg c]
        rw [e12 i]
        by_cases c : i = n
        · rw [if_pos c]
          exact ⟨q, rfl, hq, if_pos rfl⟩
        · rw [if_neg c]
          obtain ⟨p, b1, b2, b3⟩ := a5 i (by omega)
          refine ⟨p, b1, b2, ?_⟩
          show (if p = q then true else wt p) = true
          split
          · rfl
          · exact b3
      · have e12 : ∀ i, (zI (zI (zI C 11 q 1) 12 n (Int32.ofNat q)) 9 7 (Int32.ofNat (n + 1))).1 12 i = if i = n then Int32.ofNat q else C.1 12 i := fun i => by
          rw [zI1, if_neg (by omega), zI1]
          by_cases c : i = n
          · rw [if_pos ⟨rfl, c⟩, if_pos c]
          · rw [if_neg (fun e => c e.2), zI1, if_neg (by omega), if_neg c]
        rw [e12 i, e12 j, if_neg (by omega)]
        by_cases c : j = n
        · rw [if_pos c]
          obtain ⟨p, b1, b2, b3⟩ := a5 i (by omega)
          rw [b1]
          intro e
          have : p = q := zi_inj (by omega) (by omega) e
          rw [this, hw] at b3
          cases b3
        · rw [if_neg c]
          exact a6 i j hi (by omega)
      · have hp' : (if p = q then true else wt p) = true := hp
        by_cases c : p = q
        · subst c; exact ⟨hq, hs⟩
        · rw [if_neg c] at hp'
          exact a8 p hp'
theorem zwt1_wk {v : List Nat × (Nat → Nat)} : zWk σ wt (zpu σ q v) (zwt1 wt q) := ⟨fun p h => by
    show (if p = q then true else wt p) = true
    split
    · rfl
    · exact h, fun p => by
    by_cases c : p = q
    · exact Or.inr (if_pos c)
    · exact Or.inl (zpu_ne c)⟩
/-- what the store shows of a place that is led to for the first time -/
theorem zJc.new (h : zJc C σ wt n) (hq : q < 200) : zJc (zI (zI (zI C 10 q 1) 13 q (Int32.ofNat (zpS st))) 14 q (Int32.ofNat (zpk l 16))) (zpu σ q (st, l)) wt n := by
  obtain ⟨a1, a2, a3, a4, a5, a6, a7, a8⟩ := h
  refine ⟨a1, a2, fun p hp => ?_, fun p hp => ?_, fun i hi => ?_, fun i j hi hj => ?_, fun p st1 l1 e => ?_, fun p hp => ?_⟩
  · rw [zI1, if_neg (by omega), zI1, if_neg (by omega), zI1]
    by_cases c : p = q
    · subst c
      rw [if_pos ⟨rfl, rfl⟩, zpu_at]
      rfl
    · rw [if_neg (fun e => c e.2), zpu_ne c]
      exact a3 p hp
  · rw [zI1, if_neg (by omega), zI1, if_neg (by omega), zI1, if_neg (by omega)]
    exact a4 p hp
  · rw [zI1, if_neg (by omega), zI1, if_neg (by omega), zI1, if_neg (by omega)]
    exact a5 i hi
  · rw [zI1, if_neg (by omega), zI1, if_neg (by omega), zI1, if_neg (by omega), zI1, if_neg (by omega), zI1, if_neg (by omega), zI1, if_neg (by omega)]
    exact a6 i j hi hj
  · rw [zI1, if_neg (show ¬ (13 = 14 ∧ p = q) by omega), zI1, zI1, if_neg (show ¬ (13 = 10 ∧ p = q) by omega), zI1, zI1, if_neg (show ¬ (14 = 13 ∧ p = q) by omega), zI1, if_neg (show ¬ (14 = 10 ∧ p = q) by omega)]
    by_cases c : p = q
    · subst c
      rw [zpu_at] at e
      injection e with e
      injection e with e1 e2
      subst e1; subst e2
      rw [if_pos ⟨rfl, rfl⟩, if_pos ⟨rfl, rfl⟩]
      exact ⟨rfl, rfl⟩
    · rw [if_neg (fun e => c e.2), if_neg (fun e => c e.2)]
      rw [zpu_ne c] at e
      exact a7 p st1 l1 e
  · obtain ⟨b1, b2⟩ := a8 p hp
    refine ⟨b1, ?_⟩
    by_cases c : p = q
    · subst c; rw [zpu_at]; rfl
    · rw [zpu_ne c]; exact b2
theorem zJc.low {l' : Nat → Nat} (h : zJc C σ wt n) (hs : σ q = some (st, l')) : zJc (zI C 14 q (Int32.ofNat (zpk l 16))) (zpu σ q (st, l)) wt n := by
  obtain ⟨a1, a2, a3, a4, a5, a6, a7, a8⟩ := h
  refine ⟨a1, a2, fun p hp => ?_, fun p hp => ?_, fun i hi => ?_, fun i j hi hj => ?_, fun p st1 l1 e => ?_, fun p hp => ?_⟩
  · rw [zI1, if_neg (by omega), a3 p hp]
    by_cases c : p = q
    · subst c
      rw [zpu_at, hs]
      rfl
    · rw [zpu_ne c]
  · rw [zI1, if_neg (by omega)]
    exact a4 p hp
  · rw [zI1, if_neg (by omega)]
    exact a5 i hi
  · rw [zI1, if_neg (by omega), zI1, if_neg (by omega)]
    exact a6 i j hi hj
  · rw [zI1, if_neg (show ¬ (13 = 14 ∧ p = q) by omega), zI1]
    by_cases c : p = q
    · subst c
      rw [zpu_at] at e
      injection e with e
      injection e with e1 e2
      subst e1; subst e2
      rw [if_pos ⟨rfl, rfl⟩]
      exact ⟨(a7 p st l' hs).1, rfl⟩
    · rw [if_neg (fun e => c e.2)]
      rw [zpu_ne c] at e
      exact a7 p st1 l1 e
  · obtain ⟨b1, b2⟩ := a8 p hp
    refine ⟨b1, ?_⟩
    by_cases c : p = q
    · subst c; rw [zpu_at]; rfl
    · rw [zpu_ne c]; exact b2
/-- the state of a judging: nothing, or what is known and waits -/
def zJs (μ : zMu) (C : zC) (o : Option zTau) (σ0 : zTau) (wt0 : Nat → Bool) (n0 : Nat) : Prop := match o with
  | none => C.1 9 9 = 0
  | some σ => C.1 9 9 = 1 ∧ zOs (uLen μ) (uSk μ) σ ∧ ∃ wt n, zJc C σ wt n ∧ zWk σ0 wt0 σ wt ∧ n + zwt σ ≤ n0 + zwt σ0
theorem zd_lead22 {M0 : zM} {l1 l2 l3 s0 : Int32} (h : (zrq C s0).1 9 9 = 0) : mX3_lead_22 N (b + 9) l1 l2 l3 s0 (b + 9) (zc w b C M0 r) = some (zc w b (zrq C s0) M0 r) := by
  unfold mX3_lead_22
  rw [if_pos zqk_9, zd_reqr, Option.bind_some, zqg_9_9, Option.bind_some, h, if_pos rfl]
theorem zd_leadB {l1 l2 l3 : Int32} (hE : zEv b K F ρ α π r C M nm ra μs) (h : C.1 9 9 = 0) : ∃ C', zHC w b (mX3_lead N (b + 9) l1 l2 l3) C r id C' r ∧ zFl C C' ∧ C'.1 9 9 = 0 := by
  by_cases c : l1 < 0
  · refine ⟨zrq C 0, fun M0 => ?_, zrq_fl, zrq_B h⟩
    unfold mX3_lead mX3_lead_0 mX3_lead_21
    rw [if_pos c, zd_lead22 (zrq_B h)]
    rfl
  · by_cases d : Int32.ofNat (uLen (μs nm)) ≤ l1
    · refine ⟨zrq C 0, fun M0 => ?_, zrq_fl, zrq_B h⟩
      unfold mX3_lead mX3_lead_0 mX3_lead_21
      rw [if_neg c, zqg_9_8 hE.2.2.2.1, Option.bind_some, ze_f0 hE.R, Option.bind_some, ze_n0 hE.R hE.ok, Option.bind_some, if_pos d, zd_lead22 (zrq_B h)]
      rfl
    · refine ⟨zrq C 1, fun M0 => ?_, zrq_fl, zrq_B h⟩
      unfold mX3_lead mX3_lead_0 mX3_lead_21
      rw [if_neg c, zqg_9_8 hE.2.2.2.1, Option.bind_some, ze_f0 hE.R, Option.bind_some, ze_n0 hE.R hE.ok, Option.bind_some, if_neg d, zd_lead22 (zrq_B h)]
      rfl
theorem zd_lead {z : Int} {o : Option zTau} {σ0 : zTau} {wt0 : Nat → Bool} {n0 : Nat} (hE : zEv b K F ρ α π r C M nm ra μs) (h : zJs (μs nm) C o σ0 wt0 n0) (hz : -2 ^ 31 ≤ z ∧ z < 2 ^ 31) (hS : zkS st) (hs : st.length ≤ uSk (μs nm)) (hl : zk16 l) :
    ∃ C', zHC w b (mX3_lead N (b + 9) (Int32.ofInt z) (Int32.ofNat (zpS st)) (Int32.ofNat (zpk l 16))) C r id C' r ∧ zFl C C' ∧ zJs (μs nm) C' (o.bind (zlead (uLen (μs nm)) z st l)) σ0 wt0 n0 := by
  have hn : uLen (μs nm) ≤ 200 := hE.ok.1
  have h12 : uSk (μs nm) ≤ 12 := hE.ok.2.2.2.2.2.2.2.2.2.1
  cases o with
  | none => exact zd_leadB hE h
  | some σ =>
    obtain ⟨h1, hO, wt, n, hJ, hW, hm⟩ := h
    rw [Option.bind_some]
    by_cases c0 : z < 0
    · refine ⟨zrq C 0, fun M0 => ?_, zrq_fl, ?_⟩
      · unfold mX3_lead mX3_lead_0 mX3_lead_21
        rw [if_pos (zi_ofneg c0 hz.1), zd_lead22 zrq_0]
        rfl
      · unfold zlead
        rw [if_neg (by omega)]
        exact zrq_0
    · obtain ⟨q, rfl⟩ : ∃ q : Nat, z = q := ⟨z.toNat, by omega⟩
      have nn : ¬ Int32.ofNat q < 0 := by rw [zi_nn (by omega)]; exact not_false
      rw [zi_ofnn]
      by_cases c1 : uLen (μs nm) ≤ q
      · refine ⟨zrq C 0, fun M0 => ?_, zrq_fl, ?_⟩
        · unfold mX3_lead mX3_lead_0 mX3_lead_21
          rw [if_neg nn, zqg_9_8 hE.2.2.2.1, Option.bind_some, ze_f0 hE.R, Option.bind_some, ze_n0 hE.R hE.ok, Option.bind_some, if_pos (by rw [zi_le (by omega) (by omega)]; exact c1), zd_lead22 zrq_0]
          rfl
        · unfold zlead
          rw [if_neg (by omega)]
          exact zrq_0
      · have hq : q < 200 := by omega
        have ent : ∀ M0 : zM, mX3_lead N (b + 9) (Int32.ofNat q) (Int32.ofNat (zpS st)) (Int32.ofNat (zpk l 16)) (zc w b C M0 r) = mX3_lead_22 N (b + 9) (Int32.ofNat q) (Int32.ofNat (zpS st)) (Int32.ofNat (zpk l 16)) 1 (b + 9) (zc w b C M0 r) := fun M0 => by
          unfold mX3_lead mX3_lead_0 mX3_lead_21
          rw [if_neg nn, zqg_9_8 hE.2.2.2.1, Option.bind_some, ze_f0 hE.R, Option.bind_some, ze_n0 hE.R hE.ok, Option.bind_some, if_neg (by rw [zi_le (by omega) (by omega)]; exact c1)]
        have el : zlead (uLen (μs nm)) (q : Int) st l σ = (match σ q with
          | none => some (zpu σ q (st, l))
          | some v => if v.1 = st then some (zpu σ q (v.1, zmt v.2 l)) else none) := by
          unfold zlead
          rw [if_pos (by omega)]
          rfl
        have hseen := hJ.2.2.1 q hq
        cases e : σ q with
        | none =>
          obtain ⟨C2, n2, t1, t2, t3, t4, t5⟩ := zd_await (N := N) (w := w) (b := b) (r := r) (q := q) (hJ.new (st := st) (l := l) hq) hq (by rw [zpu_at]; rfl)
          refine ⟨C2, fun M0 => ?_, (((zFl.I (by omega)).tr (zFl.I (by omega))).tr (zFl.I (by omega))).tr t2, ?_⟩
          · rw [ent]
            unfold mX3_lead_22
            have et : mX3_await N (b + 9) (Int32.ofNat q) (zc w b (zI (zI (zI C 10 q 1) 13 q (Int32.ofNat (zpS st))) 14 q (Int32.ofNat (zpk l 16))) M0 r) = some (zc w b C2 M0 r) := t1 M0
            rw [e] at hseen
            rw [if_pos zqk_9, zd_reqr, Option.bind_some, zrq_1, zqg_9_9, Option.bind_some, h1, if_neg (by decide), zqg_9_2, Option.bind_some, zqa_10 hq, Option.bind_some, hseen, if_neg (show ¬ (none : Option (List Nat × (Nat → Nat))).isSome = true by decide), if_pos rfl, Option.bind_some, zqs_10 (Or.inr rfl) hq, Option.bind_some, zqg_9_5, Option.bind_some, zqs_13 hq, Option.bind_some, zqg_9_6, Option.bind_some, zqs_14 hq, Option.bind_some, if_pos zqk_9, et, Option.bind_some]
            rfl
          · have e2 : zlead (uLen (μs nm)) (q : Int) st l σ = some (zpu σ q (st, l)) := by rw [el, e]
            rw [e2]
            refine ⟨t3.trans h1, zlead_os e2 hO hs hS hl, zwt1 wt q, n2, t4, hW.tr zwt1_wk, ?_⟩
            have : zwt (zpu σ q (st, l)) < zwt σ := zwt_up hq (by
              rw [zwp_no e]
              have := zcn_le (l := l)
              show zcn l < 17
              omega)
            omega
        | some v =>
          have ev : σ q = some (v.1, v.2) := e
          obtain ⟨o1, o2, o3, o4⟩ := hO q v.1 v.2 ev
          obtain ⟨k13, k14⟩ := hJ.2.2.2.2.2.2.1 q v.1 v.2 ev
          have head : ∀ M0 : zM, mX3_lead_22 N (b + 9) (Int32.ofNat q) (Int32.ofNat (zpS st)) (Int32.ofNat (zpk l 16)) 1 (b + 9) (zc w b C M0 r) = mX3_lead_85 N (b + 9) (Int32.ofNat q) (Int32.ofNat (zpk l 16)) (if v.1 = st then 1 else 0) (b + 9) (zc w b C M0 r) := fun M0 => by
            unfold mX3_lead_22
            rw [e] at hseen
            have b1 := (zps_len o3 (s := 12)).mpr (by omega)
            have b2 := (zps_len hS (s := 12)).mpr (by omega)
            have b3 : (4 : Nat) ^ 12 < 2 ^ 31 := by decide
            rw [if_pos zqk_9, zd_reqr, Option.bind_some, zrq_1, zqg_9_9, Option.bind_some, h1, if_neg (by decide), zqg_9_2, Option.bind_some, zqa_10 hq, Option.bind_some, hseen, if_pos (show (some v).isSome = true from rfl), if_neg (by decide), zqg_9_5, Option.bind_some, zqa_13 hq, Option.bind_some, k13]
            by_cases cs : v.1 = st
            · rw [if_pos (by rw [cs]), if_pos cs]
            · rw [if_neg (fun e => cs (zps_inj o3 hS (zi_inj (by omega) (by omega) e))), if_neg cs]
          have tail : ∀ (M0 : zM) (s0 : Int32), mX3_lead_85 N (b + 9) (Int32.ofNat q) (Int32.ofNat (zpk l 16)) s0 (b + 9) (zc w b C M0 r) = if Int32.ofNat (zpk (zmt v.2 l) 16) = Int32.ofNat (zpk v.2 16) then some (zc w b (zrq C s0) M0 r) else mX3_await N (b + 9) (Int32.ofNat q) (zc w b (zI (zrq C s0) 14 q (Int32.ofNat (zpk (zmt v.2 l) 16))) M0 r) := fun M0 s0 => by
            have f14 : (zrq C s0).1 14 q = Int32.ofNat (zpk v.2 16) := (zrq_f9.1 14 q (by omega)).trans k14
            unfold mX3_lead_85 mX3_lead_124
            rw [if_pos zqk_9, zd_reqr, Option.bind_some, zqg_9_6, Option.bind_some, zqa_14 hq, Option.bind_some, f14, qX3_commonKinds, zpk_meet o4 hl, Option.map_some, Option.bind_some]
            dsimp only
            rw [zqg_9_6, Option.bind_some, zqa_14 hq, Option.bind_some, f14]
            by_cases cm : Int32.ofNat (zpk (zmt v.2 l) 16) = Int32.ofNat (zpk v.2 16)
            · rw [if_pos cm, if_pos cm]
            · rw [if_neg cm, if_neg cm, Option.bind_some, zqs_14 hq, Option.bind_some, if_pos zqk_9]
              cases mX3_await N (b + 9) (Int32.ofNat q) (zc w b (zI (zrq C s0) 14 q (Int32.ofNat (zpk (zmt v.2 l) 16))) M0 r) <;> rfl
          by_cases cs : v.1 = st
          · have e2 : zlead (uLen (μs nm)) (q : Int) st l σ = some (zpu σ q (v.1, zmt v.2 l)) := by rw [el, e]; exact if_pos cs
            by_cases cm : zmt v.2 l = v.2
            · have e3 : zpu σ q (v.1, zmt v.2 l) = σ := by rw [cm]; exact zpu_id ev
              rw [e2, e3]
              refine ⟨C, fun M0 => ?_, zFl.rf, h1, hO, wt, n, hJ, hW, hm⟩
              rw [ent, head, tail, if_pos cs, if_pos (by rw [cm]), zrq_1]
              rfl
            · obtain ⟨C2, n2, t1, t2, t3, t4, t5⟩ := zd_await (N := N) (w := w) (b := b) (r := r) (q := q) (hJ.low (l := zmt v.2 l) ev) hq (by rw [zpu_at]; rfl)
              refine ⟨C2, fun M0 => ?_, (zFl.I (by omega)).tr t2, ?_⟩
              · rw [ent, head, tail, if_pos cs, if_neg (fun e => cm (zpk_inj (zmt_k o4 hl) o4 e)), zrq_1]
                exact t1 M0
              · rw [e2]
                refine ⟨t3.trans h1, zlead_os e2 hO hs hS hl, zwt1 wt q, n2, t4, hW.tr zwt1_wk, ?_⟩
                have : zwt (zpu σ q (v.1, zmt v.2 l)) < zwt σ := zwt_up hq (by
                  rw [zwp_at e]
                  exact zcn_lt o4 hl cm)
                omega
          · have e2 : zlead (uLen (μs nm)) (q : Int) st l σ = none := by rw [el, e]; exact if_neg cs
            rw [e2]
            by_cases cm : zmt v.2 l = v.2
            · refine ⟨zrq C 0, fun M0 => ?_, zrq_fl, zrq_0⟩
              rw [ent, head, tail, if_neg cs, if_pos (by rw [cm])]
              rfl
            · have hJ2 : zJc (zrq C 0) σ wt n := hJ.cong (zrq_k (by decide)) (fun o k _ _ => zrq_f9.1 o k (by omega))
              obtain ⟨C2, n2, t1, t2, t3, t4, t5⟩ := zd_await (N := N) (w := w) (b := b) (r := r) (q := q) (hJ2.low (l := zmt v.2 l) ev) hq (by rw [zpu_at]; rfl)
              refine ⟨C2, fun M0 => ?_, (zrq_fl.tr (zFl.I (by omega))).tr t2, ?_⟩
              · rw [ent, head, tail, if_neg cs, if_neg (fun e => cm (zpk_inj (zmt_k o4 hl) o4 e))]
                exact t1 M0
              · exact t3.trans (zrq_0 (C := C))
end ZLD
