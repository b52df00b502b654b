/-! ===== both heaps: a handle and its thing ===== -/
/-- an element as it lies in words -/
def zel (so : Nat) (W : Nat → Int32) (k : Nat) : Int64 :=
  if so = 4 ∨ so = 8 then Int32.toInt64 ((Int32.toInt8 (W (k / 4) >>> Int32.ofNat (k % 4 * 8))).toInt32)
  else if so = 5 then Int32.toInt64 ((Int32.toUInt32 (W (k / 2) >>> Int32.ofNat (k % 2 * 16)) % 65536).toInt32)
  else if so = 9 then Int32.toInt64 ((Int32.toInt16 (W (k / 2) >>> Int32.ofNat (k % 2 * 16))).toInt32)
  else if so = 11 then ((Int32.toInt64 (W (2 * k)) <<< (Int32.toInt64 (32 : Int32) &&& 63)) ||| (Int32.toInt64 (W (2 * k + 1)) &&& (4294967295 : Int64)))
  else Int32.toInt64 (W k)
def zPr (w K : Nat) (F ρ : Nat → Nat) (D : Nat → Nat → Prop) (C : zC) (M : zM) (h t : Nat) : Prop := ∃ u so cl n, h = u + 1 ∧ u < w / 2 ∧ M.1 32 t = Int32.ofNat so ∧ M.1 31 t = Int32.ofNat cl ∧ M.1 33 t = Int32.ofNat n ∧ n ≤ 1600 ∧ cl < K ∧
  (so = 0 ∨ so = 4 ∨ so = 5 ∨ so = 8 ∨ so = 9 ∨ so = 10 ∨ so = 11 ∨ so = 12) ∧ (so = 0 → n = F cl) ∧ (so ≠ 0 → cl = 0) ∧ zhW C u = zwd so n ∧ zht C u = (if so = 0 then Int32.ofNat cl else -Int32.ofNat so) ∧ C.1 17 (zha C u + 1) = (if so = 0 then 0 else Int32.ofNat n) ∧
  ∀ k, k < n → if so = 12 ∨ so = 0 ∧ (ρ cl).testBit k = true then zRf D (C.1 17 (zha C u + 2 + k)) (M.2 37 (zgb M t + k)) else M.2 37 (zgb M t + k) = zel so (fun j => C.1 17 (zha C u + 2 + j)) k
section ZPA
variable {w K : Nat} {F ρ α π : Nat → Nat} {D D' : Nat → Nat → Prop} {C C' : zC} {M M' : zM} {h t : Nat}
theorem zh_same (h17 : C'.1 17 = C.1 17) (h18 : C'.1 18 = C.1 18) (h19 : C'.1 19 = C.1 19) (h4 : C'.1 4 = C.1 4) : zhf C' = zhf C ∧ zhz C' = zhz C ∧ zhW C' = zhW C ∧ zha C' = zha C ∧ zht C' = zht C := by
  have e1 : zha C' = zha C := funext fun u => by unfold zha; rw [h18]
  have e2 : zhW C' = zhW C := funext fun u => by unfold zhW; rw [h19]
  have e3 : zht C' = zht C := funext fun u => by unfold zht; rw [h17, e1]
  have e4 : zhz C' = zhz C := funext fun u => by unfold zhz; rw [e2]
  refine ⟨funext fun u => funext fun k => ?_, e4, e2, e1, e3⟩
  unfold zhf zhb
  simp only [h17, e1, e3, h4]
theorem zRf.nat {re : Int32} {v : Int64} (hD : zDok D) (h : zRf D re v) : (zN re = 0 ∧ zN8 v = 0) ∨ ∃ h t, D h t ∧ zN re = h ∧ zN8 v = t + 1 := by
  rcases h with ⟨h1, h2⟩ | ⟨h, t, h1, h2, h3⟩
  · subst h1; subst h2; exact Or.inl ⟨rfl, rfl⟩
  · have := hD.1 h t h1
    exact Or.inr ⟨h, t, h1, by rw [h2, zN_nat (by omega)], by rw [h3, zN8_nat (by omega)]⟩
theorem zgr_pr (hT : zTy C M K F ρ α π) {so cl n k : Nat} (h1 : M.1 32 t = Int32.ofNat so) (h2 : M.1 31 t = Int32.ofNat cl) (hso : so ≤ 12) (hcl : cl < K) (hn : so = 0 → n = F cl) (hk : k < n) : zgr M t k = if so = 12 ∨ so = 0 ∧ (ρ cl).testBit k = true then zN8 (M.2 37 (zgb M t + k)) else 0 := by
  have hK := hT.2.2.2.1
  unfold zgr
  rw [h1, h2, zN_nat (by omega), zN_nat (by omega)]
  have e : (so = 12 ∨ so = 0 ∧ M.1 4 (8 * cl + k) = 3) = (so = 12 ∨ so = 0 ∧ (ρ cl).testBit k = true) := by
    by_cases c0 : so = 0
    · have := (hT.2.2.2.2.2.2.1 cl hcl).2.2.2.2.2.2.2 k (by rw [← hn c0]; exact hk)
      rw [this]
      by_cases c : (ρ cl).testBit k = true
      · rw [if_pos c]
        exact propext ⟨fun _ => Or.inr ⟨c0, c⟩, fun _ => Or.inr ⟨c0, rfl⟩⟩
      · rw [if_neg c]
        refine propext ⟨fun q => ?_, fun q => ?_⟩
        · rcases q with q | q
          · omega
          · exact absurd q.2 (by decide)
        · rcases q with q | q
          · omega
          · exact absurd q.2 c
    · refine propext ⟨fun q => ?_, fun q => ?_⟩
      · rcases q with q | q
        · exact Or.inl q
        · exact absurd q.1 c0
      · rcases q with q | q
        · exact Or.inl q
        · exact absurd q.1 c0
  simp only [e]
  rfl
/-- the references of both go side by side -/
theorem zPr.lk (hD : zDok D) (hT : zTy C M K F ρ α π) {u : Nat} (h : zPr w K F ρ D C M (u + 1) t) : (∀ k, k < zgz M t → (zgr M t k = 0 ∧ (k < zhz C u → zhf C u k = 0)) ∨ ∃ h' t', D h' t' ∧ zgr M t k = t' + 1 ∧ k < zhz C u ∧ zhf C u k = h') ∧ ∀ k, k < zhz C u → zhf C u k ≠ 0 → k < zgz M t := by
  obtain ⟨u', so, cl, n, p1, p2, p3, p4, p5, p6, p7, p8, p9, p10, p11, p12, p13, p14⟩ := h
  have : u' = u := by omega
  subst this
  have hso : so ≤ 12 := by omega
  have hK := hT.2.2.2.1
  have hz : zgz M t = n := by unfold zgz; rw [p5, zN_nat (by omega)]
  rw [hz]
  by_cases c : so = 12 ∨ so = 0
  · have hzz : zhz C u' = n := by
      unfold zhz zwd at *
      rw [p11, if_neg (by omega), if_neg (by omega), if_neg (by omega)]
      omega
    have hf : ∀ k, k < n → zhf C u' k = if so = 12 ∨ so = 0 ∧ (ρ cl).testBit k = true then zN (C.1 17 (zha C u' + 2 + k)) else 0 := fun k hk => by
      unfold zhf
      rw [p12]
      rcases c with c | c
      · subst c
        rw [if_neg (show ¬ (12 = 0) by decide), if_pos (Or.inl (by decide)), if_pos (Or.inl rfl)]
      · subst c
        have hF := hT.2.2.2.2.2.2.1 cl p7
        have hFk : n ≤ 8 := by rw [p9 rfl]; exact hF.2.2.2.2.1
        have hrho : ρ cl < 2 ^ 31 := Nat.lt_of_lt_of_le hF.2.2.2.2.2.1 (Nat.pow_le_pow_right (by decide) (by have := hF.2.2.2.2.1; omega))
        have hb : zhb C cl k = ((ρ cl).testBit k = true) := by
          unfold zhb
          rw [hF.2.2.1, zi_31 (by omega), zi_bitN hrho (by omega)]
        rw [if_pos rfl, zN_nat (by omega)]
        have e : (Int32.ofNat cl = -12 ∨ 0 ≤ Int32.ofNat cl ∧ zhb C cl k) = (0 = 12 ∨ 0 = 0 ∧ (ρ cl).testBit k = true) := by
          rw [hb, zi_p0 (by omega)]
          have : ¬ Int32.ofNat cl = -12 := fun e => by
            have e1 : (0 : Int32) ≤ Int32.ofNat cl := by rw [zi_p0 (by omega)]; trivial
            rw [e] at e1
            exact absurd e1 (by decide)
          simp [this]
        simp only [e]
    refine ⟨fun k hk => ?_, fun k hk _ => by omega⟩
    rw [zgr_pr hT p3 p4 hso p7 p9 hk, hf k hk]
    have hc := p14 k hk
    by_cases q : so = 12 ∨ so = 0 ∧ (ρ cl).testBit k = true
    · rw [if_pos q] at hc
      rw [if_pos q, if_pos q]
      rcases zRf.nat hD hc with ⟨e1, e2⟩ | ⟨h', t', e1, e2, e3⟩
      · exact Or.inl ⟨e2, fun _ => e1⟩
      · exact Or.inr ⟨h', t', e1, e3, by omega, e2⟩
    · rw [if_neg q, if_neg q]
      exact Or.inl ⟨rfl, fun _ => rfl⟩
  · have hf : ∀ k, zhf C u' k = 0 := fun k => by
      unfold zhf
      rw [p12, if_neg (show ¬ so = 0 by omega)]
      refine if_neg ?_
      rcases p8 with e | e | e | e | e | e | e | e <;> subst e
      · exact absurd (Or.inr rfl) c
      · exact fun q => by rcases q with q | q; exact absurd q (by decide); exact absurd q.1 (by decide)
      · exact fun q => by rcases q with q | q; exact absurd q (by decide); exact absurd q.1 (by decide)
      · exact fun q => by rcases q with q | q; exact absurd q (by decide); exact absurd q.1 (by decide)
      · exact fun q => by rcases q with q | q; exact absurd q (by decide); exact absurd q.1 (by decide)
      · exact fun q => by rcases q with q | q; exact absurd q (by decide); exact absurd q.1 (by decide)
      · exact fun q => by rcases q with q | q; exact absurd q (by decide); exact absurd q.1 (by decide)
      · exact absurd (Or.inl rfl) c
    refine ⟨fun k hk => Or.inl ⟨?_, fun _ => hf k⟩, fun k _ q => absurd (hf k) q⟩
    rw [zgr_pr hT p3 p4 hso p7 p9 hk, if_neg (fun q => by rcases q with q | q; exact c (Or.inl q); exact c (Or.inr q.1))]
/-- a pair is kept -/
theorem zPr.keep (hD : zDok D) (hT : zTy C M K F ρ α π) {u : Nat} (h : zPr w K F ρ D C M (u + 1) t) (hK : zKp C C' u) (hK' : zKm M M' t) (hR : ∀ k h' t', k < zgz M t → zgr M t k = t' + 1 → D h' t' → D' h' t') : zPr w K F ρ D' C' M' (u + 1) t := by
  obtain ⟨u', so, cl, n, p1, p2, p3, p4, p5, p6, p7, p8, p9, p10, p11, p12, p13, p14⟩ := h
  have : u' = u := by omega
  subst this
  have hso : so ≤ 12 := by omega
  have hz : zgz M t = n := by unfold zgz; rw [p5, zN_nat (by omega)]
  have hw2 := zwd_sz so n
  obtain ⟨k1, k2⟩ := hK
  obtain ⟨m1, m2, m3, m4⟩ := hK'
  have hw3 : ∀ k, k < n → (so = 12 ∨ so = 0 ∨ so = 10) → 2 + k < zhW C u' := fun k hk q => by
    rw [p11]; unfold zwd; rw [if_neg (by omega), if_neg (by omega), if_neg (by omega)]; omega
  have kk : ∀ j, 2 + j < zhW C u' → C'.1 17 (zha C' u' + 2 + j) = C.1 17 (zha C u' + 2 + j) := fun j hj => by
    have := k2 (2 + j) hj
    rw [show zha C' u' + 2 + j = zha C' u' + (2 + j) by omega, show zha C u' + 2 + j = zha C u' + (2 + j) by omega]
    exact this
  refine ⟨u', so, cl, n, rfl, p2, m2.trans p3, m1.trans p4, m3.trans p5, p6, p7, p8, p9, p10, k1.trans p11, ?_, ?_, fun k hk => ?_⟩
  · have := k2 0 (by omega)
    unfold zht
    rw [show zha C' u' = zha C' u' + 0 from rfl, this]
    exact p12
  · rw [k2 1 (by omega)]; exact p13
  · have hc := p14 k hk
    rw [m4 k (by omega)]
    by_cases q : so = 12 ∨ so = 0 ∧ (ρ cl).testBit k = true
    · rw [if_pos q] at hc ⊢
      rw [kk k (hw3 k hk (by omega))]
      rcases hc with hc | ⟨h', t', e1, e2, e3⟩
      · exact Or.inl hc
      · refine Or.inr ⟨h', t', hR k h' t' (by omega) ?_ e1, e2, e3⟩
        have := hD.1 h' t' e1
        rw [zgr_pr hT p3 p4 hso p7 p9 hk, if_pos q, e3, zN8_nat (by omega)]
    · rw [if_neg q] at hc ⊢
      rw [hc]
      unfold zel
      unfold zwd at p11
      by_cases c1 : so = 4 ∨ so = 8
      · rw [if_pos c1] at p11 ⊢
        rw [if_pos c1]
        simp only [kk (k / 4) (by omega)]
      · rw [if_neg c1] at p11 ⊢
        rw [if_neg c1]
        by_cases c2 : so = 5
        · rw [if_pos (Or.inl c2)] at p11
          rw [if_pos c2, if_pos c2]
          simp only [kk (k / 2) (by omega)]
        · by_cases c3 : so = 9
          · rw [if_pos (Or.inr c3)] at p11
            rw [if_neg c2, if_neg c2, if_pos c3, if_pos c3]
            simp only [kk (k / 2) (by omega)]
          · rw [if_neg (by omega)] at p11
            rw [if_neg c2, if_neg c2, if_neg c3, if_neg c3]
            by_cases c4 : so = 11
            · rw [if_pos c4] at p11
              rw [if_pos c4, if_pos c4]
              simp only [kk (2 * k) (by omega), kk (2 * k + 1) (by omega)]
            · rw [if_neg c4] at p11
              rw [if_neg c4, if_neg c4]
              simp only [kk k (by omega)]
/-- both searches find the same -/
theorem zp_same {n : Nat} {rtM rtC : Nat → Prop} {rfM rfC : Nat → Nat → Nat} {szM szC : Nat → Nat} {WM WC : Nat → Nat} {σm σc : zS} {am ac : Nat} (hD : zDok D) (hM : zFi 201 WM rtM rfM szM σm am) (hC : zFi n WC rtC rfC szC σc ac)
    (r1 : ∀ t, rtM t → ∃ u, D (u + 1) t ∧ rtC u) (r2 : ∀ u, rtC u → ∃ t, D (u + 1) t ∧ rtM t)
    (s1 : ∀ u t k v, D (u + 1) t → k < szM t → rfM t k = v + 1 → ∃ u', D (u' + 1) v ∧ ∃ k', k' < szC u ∧ rfC u k' = u' + 1)
    (s2 : ∀ u t k v, D (u + 1) t → k < szC u → rfC u k = v + 1 → ∃ t', D (v + 1) t' ∧ ∃ k', k' < szM t ∧ rfM t k' = t' + 1)
    (hW : ∀ u t, D (u + 1) t → WC u = WM t) :
    (∀ u t, D (u + 1) t → (σm.1 t = true ↔ σc.1 u = true)) ∧ (∀ t, σm.1 t = true → ∃ u, D (u + 1) t) ∧ (∀ u, σc.1 u = true → ∃ t, D (u + 1) t) ∧ am = ac := by
  obtain ⟨m1, m2, m3, m4⟩ := hM
  obtain ⟨c1, c2, c3, c4⟩ := hC
  have A : ∀ t, σm.1 t = true → ∃ u, D (u + 1) t ∧ σc.1 u = true := fun t ht => (m3 t ht).2 (fun t => ∃ u, D (u + 1) t ∧ σc.1 u = true) (fun t h => by
    obtain ⟨u, h1, h2⟩ := r1 t h
    exact ⟨u, h1, c1 u h2⟩) fun t ⟨u, h1, h2⟩ k v hk hv => by
    obtain ⟨u', g1, k', g2, g3⟩ := s1 u t k v h1 hk hv
    exact ⟨u', g1, c2 u h2 k' u' g2 g3⟩
  have B : ∀ u, σc.1 u = true → ∃ t, D (u + 1) t ∧ σm.1 t = true := fun u hu => (c3 u hu).2 (fun u => ∃ t, D (u + 1) t ∧ σm.1 t = true) (fun u h => by
    obtain ⟨t, h1, h2⟩ := r2 u h
    exact ⟨t, h1, m1 t h2⟩) fun u ⟨t, h1, h2⟩ k v hk hv => by
    obtain ⟨t', g1, k', g2, g3⟩ := s2 u t k v h1 hk hv
    exact ⟨t', g1, m2 t h2 k' t' g2 g3⟩
  refine ⟨fun u t hd => ⟨fun h => ?_, fun h => ?_⟩, fun t h => ?_, fun u h => ?_, ?_⟩
  · obtain ⟨u', h1, h2⟩ := A t h
    have := hD.2.2 _ _ _ h1 hd
    rw [show u = u' by omega]
    exact h2
  · obtain ⟨t', h1, h2⟩ := B u h
    rw [hD.2.1 _ _ _ hd h1]
    exact h2
  · obtain ⟨u, h1, _⟩ := A t h
    exact ⟨u, h1⟩
  · obtain ⟨t, h1, _⟩ := B u h
    exact ⟨t, h1⟩
  · rw [m4, c4]
    refine zs_bij (B := fun t u => D (u + 1) t) (fun t u u' h1 h2 => by have := hD.2.2 _ _ _ h1 h2; omega) (fun t t' u h1 h2 => hD.2.1 _ _ _ h1 h2) (fun t ht h0 => ?_) fun u hu h0 => ?_
    · have h1 : σm.1 t = true := by
        by_cases e : σm.1 t = true
        · exact e
        · exact absurd (if_neg e) h0
      obtain ⟨u, g1, g2⟩ := A t h1
      refine ⟨u, (c3 u g2).1, g1, ?_⟩
      show (if σc.1 u = true then WC u else 0) = if σm.1 t = true then WM t else 0
      rw [if_pos g2, if_pos h1, hW u t g1]
    · have h1 : σc.1 u = true := by
        by_cases e : σc.1 u = true
        · exact e
        · exact absurd (if_neg e) h0
      obtain ⟨t, g1, g2⟩ := B u h1
      refine ⟨t, (m3 t g2).1, g1, ?_⟩
      show (if σm.1 t = true then WM t else 0) = if σc.1 u = true then WC u else 0
      rw [if_pos g2, if_pos h1, hW u t g1]
end ZPA
