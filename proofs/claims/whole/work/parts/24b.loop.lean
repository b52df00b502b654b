/-! ===== the law's loop ===== -/
section ZLP
variable {N w b t : Nat} {C C' : zC} {M M' : zM} {r : zv_X}
theorem zva_lt {D : zv_D} {a : Nat} {e : zv_C} {H : Heap} (h : va_at D.1 zv_cl (a, zv_e D.2 e) H) : a < H.size := by
  cases e with
  | inl x =>
    have h' : H[a]? = some (vp_cell (D.2 x.1) x.2) := h
    exact (Array.getElem?_eq_some_iff.mp h').1
  | inr o =>
    obtain ⟨q, _, cell, h1, _⟩ := (show ∃ q : vw_C, zv_cl[o.1]? = some q ∧ t_OB a (D.1.1 o.1) q.2.2 (D.1.2 o.1) H (vp_V o.2) from h)
    exact (Array.getElem?_eq_some_iff.mp h1).1
/-- no memory is such -/
theorem zv_vac {f : zv_G} {pc : Nat} {L : List (Nat × Value)} {st : List Value} {x : zv_X} {q : Nat} {e : zv_C} (hle : zv_Le x f.2.2.2.2.2.2.2.1) (hq : x.2.1 ≤ q) (he : x.1 q = some e) : zv_V f pc L st x := by
  refine ⟨hle, fun h0 D p l e s m args below meth c H locs ls hF hl hP hS => ?_⟩
  have h1 := zva_lt (hP.2 q _ he)
  have h2 := hP.1
  omega
theorem zHC.det {mC : zv_X → Option (zv_X × (Int32 ⊕ String))} {C1 C2 : zC} {r1 r2 : zv_X} {u v : Int32 ⊕ String} (h1 : zHC w b mC C r (fun x => (x, u)) C1 r1) (h2 : zHC w b mC C r (fun x => (x, v)) C2 r2) : u = v := by
  have e := (h1 (fun _ _ => 0, fun _ _ => 0)).symm.trans (h2 (fun _ _ => 0, fun _ _ => 0))
  injection e with e
  injection e
/-- the answer is put into the law's array before the reference is asked -/
theorem zq_put {mC : zv_X → Option (zv_X × (Int32 ⊕ String))} {mM : zv_X → Option (zv_X × Int32)} {cd : String → Int32 → Prop} (h : ∀ M : zM, zTI w b t C M r → zBo w b t mC mM cd C M r) (hT : zTI w b t C M r) :
    (∃ (C' : zC) (M' : zM) (r' : zv_X) (v : Int32), zHC w b mC C r (fun x => (x, .inl v)) C' r' ∧ zHM w b mM (zK M 99 0 v.toInt64) (fun x => (x, v)) M' ∧ M'.1 100 0 = 0 ∧ M'.2 99 0 = v.toInt64 ∧ zRg b r r' ∧ zTI w b (t + 1) C' M' r') ∨
    ∃ (E : String) (v : Int32), zHC w b mC C r (fun x => (x, .inr E)) C (zv_pad r) ∧ zHM w b mM M (fun x => (x, 0)) (zJ M 100 0 v) ∧ cd E v := by
  rcases h M hT with ⟨C1, M1, r1, v1, a1, _⟩ | h2
  · rcases h (zK M 99 0 v1.toInt64) (hT.out _) with ⟨C2, M2, r2, v2, c1, c2, c3, c4, c5, c6⟩ | ⟨E, v, c1, _⟩
    · have := a1.det c1
      injection this with this
      subst this
      exact Or.inl ⟨C2, M2, r2, v1, c1, c2, c3, c4.trans (by rw [zK2, if_pos ⟨rfl, rfl⟩]), c5, c6⟩
    · exact absurd (a1.det c1) (fun e => by cases e)
  · exact Or.inr h2
end ZLP
section ZLQ
variable {N b L n0 i t w : Nat} {xs : Nat → Int32} {e0 : Nat × Nat} {C : zC} {M : zM} {r : zv_X}
theorem zar0 {B c d : Nat} (g : B ≤ c + d) : B + 261 ≤ c + (d + 300) := by omega
theorem zar1 {A B t : Nat} (h : A ≤ B + 261) (g : B ≤ 30000 + 300 * t) : A ≤ 30000 + 300 * (t + 1) := by
  rw [Nat.mul_add]
  exact Nat.le_trans h (zar0 g)
theorem zar2 {A B t : Nat} (h : A ≤ B + 261) (g : B ≤ 30000 + 300 * t) (ht : t ≤ 600) : A ≤ 7293000 := by omega
theorem zar3 {A B n0 sz t : Nat} (h1 : sz ≤ A) (h2 : A ≤ B + 4) (g : B ≤ n0 + 113 + 5 * t) : sz ≤ n0 + 113 + 5 * (t + 1) := by omega
theorem zar4 {A B n0 sz t : Nat} (h1 : sz ≤ A) (h2 : A ≤ B + 4) (g : B ≤ n0 + 113 + 5 * t) (ht : t ≤ 600) : sz ≤ n0 + 601024 := by omega
theorem zar5 {B n0 t : Nat} (g : B ≤ n0 + 113 + 5 * t) (ht : t ≤ 600) : B ≤ n0 + 601024 := by omega
theorem zar6 {B t : Nat} (g : B ≤ 30000 + 300 * t) (ht : t ≤ 600) : B ≤ 7293000 := by omega
theorem zar7 {B n0 t : Nat} (g : B ≤ n0 + 113 + 5 * t) : B ≤ n0 + 113 + 5 * (t + 1) := by omega
theorem zar8 {B t : Nat} (g : B ≤ 30000 + 300 * t) : B ≤ 30000 + 300 * (t + 1) := by omega
/-- what is owed behind a call -/
def zKo (b L n0 i t w : Nat) (xs : Nat → Int32) (e0 : Nat × Nat) : Prop := ∀ (C' : zC) (M' : zM) (r' : zv_X), zTI w n0 (t + 1) C' M' r' → zRr n0 r' → r'.2.1 ≤ n0 + 113 + 5 * (t + 1) → r'.2.2.1 ≤ 30000 + 300 * (t + 1) → r'.2.2.2 = e0 → zv_V (zlf b L n0 xs e0) 719 [(0, .ref b), (1, .ref (n0 + 0)), (2, .ref (n0 + 75)), (3, .ref (n0 + 112)), (4, .int (Int32.ofNat i))] [] (zc w n0 C' M' r')
theorem zko_sz {C' : zC} {M' : zM} {r' : zv_X} {sz : Nat} (hk : zKo b L n0 i t w xs e0) (ht : t ≤ 600) (hT : zTI w n0 (t + 1) C' M' r') (hr : zRr n0 r) (h1 : r.2.1 ≤ sz) (h2 : sz ≤ r'.2.1) (h3 : r'.2.1 ≤ r.2.1 + 4) (h4 : r'.2.2.1 ≤ r.2.2.1 + 261) (h5 : r'.2.2.2 = r.2.2.2) (g1 : r.2.1 ≤ n0 + 113 + 5 * t) (g2 : r.2.2.1 ≤ 30000 + 300 * t) (g3 : r.2.2.2 = e0) : zv_V (zlf b L n0 xs e0) 719 [(0, .ref b), (1, .ref (n0 + 0)), (2, .ref (n0 + 75)), (3, .ref (n0 + 112)), (4, .int (Int32.ofNat i))] [] (zc w n0 C' M' (zv_sz r' sz)) := by
  have hb : n0 + 113 ≤ sz := Nat.le_trans hr.1 h1
  by_cases c : ∀ q, sz ≤ q → r'.1 q = none
  · have q1 : sz ≤ n0 + 113 + 5 * (t + 1) := zar3 h2 h3 g1
    have q2 : r'.2.2.1 ≤ 30000 + 300 * (t + 1) := zar1 h4 g2
    have q3 : r'.2.2.2.1 < n0 := by rw [h5]; exact hr.2.1
    exact hk C' M' (zv_sz r' sz) hT.sz ⟨hb, q3, c⟩ q1 q2 (h5.trans g3)
  · obtain ⟨q, hq⟩ := Classical.not_forall.mp c
    have hq1 : sz ≤ q := Classical.byContradiction fun e => hq fun e' => absurd e' e
    have hq2 : r'.1 q ≠ none := fun e => hq fun _ => e
    obtain ⟨e, he⟩ := Option.ne_none_iff_exists'.mp hq2
    refine zv_vac (q := q) (e := e) ⟨zar4 h2 h3 g1 ht, zar2 h4 g2 ht, h5.trans g3, fun q h => absurd rfl h⟩ hq1 ?_
    rw [zc_o' (by omega)]
    exact he
/-- the law's helper and the reference agree -/
theorem zko_call {mC : zv_X → Option (zv_X × (Int32 ⊕ String))} {mM : zv_X → Option (zv_X × Int32)} {cd : String → Int32 → Prop} {mL : zv_X → Option (zv_X × Int32)} (hk : zKo b L n0 i t w xs e0) (ht : t ≤ 600) (hT : zTI w n0 t C M r) (hr : zRr n0 r) (g1 : r.2.1 ≤ n0 + 113 + 5 * t) (g2 : r.2.2.1 ≤ 30000 + 300 * t) (g3 : r.2.2.2 = e0) (hP : ∀ M : zM, zTI w n0 t C M r → zBo w n0 t mC mM cd C M r)
    (hn : ∀ x x' v, zm_k x (n0 + 0) 8 = true → mC x = some (x', .inl v) → mL x = (zm_sL x' (n0 + 112) 0 v.toInt64).bind fun x2 => some (x2, 0)) (hx : ∀ x x' E v, zm_k x (n0 + 0) 8 = true → mC x = some (x', .inr E) → cd E v → mL x = some (x', v)) (hc : ∀ E v, cd E v → v ≠ 0) :
    ∃ r1 : zv_X × Int32, mL (zc w n0 C M r) = some r1 ∧ ∀ sz, (zc w n0 C M r).2.1 ≤ sz → sz ≤ r1.1.2.1 → ∃ r2 : zv_X × Int32, zm_k (zv_sz r1.1 sz) (n0 + 75) 9 = true ∧ mM (zv_sz r1.1 sz) = some r2 ∧ zm_k r2.1 (n0 + 75) 9 = true ∧ mX9_thrown N (n0 + 75) r2.1 = some (r2.1, r1.2) ∧ (r1.2 = 0 → zm_aL r2.1 (n0 + 112) 0 = some r2.2.toInt64) ∧ zv_V (zlf b L n0 xs e0) 719 [(0, .ref b), (1, .ref (n0 + 0)), (2, .ref (n0 + 75)), (3, .ref (n0 + 112)), (4, .int (Int32.ofNat i))] [] r2.1 := by
  have th : ∀ (C : zC) (M : zM) (r : zv_X), mX9_thrown N (n0 + 75) (zc w n0 C M r) = some (zc w n0 C M r, M.1 100 0) := fun C M r => by
    unfold mX9_thrown mX9_thrown_0
    rw [zqg_75_0, Option.bind_some]
  rcases zq_put hP hT with ⟨C', M', r', v, a1, a2, a3, a4, ⟨a5, a6, a7, a8, a9⟩, a10⟩ | ⟨E, v, a1, a2, a3⟩
  · have e1 : zm_sL (zc w n0 C' M r') (n0 + 112) 0 v.toInt64 = some (zc w n0 C' (zK M 99 0 v.toInt64) r') := zqs_112
    refine ⟨(zc w n0 C' (zK M 99 0 v.toInt64) r', 0), ?_, fun sz s1 s2 => ⟨(zc w n0 C' M' (zv_sz r' sz), v), zqk_75, a2 C' (zv_sz r' sz), zqk_75, ?_, fun _ => ?_, ?_⟩⟩
    · rw [hn _ _ _ zqk_0 (a1 M), e1, Option.bind_some]
    · dsimp only
      rw [th, a3]
    · dsimp only
      have := zqa_112 (w := w) (b := n0) (C := C') (M := M') (r := zv_sz r' sz)
      rw [a4] at this
      exact this
    · exact zko_sz hk ht a10 hr s1 s2 a7 a8 a9 g1 g2 g3
  · refine ⟨(zc w n0 C M (zv_pad r), v), hx _ _ _ _ zqk_0 (a1 M) a3, fun sz s1 s2 => ⟨(zc w n0 C (zJ M 100 0 v) (zv_sz (zv_pad r) sz), 0), zqk_75, a2 C (zv_sz (zv_pad r) sz), zqk_75, ?_, fun e => absurd e (hc E v a3), ?_⟩⟩
    · dsimp only
      rw [th]
      rfl
    · have hT2 : zTI w n0 (t + 1) C (zJ M 100 0 v) (zv_pad r) := hT.pad.ref (fun o k e => by rw [zJ1, if_neg e]) (fun _ => rfl)
      exact zko_sz hk ht hT2 hr s1 s2 (by show r.2.1 + 1 ≤ r.2.1 + 4; omega) (by show r.2.2.1 + 6 ≤ r.2.2.1 + 261; omega) rfl g1 g2 g3
/-- one turn of the loop -/
theorem zt_turn (hN : 20002 < N) (hw : w ≤ 400) (hL : L ≤ 3585) (hi : i ≤ 4000) (ht : t ≤ 600) (hT : zTI w n0 t C M r) (hr : zRr n0 r) (g1 : r.2.1 ≤ n0 + 113 + 5 * t) (g2 : r.2.2.1 ≤ 30000 + 300 * t) (g3 : r.2.2.2 = e0) (hk : i + 7 ≤ L → zKo b L n0 i t w xs e0) : zv_V (zlf b L n0 xs e0) 33 [(0, .ref b), (1, .ref (n0 + 0)), (2, .ref (n0 + 75)), (3, .ref (n0 + 112)), (4, .int (Int32.ofNat i))] [] (zc w n0 C M r) := by
  have one2 : ∀ {E : String} {v : Int32}, (E = "java/lang/IllegalArgumentException" ∧ v = 1 ∨ E = "java/lang/UnsupportedOperationException" ∧ v = 2) → v ≠ 0 := fun {E v} h => by
    rcases h with ⟨_, rfl⟩ | ⟨_, rfl⟩ <;> decide
  have plain : ∀ (M' : zM), (∀ o k, ¬ (o = 100 ∧ k = 0) → M'.1 o k = M.1 o k) → (∀ k, M'.2 100 k = M.2 100 k) → i + 7 ≤ L → zv_V (zlf b L n0 xs e0) 719 [(0, .ref b), (1, .ref (n0 + 0)), (2, .ref (n0 + 75)), (3, .ref (n0 + 112)), (4, .int (Int32.ofNat i))] [] (zc w n0 C M' r) := fun M' h1 h2 hl => hk hl C M' r (hT.ref h1 h2) hr (zar7 g1) (zar8 g2) g3
  refine zl_head (N := N) hL hi ⟨zar5 g1 ht, zar6 g2 ht, g3, fun q h => absurd rfl h⟩ (fun hl => ⟨fun _ => ?_, fun _ => ?_, fun _ => ?_, fun _ => ?_, fun _ => ?_, fun _ => ?_, fun _ => ?_, fun _ => ?_⟩)
  · obtain ⟨r1, k1, k2⟩ := zko_call (N := N) (mL := mL_feed N (n0 + 0) (xs (i + 1)) (xs (i + 2)) (xs (i + 3)) (xs (i + 4)) (xs (i + 5)) (xs (i + 6)) (n0 + 112)) (hk hl) ht hT hr g1 g2 g3 (fun M h => zq_feed (N := N) (by omega) h hr (xs (i + 1)) (xs (i + 2)) (xs (i + 3)) (xs (i + 4)) (xs (i + 5)) (xs (i + 6))) (fun x x' v h1 h2 => by unfold mL_feed; rw [if_pos h1, h2, Option.bind_some]) (fun x x' E v h1 h2 h3 => by
      unfold mL_feed
      rw [if_pos h1, h2, Option.bind_some]
      dsimp only
      rcases h3 with ⟨rfl, rfl⟩ | ⟨rfl, rfl⟩
      · rw [if_pos rfl]
      · rw [if_neg (by decide), if_pos rfl]) (fun E v h => one2 h)
    exact zl_feed hL hl k1 k2
  · obtain ⟨r1, k1, k2⟩ := zko_call (N := N) (mL := mL_type N (n0 + 0) (xs (i + 1)) (xs (i + 2)) (xs (i + 3)) (n0 + 112)) (hk hl) ht hT hr g1 g2 g3 (fun M h => zq_type (N := N) (by omega) h hr (xs (i + 1)) (xs (i + 2)) (xs (i + 3))) (fun x x' v h1 h2 => by unfold mL_type; rw [if_pos h1, h2, Option.bind_some]) (fun x x' E v h1 h2 h3 => by
      unfold mL_type
      rw [if_pos h1, h2, Option.bind_some]
      dsimp only
      rcases h3 with ⟨rfl, rfl⟩ | ⟨rfl, rfl⟩ | ⟨rfl, rfl⟩
      · rw [if_pos rfl]
      · rw [if_neg (by decide), if_pos rfl]
      · rw [if_neg (by decide), if_neg (by decide), if_pos rfl]) (fun E v h => by rcases h with ⟨_, rfl⟩ | ⟨_, rfl⟩ | ⟨_, rfl⟩ <;> decide)
    exact zl_type hL hl k1 k2
  · obtain ⟨r1, k1, k2⟩ := zko_call (N := N) (mL := mL_handler N (n0 + 0) (xs (i + 1)) (xs (i + 2)) (xs (i + 3)) (xs (i + 4)) (n0 + 112)) (hk hl) ht hT hr g1 g2 g3 (fun M h => zq_handler (N := N) h hr (xs (i + 1)) (xs (i + 2)) (xs (i + 3)) (xs (i + 4))) (fun x x' v h1 h2 => by unfold mL_handler; rw [if_pos h1, h2, Option.bind_some]) (fun x x' E v h1 h2 h3 => by
      unfold mL_handler
      rw [if_pos h1, h2, Option.bind_some]
      dsimp only
      rcases h3 with ⟨rfl, rfl⟩ | ⟨rfl, rfl⟩
      · rw [if_pos rfl]
      · rw [if_neg (by decide), if_pos rfl]) (fun E v h => one2 h)
    exact zl_handler hL hl k1 k2
  · obtain ⟨r1, k1, k2⟩ := zko_call (N := N) (mL := mL_method N (n0 + 0) (xs (i + 1)) (xs (i + 2)) (xs (i + 3)) (xs (i + 4)) (n0 + 112)) (hk hl) ht hT hr g1 g2 g3 (fun M h => zq_method (N := N) (by omega) h hr (xs (i + 1)) (xs (i + 2)) (xs (i + 3)) (xs (i + 4))) (fun x x' v h1 h2 => by unfold mL_method; rw [if_pos h1, h2, Option.bind_some]) (fun x x' E v h1 h2 h3 => by
      unfold mL_method
      rw [if_pos h1, h2, Option.bind_some]
      dsimp only
      rcases h3 with ⟨rfl, rfl⟩ | ⟨rfl, rfl⟩
      · rw [if_pos rfl]
      · rw [if_neg (by decide), if_pos rfl]) (fun E v h => one2 h)
    exact zl_method hL hl k1 k2
  · obtain ⟨r1, k1, k2⟩ := zko_call (N := N) (mL := mL_run N (n0 + 0) (xs (i + 1)) (((Int32.toInt64 (xs (i + 2))) <<< (Int32.toInt64 (32 : Int32) &&& 63)) ||| ((Int32.toInt64 (xs (i + 3))) &&& (4294967295 : Int64))) (((Int32.toInt64 (xs (i + 4))) <<< (Int32.toInt64 (32 : Int32) &&& 63)) ||| ((Int32.toInt64 (xs (i + 5))) &&& (4294967295 : Int64))) (xs (i + 6)) (n0 + 112)) (hk hl) ht hT hr g1 g2 g3 (fun M h => zq_run (N := N) hN hw ht h hr (xs (i + 1)) _ _ (xs (i + 6))) (fun x x' v h1 h2 => by unfold mL_run; rw [if_pos h1, h2, Option.bind_some]) (fun x x' E v h1 h2 h3 => by
      unfold mL_run
      rw [if_pos h1, h2, Option.bind_some]
      dsimp only
      rcases h3 with ⟨rfl, rfl⟩ | ⟨rfl, rfl⟩
      · rw [if_pos rfl]
      · rw [if_neg (by decide), if_pos rfl]) (fun E v h => by rcases h with ⟨_, rfl⟩ | ⟨_, rfl⟩ <;> decide)
    exact zl_run hL hl k1 k2
  · have hRs : zRs C M := by obtain ⟨K, F, ρ, α, π, n, c, h, hs, Q, S, b1, b2, b3, b4, b5, b6, b7⟩ := hT; exact b6
    obtain ⟨q1, q2⟩ := zp_result (N := N) (w := w) (b := n0) (r := r) hRs
    exact zl_result (N := N) zqk_0 (q1 M) zqk_75 (q2 C r) (plain (zJ M 100 0 0) (fun o k e => by rw [zJ1, if_neg e]) (fun _ => rfl) hl)
  · have hRs : zRs C M := by obtain ⟨K, F, ρ, α, π, n, c, h, hs, Q, S, b1, b2, b3, b4, b5, b6, b7⟩ := hT; exact b6
    obtain ⟨q1, q2⟩ := zp_steps (N := N) (w := w) (b := n0) (r := r) hRs
    exact zl_steps (N := N) zqk_0 (q1 M) zqk_75 (q2 C r) (plain (zJ M 100 0 0) (fun o k e => by rw [zJ1, if_neg e]) (fun _ => rfl) hl)
  · obtain ⟨r1, k1, k2⟩ := zko_call (N := N) (mL := mL_count N (n0 + 0) (xs (i + 1)) (n0 + 112)) (hk hl) ht hT hr g1 g2 g3 (fun M h => zq_count (N := N) h hr (xs (i + 1))) (fun x x' v h1 h2 => by unfold mL_count; rw [if_pos h1, h2, Option.bind_some]) (fun x x' E v h1 h2 h3 => by
      unfold mL_count
      rw [if_pos h1, h2, Option.bind_some]
      dsimp only
      obtain ⟨rfl, rfl⟩ := h3
      rw [if_pos rfl]) (fun E v h => by obtain ⟨_, rfl⟩ := h; decide)
    exact zl_count hL hl k1 k2
/-- the loop -/
theorem zt_loop (hN : 20002 < N) (hw : w ≤ 400) (hL : L ≤ 3585) : ∀ (m i t : Nat) (C : zC) (M : zM) (r : zv_X), L ≤ i + 7 * m → i = 7 * t + 1 → i ≤ 3585 → zTI w n0 t C M r → zRr n0 r → r.2.1 ≤ n0 + 113 + 5 * t → r.2.2.1 ≤ 30000 + 300 * t → r.2.2.2 = e0 → zv_V (zlf b L n0 xs e0) 33 [(0, .ref b), (1, .ref (n0 + 0)), (2, .ref (n0 + 75)), (3, .ref (n0 + 112)), (4, .int (Int32.ofNat i))] [] (zc w n0 C M r)
  | 0, i, t, C, M, r, hm, hi, h35, hT, hr, g1, g2, g3 => zt_turn hN hw hL (by omega) (by omega) hT hr g1 g2 g3 (fun h => by omega)
  | m + 1, i, t, C, M, r, hm, hi, h35, hT, hr, g1, g2, g3 => zt_turn hN hw hL (by omega) (by omega) hT hr g1 g2 g3 (fun h C' M' r' k1 k2 k3 k4 k5 => zl_next (N := N) (zt_loop hN hw hL m (i + 7) (t + 1) C' M' r' (by omega) (by omega) (by omega) k1 k2 k3 k4 k5))
/-- the law's walk -/
theorem zt_all (b L n0 : Nat) (xs : Nat → Int32) (e0 : Nat × Nat) (hL : L ≤ 3585) (h0 : e0.1 < n0) : zv_V (zlf b L n0 xs e0) 0 [(0, .ref b)] [] (zl0 n0 e0) := by
  obtain ⟨w, x1, x2, C, M, r, w1, w2, t1, t2, t3, t4, t5, t6, t7, t8, t9, t10, t11, t12, t13, t14, t15, t16, t17⟩ := zb_start (N := 30000) (n0 := n0) (e0 := e0) (by omega) h0 (zl_c L xs)
  refine zl_in (N := 30000) hL t1 t3 t5 ?_
  rw [t2, t4]
  refine zt_loop (N := 30000) (by omega) w2 hL 600 1 0 C M r (by omega) rfl (by omega) ?_ t9 (by omega) (by omega) t8
  exact ⟨7, fun _ => 0, fun _ => 0, fun k => 1 ||| 2 ^ k, fun _ => 0, 0, fun _ => 0, 0, fun _ => 0, _, 0, t10, t11, t12, t13, by omega, t14, t15, t16, t17, fun _ _ => rfl, fun _ _ _ => ⟨Nat.le_refl _, fun _ _ => rfl⟩⟩
end ZLQ
