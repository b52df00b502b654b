/-! ===== method: memory behind the fixed cells; kinds of arguments; copies of the draft ===== -/
def zna (n : Nat) : Nat := if n % 4 = 0 then 0 else if n / 4 % 4 = 0 then 1 else if n / 16 % 4 = 0 then 2 else if n / 64 % 4 = 0 then 3 else 4
def zkd (n i : Nat) : Nat := n / 4 ^ i % 4
/-- nothing lies behind the heap's end; the empty array of the lists lies before everything -/
def zRr (b : Nat) (r : zv_X) : Prop := b + 113 ≤ r.2.1 ∧ r.2.2.2.1 < b ∧ ∀ q, r.2.1 ≤ q → r.1 q = none
theorem zna_tab : ∀ n, n < 256 → (zna n ≤ 4 ∧ zkd n (zna n) = 0 ∧ (∀ i, i < zna n → 1 ≤ zkd n i ∧ zkd n i ≤ 3) ∧ (Int32.ofNat n &&& (((1 : Int32) <<< (((2 : Int32) * Int32.ofNat (zna n)) &&& 31)) - 1)) = Int32.ofNat (zpk (zkd n) (zna n))) := by decide +kernel
section ZOU
variable {N w b n k : Nat} {C : zC} {M : zM} {r R : zv_X} {a : Nat} {e e' : zv_C}
theorem zkd_sh : (n >>> (2 * k)) &&& 3 = zkd n k := by
  have h := Nat.and_two_pow_sub_one_eq_mod (n >>> (2 * k)) 2
  rw [show (3 : Nat) = 2 ^ 2 - 1 from rfl, h, Nat.shiftRight_eq_div_pow, Nat.pow_mul]
  rfl
theorem zd_argsIn (hn : n < 256) (x : zv_X) : ∀ (c fuel k : Nat), k + c = 4 → c < fuel → k ≤ zna n → mX8_argumentsIn_2 N fuel (Int32.ofNat n) (Int32.ofNat k) x = some (x, Int32.ofNat (zna n))
  | 0, fuel, k, hk, hf, hz => by
    obtain ⟨fuel, rfl⟩ : ∃ g, fuel = g + 1 := ⟨fuel - 1, by omega⟩
    obtain ⟨z1, z2, z3, z4⟩ := zna_tab n hn
    unfold mX8_argumentsIn_2 mX8_argumentsIn_23
    rw [if_pos (show (4 : Int32) ≤ Int32.ofNat k by rw [zi_l4, zi_le (by omega) (by omega)]; omega), show k = zna n by omega]
  | c + 1, fuel, k, hk, hf, hz => by
    obtain ⟨fuel, rfl⟩ : ∃ g, fuel = g + 1 := ⟨fuel - 1, by omega⟩
    obtain ⟨z1, z2, z3, z4⟩ := zna_tab n hn
    have hd : zkd n k < 4 := Nat.mod_lt _ (by decide)
    have ed : (Int32.ofNat n >>> (((2 : Int32) * Int32.ofNat k) &&& 31)) &&& (3 : Int32) = Int32.ofNat (zkd n k) := by
      rw [zi_l2, zi_mul, show (31 : Int32) = Int32.ofNat 31 from rfl, zi_31 (by omega), zi_shr (by omega) (by omega), zi_l3, zi_and, zkd_sh]
    unfold mX8_argumentsIn_2 mX8_argumentsIn_23
    rw [if_neg (show ¬ (4 : Int32) ≤ Int32.ofNat k by rw [zi_l4, zi_le (by omega) (by omega)]; omega), ed]
    by_cases c0 : zkd n k = 0
    · rw [if_pos (by rw [c0]; rfl)]
      by_cases e : k = zna n
      · rw [e]
      · have := (z3 k (by omega)).1
        omega
    · rw [if_neg (by rw [zi_l0, zi_eq (by omega) (by omega)]; exact c0), zi_l1, zi_add]
      refine zd_argsIn hn x c fuel (k + 1) (by omega) (by omega) ?_
      by_cases e : k = zna n
      · rw [e] at c0; exact absurd z2 c0
      · omega
theorem zd_args (hN : 5 < N) (hn : n < 256) (x : zv_X) : mX8_argumentsIn N (Int32.ofNat n) x = some (x, Int32.ofNat (zna n)) := by
  unfold mX8_argumentsIn mX8_argumentsIn_0
  exact zd_argsIn hn x 4 N 0 (by omega) (by omega) (Nat.zero_le _)
theorem zc_nw (h : b + 113 ≤ r.2.1) : zv_nw (zc w b C M r) e n = zc w b C M (zv_nw r e n) := Prod.ext (funext fun q => by
  show (if q = r.2.1 then some e else if b ≤ q ∧ q < b + 113 then some (zcell w b C M (q - b)) else r.1 q) = if b ≤ q ∧ q < b + 113 then some (zcell w b C M (q - b)) else if q = r.2.1 then some e else r.1 q
  by_cases c : q = r.2.1
  · rw [if_pos c, if_neg (by omega), if_pos c]
  · rw [if_neg c, if_neg c]) rfl
theorem zc_sto (h : b + 113 ≤ a) : zv_st (zc w b C M r) a e = zc w b C M (zv_st r a e) := Prod.ext (funext fun q => by
  show (if q = a then some e else if b ≤ q ∧ q < b + 113 then some (zcell w b C M (q - b)) else r.1 q) = if b ≤ q ∧ q < b + 113 then some (zcell w b C M (q - b)) else if q = a then some e else r.1 q
  by_cases c : q = a
  · rw [if_pos c, if_neg (by omega), if_pos c]
  · rw [if_neg c, if_neg c]) rfl
theorem zst_at : (zv_st r a e).1 a = some e := if_pos rfl
theorem zst_ne {q : Nat} (h : q ≠ a) : (zv_st r a e).1 q = r.1 q := if_neg h
theorem znw_at : (zv_nw r e n).1 r.2.1 = some e := if_pos rfl
theorem znw_ne {q : Nat} (h : q ≠ r.2.1) : (zv_nw r e n).1 q = r.1 q := if_neg h
theorem zst_st : zv_st (zv_st r a e) a e' = zv_st r a e' := Prod.ext (funext fun q => by
  show (if q = a then some e' else if q = a then some e else r.1 q) = if q = a then some e' else r.1 q
  split <;> rfl) rfl
theorem zst_same (h : r.1 a = some e) : zv_st r a e = r := Prod.ext (funext fun q => by
  show (if q = a then some e else r.1 q) = r.1 q
  by_cases c : q = a
  · rw [if_pos c, c, h]
  · rw [if_neg c]) rfl
theorem zst_nw : zv_st (zv_nw r e n) r.2.1 e' = zv_nw r e' n := Prod.ext (funext fun q => by
  show (if q = r.2.1 then some e' else if q = r.2.1 then some e else r.1 q) = if q = r.2.1 then some e' else r.1 q
  split <;> rfl) rfl
theorem zc_o' (h : b + 113 ≤ a) : (zc w b C M r).1 a = r.1 a := zc_out (Or.inr h)
theorem zna_ok {t n : Nat} (hn : n ≤ 100000) (h : b + 113 ≤ r.2.1) : zm_na t (zc w b C M r) (Int32.ofNat n) = some (zc w b C M (zv_nw r (.inl (t, n, .inl fun _ => 0)) n)) := by
  unfold zm_na
  rw [zi_cl (by omega), if_neg (by rintro (h | h); exact absurd h (by rw [zi_nn (by omega)]; exact id); omega), zc_nw h]
theorem zi_min {x y : Nat} (hx : x < 2 ^ 31) (hy : y < 2 ^ 31) (h : y ≤ x) : zm_min (Int32.ofNat x) (Int32.ofNat y) = Int32.ofNat y := by
  unfold zm_min
  by_cases c : y < x
  · rw [if_pos (by rw [zi_lt hy hx]; exact c)]
  · rw [if_neg (by rw [zi_lt hy hx]; exact c), show x = y by omega]
theorem zcp_ok {t n0 n1 m : Nat} {g0 g : Nat → Int32} {x : zv_X} {a0 : Nat} (h0 : x.1 a0 = some (.inl (t, n0, .inl g0))) (h1 : x.1 a = some (.inl (t, n1, .inl g))) (ht : t = 0 ∨ t = 2) (hm : m < 2 ^ 31) (hm0 : m ≤ n0) (hm1 : m ≤ n1) (hf : ∀ i, i < m → zm_fits t (g0 i) = true) : zm_cp x a0 0 a 0 (Int32.ofNat m) = some (zv_st x a (.inl (t, n1, .inl (va_cpy g0 g 0 0 m)))) := by
  unfold zm_cp
  rw [h0, h1]
  dsimp only
  rw [zi_cl hm, show (0 : Int32).toNatClampNeg = 0 from rfl, if_pos ⟨⟨rfl, ht⟩, ⟨by decide, by decide, by rw [zi_nn hm]; exact id⟩, by omega, by omega, fun i hi => by rw [Nat.zero_add]; exact hf i hi⟩]
theorem zat_6' : (zc w b C M r).1 (b + 6) = some (.inl (2, 200, .inl (C.1 6))) := zat_6
theorem zat_7' : (zc w b C M r).1 (b + 7) = some (.inl (0, 32, .inl (C.1 7))) := zat_7
theorem zd_code (h2 : C.1 5 2 = Int32.ofNat n) (hn : n ≤ 200) (hf : ∀ i, i < n → zm_fits 2 (C.1 6 i) = true) (hr : b + 113 ≤ r.2.1) : ∃ f : Nat → Int32, (∀ M : zM, mX0_code N (b + 5) (zc w b C M r) = some (zc w b C M (zv_nw r (.inl (2, n, .inl f)) n), r.2.1)) ∧ ∀ i, i < n → f i = C.1 6 i := by
  by_cases c : n = 200
  · subst c
    refine ⟨C.1 6, fun M => ?_, fun i _ => rfl⟩
    have e1 : zm_cl 2 (zc w b C M r) (b + 6) = some (zc w b C M (zv_nw r (.inl (2, 200, .inl (C.1 6))) 200)) := by
      unfold zm_cl
      rw [zat_6']
      dsimp only
      rw [if_pos ⟨rfl, hf⟩, zc_nw hr]
    have e2 : zm_ka 2 (zc w b C M (zv_nw r (.inl (2, 200, .inl (C.1 6))) 200)) (zc w b C M r).2.1 = true := by
      show zm_ka 2 (zc w b C M (zv_nw r (.inl (2, 200, .inl (C.1 6))) 200)) r.2.1 = true
      unfold zm_ka
      rw [zc_o' hr, znw_at]
      rfl
    unfold mX0_code mX0_code_0 mJ7_copyOf_9075b mJ7_copyOf_9075b_0
    rw [zqg_5_0, Option.bind_some, zqg_5_2, Option.bind_some, h2, zqn_6, Option.bind_some, if_pos rfl, e1, Option.bind_some]
    rw [if_pos e2]
    rfl
  · refine ⟨va_cpy (C.1 6) (fun _ => 0) 0 0 n, fun M => ?_, fun i hi => ?_⟩
    · have e1 := zcp_ok (x := zc w b C M (zv_nw r (.inl (2, n, .inl fun _ => 0)) n)) (a0 := b + 6) (a := r.2.1) (m := n) zat_6' ((zc_o' hr).trans znw_at) (Or.inr rfl) (by omega) hn (Nat.le_refl n) hf
      rw [zc_sto hr, zst_nw] at e1
      unfold mX0_code mX0_code_0 mJ7_copyOf_9075b mJ7_copyOf_9075b_0
      rw [zqg_5_0, Option.bind_some, zqg_5_2, Option.bind_some, h2, zqn_6, Option.bind_some, if_neg (by rw [zi_eq (by omega) (by omega)]; exact c), zna_ok (by omega) hr, Option.bind_some, zqn_6, Option.bind_some, zi_min (by omega) (by omega) hn]
      show ((zm_cp (zc w b C M (zv_nw r (.inl (2, n, .inl fun _ => 0)) n)) (b + 6) 0 r.2.1 0 (Int32.ofNat n)).bind _).bind _ = _
      rw [e1]
      rfl
    · show (if 0 ≤ i ∧ i < 0 + n then C.1 6 (0 + (i - 0)) else 0) = C.1 6 i
      rw [if_pos ⟨Nat.zero_le i, by omega⟩, show 0 + (i - 0) = i by omega]
theorem zd_rows (h2 : C.1 5 3 = Int32.ofNat n) (hn : n ≤ 8) (hr : b + 113 ≤ r.2.1) : ∃ f : Nat → Int32, (∀ M : zM, mX0_handlerRows N (b + 5) (zc w b C M r) = some (zc w b C M (zv_nw r (.inl (0, 4 * n, .inl f)) (4 * n)), r.2.1)) ∧ ∀ i, i < 4 * n → f i = C.1 7 i := by
  have hf : ∀ m i, i < m → zm_fits 0 (C.1 7 i) = true := fun m i _ => rfl
  have e4 : Int32.ofNat n * (4 : Int32) = Int32.ofNat (4 * n) := by rw [zi_l4, zi_mul, Nat.mul_comm]
  by_cases c : n = 8
  · subst c
    refine ⟨C.1 7, fun M => ?_, fun i _ => rfl⟩
    have e1 : zm_cl 0 (zc w b C M r) (b + 7) = some (zc w b C M (zv_nw r (.inl (0, 32, .inl (C.1 7))) 32)) := by
      unfold zm_cl
      rw [zat_7']
      dsimp only
      rw [if_pos ⟨rfl, hf 32⟩, zc_nw hr]
    have e2 : zm_ka 0 (zc w b C M (zv_nw r (.inl (0, 32, .inl (C.1 7))) 32)) (zc w b C M r).2.1 = true := by
      show zm_ka 0 (zc w b C M (zv_nw r (.inl (0, 32, .inl (C.1 7))) 32)) r.2.1 = true
      unfold zm_ka
      rw [zc_o' hr, znw_at]
      rfl
    unfold mX0_handlerRows mX0_handlerRows_0 mJ7_copyOf_59c91 mJ7_copyOf_59c91_0
    rw [zqg_5_1, Option.bind_some, zqg_5_3, Option.bind_some, h2, e4, zqn_7, Option.bind_some, if_pos rfl, e1, Option.bind_some]
    rw [if_pos e2]
    rfl
  · refine ⟨va_cpy (C.1 7) (fun _ => 0) 0 0 (4 * n), fun M => ?_, fun i hi => ?_⟩
    · have e1 := zcp_ok (x := zc w b C M (zv_nw r (.inl (0, 4 * n, .inl fun _ => 0)) (4 * n))) (a0 := b + 7) (a := r.2.1) (m := 4 * n) zat_7' ((zc_o' hr).trans znw_at) (Or.inl rfl) (by omega) (by omega) (Nat.le_refl (4 * n)) (hf _)
      rw [zc_sto hr, zst_nw] at e1
      unfold mX0_handlerRows mX0_handlerRows_0 mJ7_copyOf_59c91 mJ7_copyOf_59c91_0
      rw [zqg_5_1, Option.bind_some, zqg_5_3, Option.bind_some, h2, e4, zqn_7, Option.bind_some, if_neg (by rw [zi_eq (by omega) (by omega)]; omega), zna_ok (by omega) hr, Option.bind_some, zqn_7, Option.bind_some, zi_min (by omega) (by omega) (by omega)]
      show ((zm_cp (zc w b C M (zv_nw r (.inl (0, 4 * n, .inl fun _ => 0)) (4 * n))) (b + 7) 0 r.2.1 0 (Int32.ofNat (4 * n))).bind _).bind _ = _
      rw [e1]
      rfl
    · show (if 0 ≤ i ∧ i < 0 + 4 * n then C.1 7 (0 + (i - 0)) else 0) = C.1 7 i
      rw [if_pos ⟨Nat.zero_le i, by omega⟩, show 0 + (i - 0) = i by omega]
/-- a routine's fields -/
theorem zo_pr {ci k : Nat} {fs : List Value} {v : Value} (h : b + 113 ≤ a) (hk : k < fs.length) : zm_p (zc w b C M (zv_st R a (.inr (ci, fs)))) a ci k v = some (zc w b C M (zv_st R a (.inr (ci, fs.set k v)))) := by
  rw [zo_p ((zc_o' h).trans zst_at) hk, zc_sto h, zst_st]
theorem zd_routine {a1 a2 : Nat} {lo sk rs : Int32} (hN : 5 < N) (hn : n < 256) (h : b + 113 ≤ a) (hR : R.1 a = some (.inr (6, zd_6))) : mX6_init N a a1 a2 (Int32.ofNat n) lo sk rs (zc w b C M R) = some (zc w b C M (zv_st R a (.inr (6, [.ref a1, .ref a2, .int (Int32.ofNat (zna n)), .int (Int32.ofNat (zpk (zkd n) (zna n))), .int lo, .int sk, .int rs])))) := by
  obtain ⟨z1, z2, z3, z4⟩ := zna_tab n hn
  have e0 : R = zv_st R a (.inr (6, [.null, .null, .int 0, .int 0, .int 0, .int 0, .int 0])) := (zst_same hR).symm
  unfold mX6_init mX6_init_0
  conv => lhs; rw [e0]
  rw [zo_pr h (Nat.le_of_ble_eq_true rfl), Option.bind_some, zo_pr h (Nat.le_of_ble_eq_true rfl), Option.bind_some, zd_args hN hn, Option.bind_some, zo_pr h (Nat.le_of_ble_eq_true rfl), Option.bind_some]
  have e2 : ∀ fs : List Value, fs[2]? = some (.int (Int32.ofNat (zna n))) → zm_I (zc w b C M (zv_st R a (.inr (6, fs)))) a 6 2 = some (Int32.ofNat (zna n)) := fun fs hfs => by
    unfold zm_I
    rw [zo_g ((zc_o' h).trans zst_at), hfs]
  rw [e2 _ rfl, Option.bind_some, z4, zo_pr h (Nat.le_of_ble_eq_true rfl), Option.bind_some, zo_pr h (Nat.le_of_ble_eq_true rfl), Option.bind_some, zo_pr h (Nat.le_of_ble_eq_true rfl), Option.bind_some, zo_pr h (Nat.le_of_ble_eq_true rfl), Option.bind_some]
  rfl
end ZOU
