/-! ===== the start: memory as it grows ===== -/
def zbf (n0 k : Nat) (c : Nat → zv_C) (s : Nat) (e0 : Nat × Nat) : zv_X := (fun q => if n0 ≤ q ∧ q < n0 + k then some (c (q - n0)) else none, n0 + k, s, e0)
def zce (c : Nat → zv_C) (o : Nat) (e : zv_C) : Nat → zv_C := fun i => if i = o then e else c i
section ZBF
variable {N n0 k s o ci j t n : Nat} {e0 : Nat × Nat} {c : Nat → zv_C} {e : zv_C} {fs : List Value} {v : Value} {β : Type} {f : zv_X → Option β}
theorem zce_at : zce c o e o = e := if_pos rfl
theorem zce_ne {i : Nat} (h : i ≠ o) : zce c o e i = c i := if_neg h
theorem zbf_at (h : o < k) : (zbf n0 k c s e0).1 (n0 + o) = some (c o) := by
  show (if n0 ≤ n0 + o ∧ n0 + o < n0 + k then some (c (n0 + o - n0)) else none) = _
  rw [if_pos ⟨by omega, by omega⟩, Nat.add_sub_cancel_left]
theorem zbf_nw : zv_nw (zbf n0 k c s e0) e n = zbf n0 (k + 1) (zce c k e) (s + n) e0 := Prod.ext (funext fun q => by
  show (if q = n0 + k then some e else if n0 ≤ q ∧ q < n0 + k then some (c (q - n0)) else none) = if n0 ≤ q ∧ q < n0 + (k + 1) then some (if q - n0 = k then e else c (q - n0)) else none
  by_cases h : q = n0 + k
  · rw [if_pos h, if_pos (by omega), if_pos (by omega)]
  · rw [if_neg h]
    by_cases g : n0 ≤ q ∧ q < n0 + k
    · rw [if_pos g, if_pos (by omega), if_neg (by omega)]
    · rw [if_neg g, if_neg (by omega)]) rfl
theorem zbf_st (h : o < k) : zv_st (zbf n0 k c s e0) (n0 + o) e = zbf n0 k (zce c o e) s e0 := Prod.ext (funext fun q => by
  show (if q = n0 + o then some e else if n0 ≤ q ∧ q < n0 + k then some (c (q - n0)) else none) = if n0 ≤ q ∧ q < n0 + k then some (if q - n0 = o then e else c (q - n0)) else none
  by_cases g : q = n0 + o
  · rw [if_pos g, if_pos (by omega), if_pos (by omega)]
  · rw [if_neg g]
    by_cases g' : n0 ≤ q ∧ q < n0 + k
    · rw [if_pos g', if_pos g', if_neg (by omega)]
    · rw [if_neg g', if_neg g']) rfl
theorem zbf_p (h : o < k) (hc : c o = .inr (ci, fs)) (hj : j < fs.length) : zm_p (zbf n0 k c s e0) (n0 + o) ci j v = some (zbf n0 k (zce c o (.inr (ci, fs.set j v))) s e0) := by
  rw [zo_p ((zbf_at h).trans (congrArg some hc)) hj, zbf_st h]
theorem zbf_na (hn : n ≤ 100000) : zm_na t (zbf n0 k c s e0) (Int32.ofNat n) = some (zbf n0 (k + 1) (zce c k (.inl (t, n, .inl fun _ => 0))) (s + n) e0) := by
  unfold zm_na
  rw [zi_cl (by omega), if_neg (by rintro (h | h); exact absurd h (by rw [zi_nn (by omega)]; exact id); omega), zbf_nw]
theorem zbf_nL (hn : n ≤ 100000) : zm_nL (zbf n0 k c s e0) (Int32.ofNat n) = some (zbf n0 (k + 1) (zce c k (.inl (1, n, .inr (.inl fun _ => 0)))) (s + n) e0) := by
  unfold zm_nL
  rw [zi_cl (by omega), if_neg (by rintro (h | h); exact absurd h (by rw [zi_nn (by omega)]; exact id); omega), zbf_nw]
theorem zbf_nR (hn : n ≤ 100000) : zm_nR t (zbf n0 k c s e0) (Int32.ofNat n) = some (zbf n0 (k + 1) (zce c k (.inl (t, n, .inr (.inr (.inr (.inr fun _ => none)))))) (s + n) e0) := by
  unfold zm_nR
  rw [zi_cl (by omega), if_neg (by rintro (h | h); exact absurd h (by rw [zi_nn (by omega)]; exact id); omega), zbf_nw]
theorem zbf_R {a : Nat} (h : o < k) (hc : c o = .inr (ci, fs)) (hj : fs[j]? = some (.ref a)) : zm_R (zbf n0 k c s e0) (n0 + o) ci j = some a := by
  unfold zm_R
  rw [zo_g ((zbf_at h).trans (congrArg some hc)), hj]
theorem zbf_sI {g : Nat → Int32} {L m : Nat} {y : Int32} (h : o < k) (hc : c o = .inl (0, L, .inl g)) (hm : m < L) (hL : L ≤ 100000) : zm_sI (zbf n0 k c s e0) (n0 + o) (Int32.ofNat m) y = some (zbf n0 k (zce c o (.inl (0, L, .inl (upd g m y)))) s e0) := by
  rw [zo_sI ((zbf_at h).trans (congrArg some hc)) hm hL, zbf_st h]
/-- an array comes and goes into a field -/
theorem zbf_nap {i : Int32} (hi : i = Int32.ofNat n) (h : o < k) (hc : c o = .inr (ci, fs)) (hj : j < fs.length) (hn : n ≤ 100000) : ((zm_na t (zbf n0 k c s e0) i).bind fun x1 => (zm_p x1 (n0 + o) ci j (.ref (n0 + k))).bind f) = f (zbf n0 (k + 1) (zce (zce c k (.inl (t, n, .inl fun _ => 0))) o (.inr (ci, fs.set j (.ref (n0 + k))))) (s + n) e0) := by
  rw [hi, zbf_na hn, Option.bind_some, zbf_p (by omega) ((zce_ne (by omega)).trans hc) hj, Option.bind_some]
theorem zbf_nLp {i : Int32} (hi : i = Int32.ofNat n) (h : o < k) (hc : c o = .inr (ci, fs)) (hj : j < fs.length) (hn : n ≤ 100000) : ((zm_nL (zbf n0 k c s e0) i).bind fun x1 => (zm_p x1 (n0 + o) ci j (.ref (n0 + k))).bind f) = f (zbf n0 (k + 1) (zce (zce c k (.inl (1, n, .inr (.inl fun _ => 0)))) o (.inr (ci, fs.set j (.ref (n0 + k))))) (s + n) e0) := by
  rw [hi, zbf_nL hn, Option.bind_some, zbf_p (by omega) ((zce_ne (by omega)).trans hc) hj, Option.bind_some]
theorem zbf_pp (h : o < k) (hc : c o = .inr (ci, fs)) (hj : j < fs.length) : ((zm_p (zbf n0 k c s e0) (n0 + o) ci j v).bind f) = f (zbf n0 k (zce c o (.inr (ci, fs.set j v))) s e0) := by
  rw [zbf_p h hc hj, Option.bind_some]
theorem zbf_nwb : (some (zv_nw (zbf n0 k c s e0) e n)).bind f = f (zbf n0 (k + 1) (zce c k e) (s + n) e0) := by
  rw [zbf_nw, Option.bind_some]
/-- the whole memory -/
theorem zbf_zc {w : Nat} {C : zC} {M : zM} (h : ∀ o, o < 113 → c o = zcell w n0 C M o) : zbf n0 113 c s e0 = zc w n0 C M (fun _ => none, n0 + 113, s, e0) := Prod.ext (funext fun q => by
  show (if n0 ≤ q ∧ q < n0 + 113 then some (c (q - n0)) else none) = if n0 ≤ q ∧ q < n0 + 113 then some (zcell w n0 C M (q - n0)) else none
  by_cases g : n0 ≤ q ∧ q < n0 + 113
  · rw [if_pos g, if_pos g, h _ (by omega)]
  · rw [if_neg g, if_neg g]) rfl
end ZBF
