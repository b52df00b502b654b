/-! ===== a frame of the class: what its methods do ===== -/
section ZFR
variable {N w b f t k : Nat} {C : zC} {r : zv_X}
theorem zf_number (hf : f < 16) (ht : C.1 (f + 100) 2 = Int32.ofNat (16 + t)) (h12 : t ≤ 12) (hk : k < t) : zHC w b (mX1_number N (b + (3 * f + 27)) (Int32.ofNat k)) C r (fun x => (x, C.2.1 (f + 120) (15 + t - k))) C r := by
  intro M
  unfold mX1_number mX1_number_0
  simp (disch := omega) only [zqkF, zqgF_0, zqgF_1, zqgF_2, zqpF_2, zqgF_4, zqpF_4, zqpF_3, zqaF_1, zqsF_1, zqaF_2, zqsF_2, zqnF_2, Option.bind_some, ht, zi_lit, zi_sub]
  rw [show 16 + t - 1 - k = 15 + t - k by omega]
theorem zf_reference (hf : f < 16) (ht : C.1 (f + 100) 2 = Int32.ofNat (16 + t)) (h12 : t ≤ 12) (hk : k < t) : zHC w b (mX1_reference N (b + (3 * f + 27)) (Int32.ofNat k)) C r (fun x => (x, C.1 (f + 140) (15 + t - k))) C r := by
  intro M
  unfold mX1_reference mX1_reference_0
  simp (disch := omega) only [zqkF, zqgF_0, zqgF_1, zqgF_2, zqpF_2, zqgF_4, zqpF_4, zqpF_3, zqaF_1, zqsF_1, zqaF_2, zqsF_2, zqnF_2, Option.bind_some, ht, zi_lit, zi_sub]
  rw [show 16 + t - 1 - k = 15 + t - k by omega]
theorem zf_drop (hf : f < 16) (ht : C.1 (f + 100) 2 = Int32.ofNat (16 + t)) (h12 : t ≤ 12) (hk : k ≤ t) : zHC w b (mX1_drop N (b + (3 * f + 27)) (Int32.ofNat k)) C r id (zI C (f + 100) 2 (Int32.ofNat (16 + (t - k)))) r := by
  intro M
  unfold mX1_drop mX1_drop_0
  simp (disch := omega) only [zqkF, zqgF_0, zqgF_1, zqgF_2, zqpF_2, zqgF_4, zqpF_4, zqpF_3, zqaF_1, zqsF_1, zqaF_2, zqsF_2, zqnF_2, Option.bind_some, ht, zi_lit, zi_sub]
  rw [show 16 + t - k = 16 + (t - k) by omega]; rfl
/-- a number into a slot -/
def zSN (C : zC) (f i : Nat) (v : Int64) : zC := zI (zL C (f + 120) i v) (f + 140) i 0
theorem zf_setNumber (hf : f < 16) (hi : k < 28) (v : Int64) : zHC w b (mX1_setNumber N (b + (3 * f + 27)) (Int32.ofNat k) v) C r id (zSN C f k v) r := by
  intro M
  unfold mX1_setNumber mX1_setNumber_0
  simp (disch := omega) only [zqkF, zqgF_0, zqgF_1, zqgF_2, zqpF_2, zqgF_4, zqpF_4, zqpF_3, zqaF_1, zqsF_1, zqaF_2, zqsF_2, zqnF_2, Option.bind_some]
  rfl
def zPN (C : zC) (f t : Nat) (v : Int64) : zC := zI (zSN C f (16 + t) v) (f + 100) 2 (Int32.ofNat (16 + (t + 1)))
theorem zf_pushNumber (hf : f < 16) (ht : C.1 (f + 100) 2 = Int32.ofNat (16 + t)) (h12 : t < 12) (v : Int64) : zHC w b (mX1_pushNumber N (b + (3 * f + 27)) v) C r id (zPN C f t v) r := by
  intro M
  unfold mX1_pushNumber mX1_pushNumber_0
  have e := zf_setNumber (N := N) (w := w) (b := b) (C := C) (r := r) hf (show 16 + t < 28 by omega) v M
  simp (disch := omega) only [zqgF_2, zqkF, Option.bind_some, ht, if_true, e, id]
  have e2 : (zSN C f (16 + t) v).1 (f + 100) 2 = Int32.ofNat (16 + t) := by
    simp (disch := omega) only [zSN, zI1, zL1, if_neg]; exact ht
  simp (disch := omega) only [zqgF_2, zqpF_2, Option.bind_some, e2, zi_lit, zi_add]
  rfl
def zPR (C : zC) (f t : Nat) (h : Int32) : zC := zI (zI C (f + 140) (16 + t) h) (f + 100) 2 (Int32.ofNat (16 + (t + 1)))
theorem zf_pushReference (hf : f < 16) (ht : C.1 (f + 100) 2 = Int32.ofNat (16 + t)) (h12 : t < 12) (v : Int32) : zHC w b (mX1_pushReference N (b + (3 * f + 27)) v) C r id (zPR C f t v) r := by
  intro M
  unfold mX1_pushReference mX1_pushReference_0
  simp (disch := omega) only [zqkF, zqgF_0, zqgF_1, zqgF_2, zqpF_2, zqgF_4, zqpF_4, zqpF_3, zqaF_1, zqsF_1, zqaF_2, zqsF_2, zqnF_2, Option.bind_some, ht, zi_lit, zi_add, zI1, if_neg]
  rfl
/-- a slot's copy -/
def zCS (C : zC) (f i g j : Nat) : zC := zI (zL C (f + 120) j (C.2.1 (g + 120) i)) (f + 140) j (C.1 (g + 140) i)
theorem zf_copySlot {g i j : Nat} (hf : f < 16) (hg : g < 16) (hi : i < 28) (hj : j < 28) : zHC w b (mX1_copySlot N (b + (3 * f + 27)) (b + (3 * g + 27)) (Int32.ofNat i) (Int32.ofNat j)) C r id (zCS C f i g j) r := by
  intro M
  unfold mX1_copySlot mX1_copySlot_0
  simp (disch := omega) only [zqkF, zqgF_0, zqgF_1, zqgF_2, zqpF_2, zqgF_4, zqpF_4, zqpF_3, zqaF_1, zqsF_1, zqaF_2, zqsF_2, zqnF_2, zI1, zI2, zL1, zL2, zL3, zV1, zV2, zV3, zJ1, zJ2, zK1, zK2, Nat.reduceEqDiff, and_true, true_and, and_false, false_and, and_self, reduceIte, Option.bind_some]
  rfl
def zPL (C : zC) (f t a : Nat) : zC := zI (zCS C f a f (16 + t)) (f + 100) 2 (Int32.ofNat (16 + (t + 1)))
theorem zf_pushLocal {a : Nat} (hf : f < 16) (ht : C.1 (f + 100) 2 = Int32.ofNat (16 + t)) (h12 : t < 12) (ha : a < 28) : zHC w b (mX1_pushLocal N (b + (3 * f + 27)) (Int32.ofNat a)) C r id (zPL C f t a) r := by
  intro M
  unfold mX1_pushLocal mX1_pushLocal_0
  have e := zf_copySlot (N := N) (w := w) (b := b) (C := C) (r := r) hf hf ha (show 16 + t < 28 by omega) M
  simp (disch := omega) only [zqgF_2, zqkF, Option.bind_some, ht, if_true, e, id]
  have e2 : (zCS C f a f (16 + t)).1 (f + 100) 2 = Int32.ofNat (16 + t) := by
    simp (disch := omega) only [zCS, zI1, zL1, if_neg]; exact ht
  simp (disch := omega) only [zqgF_2, zqpF_2, Option.bind_some, e2, zi_lit, zi_add]
  rfl
def zQL (C : zC) (f t a : Nat) : zC := zCS (zI C (f + 100) 2 (Int32.ofNat (16 + (t - 1)))) f (16 + (t - 1)) f a
theorem zf_popLocal {a : Nat} (hf : f < 16) (ht : C.1 (f + 100) 2 = Int32.ofNat (16 + t)) (h12 : t ≤ 12) (h1 : 0 < t) (ha : a < 28) : zHC w b (mX1_popLocal N (b + (3 * f + 27)) (Int32.ofNat a)) C r id (zQL C f t a) r := by
  intro M
  unfold mX1_popLocal mX1_popLocal_0
  have e := zf_copySlot (N := N) (w := w) (b := b) (C := zI C (f + 100) 2 (Int32.ofNat (16 + (t - 1)))) (r := r) hf hf (show 16 + (t - 1) < 28 by omega) ha M
  simp (disch := omega) only [zqgF_2, zqpF_2, zqkF, Option.bind_some, ht, if_true, zi_lit, zi_sub, zI1, zI2, zL1, zL2, zL3, zV1, zV2, zV3, zJ1, zJ2, zK1, zK2, Nat.reduceEqDiff, and_true, true_and, and_false, false_and, and_self, reduceIte]
  rw [show 16 + t - 1 = 16 + (t - 1) by omega, e]
  rfl
theorem zf_increase {a : Nat} (hf : f < 16) (ha : a < 28) (v : Int32) : zHC w b (mX1_increase N (b + (3 * f + 27)) (Int32.ofNat a) v) C r id (zL C (f + 120) a (C.2.1 (f + 120) a + v.toInt64).toInt32.toInt64) r := by
  intro M
  unfold mX1_increase mX1_increase_0
  simp (disch := omega) only [zqkF, zqgF_0, zqgF_1, zqgF_2, zqpF_2, zqgF_4, zqpF_4, zqpF_3, zqaF_1, zqsF_1, zqaF_2, zqsF_2, zqnF_2, zI1, zI2, zL1, zL2, zL3, zV1, zV2, zV3, zJ1, zJ2, zK1, zK2, Nat.reduceEqDiff, and_true, true_and, and_false, false_and, and_self, reduceIte, Option.bind_some]
  rfl
def zDU (C : zC) (f t : Nat) : zC := zI (zCS C f (15 + t) f (16 + t)) (f + 100) 2 (Int32.ofNat (16 + (t + 1)))
theorem zf_duplicate (hf : f < 16) (ht : C.1 (f + 100) 2 = Int32.ofNat (16 + t)) (h12 : t < 12) (h1 : 0 < t) : zHC w b (mX1_duplicate N (b + (3 * f + 27))) C r id (zDU C f t) r := by
  intro M
  unfold mX1_duplicate mX1_duplicate_0
  have e := zf_copySlot (N := N) (w := w) (b := b) (C := C) (r := r) hf hf (show 15 + t < 28 by omega) (show 16 + t < 28 by omega) M
  simp (disch := omega) only [zqgF_2, zqkF, Option.bind_some, ht, if_true, zi_lit, zi_sub]
  rw [show 16 + t - 1 = 15 + t by omega, e]
  have e2 : (zCS C f (15 + t) f (16 + t)).1 (f + 100) 2 = Int32.ofNat (16 + t) := by
    simp (disch := omega) only [zCS, zI1, zL1, if_neg]; exact ht
  simp (disch := omega) only [zqgF_2, zqpF_2, Option.bind_some, id, e2, zi_add]
  rfl
def zSW (C : zC) (f t : Nat) : zC := zI (zL (zCS C f (14 + t) f (15 + t)) (f + 120) (14 + t) (C.2.1 (f + 120) (15 + t))) (f + 140) (14 + t) (C.1 (f + 140) (15 + t))
theorem zf_exchange (hf : f < 16) (ht : C.1 (f + 100) 2 = Int32.ofNat (16 + t)) (h12 : t ≤ 12) (h1 : 1 < t) : zHC w b (mX1_exchange N (b + (3 * f + 27))) C r id (zSW C f t) r := by
  intro M
  unfold mX1_exchange mX1_exchange_0
  have e := zf_copySlot (N := N) (w := w) (b := b) (C := C) (r := r) hf hf (show 14 + t < 28 by omega) (show 15 + t < 28 by omega) M
  simp (disch := omega) only [zqgF_0, zqgF_1, zqgF_2, zqkF, zqaF_1, zqaF_2, Option.bind_some, ht, if_true, zi_lit, zi_sub]
  rw [show 16 + t - 1 = 15 + t by omega, show 16 + t - 2 = 14 + t by omega, e]
  have e2 : (zCS C f (14 + t) f (15 + t)).1 (f + 100) 2 = Int32.ofNat (16 + t) := by
    simp (disch := omega) only [zCS, zI1, zL1, if_neg]; exact ht
  simp (disch := omega) only [zqgF_0, zqgF_1, zqgF_2, zqsF_1, zqsF_2, zL1, Option.bind_some, id, e2, zi_sub]
  rw [show 16 + t - 2 = 14 + t by omega]
  rfl
theorem zf_catchAt (hf : f < 16) (p : Int32) (v : Int32) : zHC w b (mX1_catchAt N (b + (3 * f + 27)) p v) C r id (zPR (zI (zI C (f + 100) 4 p) (f + 100) 2 (Int32.ofNat (16 + 0))) f 0 v) r := by
  intro M
  unfold mX1_catchAt mX1_catchAt_0
  simp (disch := omega) only [zqkF, zqgF_0, zqgF_1, zqgF_2, zqpF_2, zqgF_4, zqpF_4, zqpF_3, zqaF_1, zqsF_1, zqaF_2, zqsF_2, zqnF_2, Option.bind_some, if_true, zi_lit]
  exact (congrArg (fun o => Option.bind o some) (zf_pushReference (N := N) (w := w) (b := b) (C := zI (zI C (f + 100) 4 p) (f + 100) 2 (Int32.ofNat (16 + 0))) (r := r) hf (t := 0) (by simp only [zI1, zI2, zL1, zL2, zL3, zV1, zV2, zV3, zJ1, zJ2, zK1, zK2, Nat.reduceEqDiff, and_true, true_and, and_false, false_and, and_self, reduceIte]) (by omega) v M)).trans rfl
/-- the machine's frame under way -/
theorem zf_goOn {p n : Nat} (hf : f < 16) (hF : C.2.2 15 5 = .ref (b + (3 * f + 27))) (hp : C.1 (f + 100) 4 = Int32.ofNat p) : zHC w b (mX4_goOn N (b + 15) (Int32.ofNat n)) C r (fun x => (x, 0)) (zI C (f + 100) 4 (Int32.ofNat (p + n))) r := by
  intro M
  unfold mX4_goOn mX4_goOn_0
  rw [zqg_15_5 hF]
  simp (disch := omega) only [zqkF, zqgF_0, zqgF_1, zqgF_2, zqpF_2, zqgF_4, zqpF_4, zqpF_3, zqaF_1, zqsF_1, zqaF_2, zqsF_2, zqnF_2, Option.bind_some, hp, zi_add]
end ZFR
