theorem dL_feed_0 : decode cL_feed 0 = .ok (.aload 7, 2) := by decide +kernel
theorem dL_feed_2 : decode cL_feed 2 = .ok (.iconst 0, 1) := by decide +kernel
theorem dL_feed_3 : decode cL_feed 3 = .ok (.aload_n 0, 1) := by decide +kernel
theorem dL_feed_4 : decode cL_feed 4 = .ok (.iload_n 1, 1) := by decide +kernel
theorem dL_feed_5 : decode cL_feed 5 = .ok (.iload_n 2, 1) := by decide +kernel
theorem dL_feed_6 : decode cL_feed 6 = .ok (.iload_n 3, 1) := by decide +kernel
theorem dL_feed_7 : decode cL_feed 7 = .ok (.iload 4, 2) := by decide +kernel
theorem dL_feed_9 : decode cL_feed 9 = .ok (.iload 5, 2) := by decide +kernel
theorem dL_feed_11 : decode cL_feed 11 = .ok (.iload 6, 2) := by decide +kernel
theorem dL_feed_13 : decode cL_feed 13 = .ok (.invokevirtual 7, 3) := by decide +kernel
theorem dL_feed_16 : decode cL_feed 16 = .ok (.i2l, 1) := by decide +kernel
theorem dL_feed_17 : decode cL_feed 17 = .ok (.lastore, 1) := by decide +kernel
theorem dL_feed_18 : decode cL_feed 18 = .ok (.goto 11, 3) := by decide +kernel
theorem dL_feed_21 : decode cL_feed 21 = .ok (.astore 8, 2) := by decide +kernel
theorem dL_feed_23 : decode cL_feed 23 = .ok (.iconst 1, 1) := by decide +kernel
theorem dL_feed_24 : decode cL_feed 24 = .ok (.ireturn, 1) := by decide +kernel
theorem dL_feed_25 : decode cL_feed 25 = .ok (.astore 8, 2) := by decide +kernel
theorem dL_feed_27 : decode cL_feed 27 = .ok (.iconst 2, 1) := by decide +kernel
theorem dL_feed_28 : decode cL_feed 28 = .ok (.ireturn, 1) := by decide +kernel
theorem dL_feed_29 : decode cL_feed 29 = .ok (.iconst 0, 1) := by decide +kernel
theorem dL_feed_30 : decode cL_feed 30 = .ok (.ireturn, 1) := by decide +kernel
theorem dL_type_0 : decode cL_type 0 = .ok (.aload 4, 2) := by decide +kernel
theorem dL_type_2 : decode cL_type 2 = .ok (.iconst 0, 1) := by decide +kernel
theorem dL_type_3 : decode cL_type 3 = .ok (.aload_n 0, 1) := by decide +kernel
theorem dL_type_4 : decode cL_type 4 = .ok (.iload_n 1, 1) := by decide +kernel
theorem dL_type_5 : decode cL_type 5 = .ok (.iload_n 2, 1) := by decide +kernel
theorem dL_type_6 : decode cL_type 6 = .ok (.iload_n 3, 1) := by decide +kernel
theorem dL_type_7 : decode cL_type 7 = .ok (.invokevirtual 17, 3) := by decide +kernel
theorem dL_type_10 : decode cL_type 10 = .ok (.i2l, 1) := by decide +kernel
theorem dL_type_11 : decode cL_type 11 = .ok (.lastore, 1) := by decide +kernel
theorem dL_type_12 : decode cL_type 12 = .ok (.goto 15, 3) := by decide +kernel
theorem dL_type_15 : decode cL_type 15 = .ok (.astore 5, 2) := by decide +kernel
theorem dL_type_17 : decode cL_type 17 = .ok (.iconst 1, 1) := by decide +kernel
theorem dL_type_18 : decode cL_type 18 = .ok (.ireturn, 1) := by decide +kernel
theorem dL_type_19 : decode cL_type 19 = .ok (.astore 5, 2) := by decide +kernel
theorem dL_type_21 : decode cL_type 21 = .ok (.iconst 2, 1) := by decide +kernel
theorem dL_type_22 : decode cL_type 22 = .ok (.ireturn, 1) := by decide +kernel
theorem dL_type_23 : decode cL_type 23 = .ok (.astore 5, 2) := by decide +kernel
theorem dL_type_25 : decode cL_type 25 = .ok (.iconst 3, 1) := by decide +kernel
theorem dL_type_26 : decode cL_type 26 = .ok (.ireturn, 1) := by decide +kernel
theorem dL_type_27 : decode cL_type 27 = .ok (.iconst 0, 1) := by decide +kernel
theorem dL_type_28 : decode cL_type 28 = .ok (.ireturn, 1) := by decide +kernel
theorem dL_handler_0 : decode cL_handler 0 = .ok (.aload 5, 2) := by decide +kernel
theorem dL_handler_2 : decode cL_handler 2 = .ok (.iconst 0, 1) := by decide +kernel
theorem dL_handler_3 : decode cL_handler 3 = .ok (.aload_n 0, 1) := by decide +kernel
theorem dL_handler_4 : decode cL_handler 4 = .ok (.iload_n 1, 1) := by decide +kernel
theorem dL_handler_5 : decode cL_handler 5 = .ok (.iload_n 2, 1) := by decide +kernel
theorem dL_handler_6 : decode cL_handler 6 = .ok (.iload_n 3, 1) := by decide +kernel
theorem dL_handler_7 : decode cL_handler 7 = .ok (.iload 4, 2) := by decide +kernel
theorem dL_handler_9 : decode cL_handler 9 = .ok (.invokevirtual 23, 3) := by decide +kernel
theorem dL_handler_12 : decode cL_handler 12 = .ok (.i2l, 1) := by decide +kernel
theorem dL_handler_13 : decode cL_handler 13 = .ok (.lastore, 1) := by decide +kernel
theorem dL_handler_14 : decode cL_handler 14 = .ok (.goto 11, 3) := by decide +kernel
theorem dL_handler_17 : decode cL_handler 17 = .ok (.astore 6, 2) := by decide +kernel
theorem dL_handler_19 : decode cL_handler 19 = .ok (.iconst 1, 1) := by decide +kernel
theorem dL_handler_20 : decode cL_handler 20 = .ok (.ireturn, 1) := by decide +kernel
theorem dL_handler_21 : decode cL_handler 21 = .ok (.astore 6, 2) := by decide +kernel
theorem dL_handler_23 : decode cL_handler 23 = .ok (.iconst 2, 1) := by decide +kernel
theorem dL_handler_24 : decode cL_handler 24 = .ok (.ireturn, 1) := by decide +kernel
theorem dL_handler_25 : decode cL_handler 25 = .ok (.iconst 0, 1) := by decide +kernel
theorem dL_handler_26 : decode cL_handler 26 = .ok (.ireturn, 1) := by decide +kernel
theorem dL_method_0 : decode cL_method 0 = .ok (.aload 5, 2) := by decide +kernel
theorem dL_method_2 : decode cL_method 2 = .ok (.iconst 0, 1) := by decide +kernel
theorem dL_method_3 : decode cL_method 3 = .ok (.aload_n 0, 1) := by decide +kernel
theorem dL_method_4 : decode cL_method 4 = .ok (.iload_n 1, 1) := by decide +kernel
theorem dL_method_5 : decode cL_method 5 = .ok (.iload_n 2, 1) := by decide +kernel
theorem dL_method_6 : decode cL_method 6 = .ok (.iload_n 3, 1) := by decide +kernel
theorem dL_method_7 : decode cL_method 7 = .ok (.iload 4, 2) := by decide +kernel
theorem dL_method_9 : decode cL_method 9 = .ok (.invokevirtual 27, 3) := by decide +kernel
theorem dL_method_12 : decode cL_method 12 = .ok (.i2l, 1) := by decide +kernel
theorem dL_method_13 : decode cL_method 13 = .ok (.lastore, 1) := by decide +kernel
theorem dL_method_14 : decode cL_method 14 = .ok (.goto 11, 3) := by decide +kernel
theorem dL_method_17 : decode cL_method 17 = .ok (.astore 6, 2) := by decide +kernel
theorem dL_method_19 : decode cL_method 19 = .ok (.iconst 1, 1) := by decide +kernel
theorem dL_method_20 : decode cL_method 20 = .ok (.ireturn, 1) := by decide +kernel
theorem dL_method_21 : decode cL_method 21 = .ok (.astore 6, 2) := by decide +kernel
theorem dL_method_23 : decode cL_method 23 = .ok (.iconst 2, 1) := by decide +kernel
theorem dL_method_24 : decode cL_method 24 = .ok (.ireturn, 1) := by decide +kernel
theorem dL_method_25 : decode cL_method 25 = .ok (.iconst 0, 1) := by decide +kernel
theorem dL_method_26 : decode cL_method 26 = .ok (.ireturn, 1) := by decide +kernel
theorem dL_run_0 : decode cL_run 0 = .ok (.aload 7, 2) := by decide +kernel
theorem dL_run_2 : decode cL_run 2 = .ok (.iconst 0, 1) := by decide +kernel
theorem dL_run_3 : decode cL_run 3 = .ok (.aload_n 0, 1) := by decide +kernel
theorem dL_run_4 : decode cL_run 4 = .ok (.iload_n 1, 1) := by decide +kernel
theorem dL_run_5 : decode cL_run 5 = .ok (.lload_n 2, 1) := by decide +kernel
theorem dL_run_6 : decode cL_run 6 = .ok (.lload 4, 2) := by decide +kernel
theorem dL_run_8 : decode cL_run 8 = .ok (.iload 6, 2) := by decide +kernel
theorem dL_run_10 : decode cL_run 10 = .ok (.invokevirtual 30, 3) := by decide +kernel
theorem dL_run_13 : decode cL_run 13 = .ok (.i2l, 1) := by decide +kernel
theorem dL_run_14 : decode cL_run 14 = .ok (.lastore, 1) := by decide +kernel
theorem dL_run_15 : decode cL_run 15 = .ok (.goto 11, 3) := by decide +kernel
theorem dL_run_18 : decode cL_run 18 = .ok (.astore 8, 2) := by decide +kernel
theorem dL_run_20 : decode cL_run 20 = .ok (.iconst 1, 1) := by decide +kernel
theorem dL_run_21 : decode cL_run 21 = .ok (.ireturn, 1) := by decide +kernel
theorem dL_run_22 : decode cL_run 22 = .ok (.astore 8, 2) := by decide +kernel
theorem dL_run_24 : decode cL_run 24 = .ok (.iconst 2, 1) := by decide +kernel
theorem dL_run_25 : decode cL_run 25 = .ok (.ireturn, 1) := by decide +kernel
theorem dL_run_26 : decode cL_run 26 = .ok (.iconst 0, 1) := by decide +kernel
theorem dL_run_27 : decode cL_run 27 = .ok (.ireturn, 1) := by decide +kernel
theorem dL_count_0 : decode cL_count 0 = .ok (.aload_n 2, 1) := by decide +kernel
theorem dL_count_1 : decode cL_count 1 = .ok (.iconst 0, 1) := by decide +kernel
theorem dL_count_2 : decode cL_count 2 = .ok (.aload_n 0, 1) := by decide +kernel
theorem dL_count_3 : decode cL_count 3 = .ok (.iload_n 1, 1) := by decide +kernel
theorem dL_count_4 : decode cL_count 4 = .ok (.invokevirtual 34, 3) := by decide +kernel
theorem dL_count_7 : decode cL_count 7 = .ok (.i2l, 1) := by decide +kernel
theorem dL_count_8 : decode cL_count 8 = .ok (.lastore, 1) := by decide +kernel
theorem dL_count_9 : decode cL_count 9 = .ok (.goto 6, 3) := by decide +kernel
theorem dL_count_12 : decode cL_count 12 = .ok (.astore_n 3, 1) := by decide +kernel
theorem dL_count_13 : decode cL_count 13 = .ok (.iconst 1, 1) := by decide +kernel
theorem dL_count_14 : decode cL_count 14 = .ok (.ireturn, 1) := by decide +kernel
theorem dL_count_15 : decode cL_count 15 = .ok (.iconst 0, 1) := by decide +kernel
theorem dL_count_16 : decode cL_count 16 = .ok (.ireturn, 1) := by decide +kernel
theorem wd_437 : Cond.classLink RL 13 "java/lang/IllegalArgumentException" ∈ zv_U := zv_in (n := 437) (by decide +kernel) (by decide +kernel)
theorem wd_438 : Cond.classLink RL 15 "java/lang/UnsupportedOperationException" ∈ zv_U := zv_in (n := 438) (by decide +kernel) (by decide +kernel)
theorem wd_439 : Cond.methodLink RL 7 yX8_feed ∈ zv_U := zv_in (n := 439) (by decide +kernel) (by decide +kernel)
theorem wd_440 : Cond.instanceMethod yX8_feed ∈ zv_U := zv_in (n := 440) (by decide +kernel) (by decide +kernel)
theorem wd_441 : Cond.selects RX8 yX8_feed yX8_feed ∈ zv_U := zv_in (n := 441) (by decide +kernel) (by decide +kernel)
theorem wd_442 : Cond.code yX8_feed cX8_feed 7 ((some .int)) ∈ zv_U := zv_in (n := 442) (by decide +kernel) (by decide +kernel)
theorem wd_535 : Cond.classLink RL 21 "java/lang/IndexOutOfBoundsException" ∈ zv_U := zv_in (n := 535) (by decide +kernel) (by decide +kernel)
theorem wd_536 : Cond.methodLink RL 17 yX8_type ∈ zv_U := zv_in (n := 536) (by decide +kernel) (by decide +kernel)
theorem wd_537 : Cond.instanceMethod yX8_type ∈ zv_U := zv_in (n := 537) (by decide +kernel) (by decide +kernel)
theorem wd_538 : Cond.selects RX8 yX8_type yX8_type ∈ zv_U := zv_in (n := 538) (by decide +kernel) (by decide +kernel)
theorem wd_539 : Cond.code yX8_type cX8_type 4 ((some .int)) ∈ zv_U := zv_in (n := 539) (by decide +kernel) (by decide +kernel)
theorem wd_569 : Cond.methodLink RL 23 yX8_handler ∈ zv_U := zv_in (n := 569) (by decide +kernel) (by decide +kernel)
theorem wd_570 : Cond.instanceMethod yX8_handler ∈ zv_U := zv_in (n := 570) (by decide +kernel) (by decide +kernel)
theorem wd_571 : Cond.selects RX8 yX8_handler yX8_handler ∈ zv_U := zv_in (n := 571) (by decide +kernel) (by decide +kernel)
theorem wd_572 : Cond.code yX8_handler cX8_handler 5 ((some .int)) ∈ zv_U := zv_in (n := 572) (by decide +kernel) (by decide +kernel)
theorem wd_584 : Cond.methodLink RL 27 yX8_method ∈ zv_U := zv_in (n := 584) (by decide +kernel) (by decide +kernel)
theorem wd_585 : Cond.instanceMethod yX8_method ∈ zv_U := zv_in (n := 585) (by decide +kernel) (by decide +kernel)
theorem wd_586 : Cond.selects RX8 yX8_method yX8_method ∈ zv_U := zv_in (n := 586) (by decide +kernel) (by decide +kernel)
theorem wd_587 : Cond.code yX8_method cX8_method 6 ((some .int)) ∈ zv_U := zv_in (n := 587) (by decide +kernel) (by decide +kernel)
theorem wd_833 : Cond.methodLink RL 30 yX8_run ∈ zv_U := zv_in (n := 833) (by decide +kernel) (by decide +kernel)
theorem wd_834 : Cond.instanceMethod yX8_run ∈ zv_U := zv_in (n := 834) (by decide +kernel) (by decide +kernel)
theorem wd_835 : Cond.selects RX8 yX8_run yX8_run ∈ zv_U := zv_in (n := 835) (by decide +kernel) (by decide +kernel)
theorem wd_836 : Cond.code yX8_run cX8_run 7 ((some .int)) ∈ zv_U := zv_in (n := 836) (by decide +kernel) (by decide +kernel)
theorem wd_1392 : Cond.methodLink RL 34 yX8_count ∈ zv_U := zv_in (n := 1392) (by decide +kernel) (by decide +kernel)
theorem wd_1393 : Cond.instanceMethod yX8_count ∈ zv_U := zv_in (n := 1393) (by decide +kernel) (by decide +kernel)
theorem wd_1394 : Cond.selects RX8 yX8_count yX8_count ∈ zv_U := zv_in (n := 1394) (by decide +kernel) (by decide +kernel)
theorem wd_1395 : Cond.code yX8_count cX8_count 2 ((some .int)) ∈ zv_U := zv_in (n := 1395) (by decide +kernel) (by decide +kernel)
theorem mw_X8_feed : zv_mw yX8_feed cX8_feed 7 ((some .int)) 6 := ⟨wd_442, wd_91, by decide +kernel, by decide⟩
theorem mw_X8_type : zv_mw yX8_type cX8_type 4 ((some .int)) 3 := ⟨wd_539, wd_91, by decide +kernel, by decide⟩
theorem mw_X8_handler : zv_mw yX8_handler cX8_handler 5 ((some .int)) 4 := ⟨wd_572, wd_91, by decide +kernel, by decide⟩
theorem mw_X8_method : zv_mw yX8_method cX8_method 6 ((some .int)) 4 := ⟨wd_587, wd_91, by decide +kernel, by decide⟩
theorem mw_X8_run : zv_mw yX8_run cX8_run 7 ((some .int)) 4 := ⟨wd_836, wd_91, by decide +kernel, by decide⟩
theorem mw_X8_count : zv_mw yX8_count cX8_count 2 ((some .int)) 1 := ⟨wd_1395, wd_91, by decide +kernel, by decide⟩
def mL_feed (N : Nat) (g : Nat) (a1 : Int32) (a2 : Int32) (a3 : Int32) (a4 : Int32) (a5 : Int32) (a6 : Int32) (out : Nat) (x : zv_X) : Option (zv_X × Int32) := if zm_k x g 8 = true then (mX8_feed N g a1 a2 a3 a4 a5 a6 x).bind fun o => match o.2 with
  | .inl v => (zm_sL o.1 out 0 v.toInt64).bind fun x2 => some (x2, 0)
  | .inr E => if E = "java/lang/IllegalArgumentException" then some (o.1, 1) else if E = "java/lang/UnsupportedOperationException" then some (o.1, 2) else none
  else none
theorem tL_feed {d : Nat} (hd : 7 ≤ d) {N : Nat} {g : Nat} {a1 : Int32} {a2 : Int32} {a3 : Int32} {a4 : Int32} {a5 : Int32} {a6 : Int32} {out : Nat} {x : zv_X} {r : zv_X × Int32} (h : mL_feed N g a1 a2 a3 a4 a5 a6 out x = some r) : zv_TE d yL_feed cL_feed 9 (some .int) [(0, 18, 21, 13), (0, 18, 25, 15)] [.ref g, .int a1, .int a2, .int a3, .int a4, .int a5, .int a6, .ref out] x r.1 (some (.int r.2)) := by
  refine zh_enter (by decide) (Nat.le_of_ble_eq_true rfl) ?_
  show zv_V _ 0 [(0, .ref g), (1, .int a1), (2, .int a2), (3, .int a3), (4, .int a4), (5, .int a5), (6, .int a6), (7, .ref out)] [] x
  unfold mL_feed at h
  obtain ⟨hk, h⟩ := zg h
  obtain ⟨o, e, h⟩ := zb h
  obtain ⟨fs, hb⟩ := zm_k_ok hk
  refine zv_aload (n := 7) dL_feed_0 rfl ?_
  refine zv_iconst (v := 0) dL_feed_2 (by decide) ?_
  refine zv_aload_n (n := 0) dL_feed_3 rfl rfl ?_
  refine zv_iload_n (n := 1) dL_feed_4 rfl rfl ?_
  refine zv_iload_n (n := 2) dL_feed_5 rfl rfl ?_
  refine zv_iload_n (n := 3) dL_feed_6 rfl rfl ?_
  refine zv_iload (n := 4) dL_feed_7 rfl ?_
  refine zv_iload (n := 5) dL_feed_9 rfl ?_
  refine zv_iload (n := 6) dL_feed_11 rfl ?_
  refine zx_callV (st := [.int 0, .ref out]) dL_feed_13 mw_X8_feed wd_439 wd_440 wd_441 (show d - 1 + 1 ≤ d by omega) (As := [.int a1, .int a2, .int a3, .int a4, .int a5, .int a6]) rfl rfl (Nat.le_of_ble_eq_true rfl) hb (q := (RX8, TX8, 5)) rfl rfl (tX8_feed (d := d - 1) (by omega) e) (fun v hv => ?_) (fun E hE => ?_)
  · rw [hv] at h
    dsimp only at h
    refine zv_i2l dL_feed_16 ?_
    refine zr_sL dL_feed_17 h (fun x2 e2 h => ?_)
    refine zv_goto (tgt := 29) dL_feed_18 (by decide) ?_
    refine zv_iconst (v := 0) dL_feed_29 (by decide) ?_
    cases h
    exact zh_iret (sz := x2.2.1) (xo := x2) dL_feed_30 rfl (Nat.le_refl _)
  · rw [hE] at h
    dsimp only at h
    rcases zif h with ⟨rfl, h⟩ | ⟨_, h⟩
    · cases h
      refine ⟨[], ⟨0, 18, 21, 13⟩, [⟨0, 18, 25, 15⟩], rfl, (fun _ h9 => nomatch h9), by decide, by decide, wd_437, by decide, fun q9 sz hsz _ => ?_⟩
      refine zv_astore (L' := [(8, .ref q9), (0, .ref g), (1, .int a1), (2, .int a2), (3, .int a3), (4, .int a4), (5, .int a5), (6, .int a6), (7, .ref out)]) dL_feed_21 (Nat.le_of_ble_eq_true rfl) rfl ?_
      refine zv_iconst (v := 1) dL_feed_23 (by decide) ?_
      exact zh_iret dL_feed_24 rfl hsz
    rcases zif h with ⟨rfl, h⟩ | ⟨_, h⟩
    · cases h
      refine ⟨[⟨0, 18, 21, 13⟩], ⟨0, 18, 25, 15⟩, [], rfl, (List.forall_mem_cons.mpr ⟨⟨by decide, by decide, "java/lang/IllegalArgumentException", wd_437, by decide⟩, (fun _ h9 => nomatch h9)⟩), by decide, by decide, wd_438, by decide, fun q9 sz hsz _ => ?_⟩
      refine zv_astore (L' := [(8, .ref q9), (0, .ref g), (1, .int a1), (2, .int a2), (3, .int a3), (4, .int a4), (5, .int a5), (6, .int a6), (7, .ref out)]) dL_feed_25 (Nat.le_of_ble_eq_true rfl) rfl ?_
      refine zv_iconst (v := 2) dL_feed_27 (by decide) ?_
      exact zh_iret dL_feed_28 rfl hsz
    cases h
def mL_type (N : Nat) (g : Nat) (a1 : Int32) (a2 : Int32) (a3 : Int32) (out : Nat) (x : zv_X) : Option (zv_X × Int32) := if zm_k x g 8 = true then (mX8_type N g a1 a2 a3 x).bind fun o => match o.2 with
  | .inl v => (zm_sL o.1 out 0 v.toInt64).bind fun x2 => some (x2, 0)
  | .inr E => if E = "java/lang/IndexOutOfBoundsException" then some (o.1, 1) else if E = "java/lang/IllegalArgumentException" then some (o.1, 2) else if E = "java/lang/UnsupportedOperationException" then some (o.1, 3) else none
  else none
theorem tL_type {d : Nat} (hd : 7 ≤ d) {N : Nat} {g : Nat} {a1 : Int32} {a2 : Int32} {a3 : Int32} {out : Nat} {x : zv_X} {r : zv_X × Int32} (h : mL_type N g a1 a2 a3 out x = some r) : zv_TE d yL_type cL_type 6 (some .int) [(0, 12, 15, 21), (0, 12, 19, 13), (0, 12, 23, 15)] [.ref g, .int a1, .int a2, .int a3, .ref out] x r.1 (some (.int r.2)) := by
  refine zh_enter (by decide) (Nat.le_of_ble_eq_true rfl) ?_
  show zv_V _ 0 [(0, .ref g), (1, .int a1), (2, .int a2), (3, .int a3), (4, .ref out)] [] x
  unfold mL_type at h
  obtain ⟨hk, h⟩ := zg h
  obtain ⟨o, e, h⟩ := zb h
  obtain ⟨fs, hb⟩ := zm_k_ok hk
  refine zv_aload (n := 4) dL_type_0 rfl ?_
  refine zv_iconst (v := 0) dL_type_2 (by decide) ?_
  refine zv_aload_n (n := 0) dL_type_3 rfl rfl ?_
  refine zv_iload_n (n := 1) dL_type_4 rfl rfl ?_
  refine zv_iload_n (n := 2) dL_type_5 rfl rfl ?_
  refine zv_iload_n (n := 3) dL_type_6 rfl rfl ?_
  refine zx_callV (st := [.int 0, .ref out]) dL_type_7 mw_X8_type wd_536 wd_537 wd_538 (show d - 1 + 1 ≤ d by omega) (As := [.int a1, .int a2, .int a3]) rfl rfl (Nat.le_of_ble_eq_true rfl) hb (q := (RX8, TX8, 5)) rfl rfl (tX8_type (d := d - 1) (by omega) e) (fun v hv => ?_) (fun E hE => ?_)
  · rw [hv] at h
    dsimp only at h
    refine zv_i2l dL_type_10 ?_
    refine zr_sL dL_type_11 h (fun x2 e2 h => ?_)
    refine zv_goto (tgt := 27) dL_type_12 (by decide) ?_
    refine zv_iconst (v := 0) dL_type_27 (by decide) ?_
    cases h
    exact zh_iret (sz := x2.2.1) (xo := x2) dL_type_28 rfl (Nat.le_refl _)
  · rw [hE] at h
    dsimp only at h
    rcases zif h with ⟨rfl, h⟩ | ⟨_, h⟩
    · cases h
      refine ⟨[], ⟨0, 12, 15, 21⟩, [⟨0, 12, 19, 13⟩, ⟨0, 12, 23, 15⟩], rfl, (fun _ h9 => nomatch h9), by decide, by decide, wd_535, by decide, fun q9 sz hsz _ => ?_⟩
      refine zv_astore (L' := [(5, .ref q9), (0, .ref g), (1, .int a1), (2, .int a2), (3, .int a3), (4, .ref out)]) dL_type_15 (Nat.le_of_ble_eq_true rfl) rfl ?_
      refine zv_iconst (v := 1) dL_type_17 (by decide) ?_
      exact zh_iret dL_type_18 rfl hsz
    rcases zif h with ⟨rfl, h⟩ | ⟨_, h⟩
    · cases h
      refine ⟨[⟨0, 12, 15, 21⟩], ⟨0, 12, 19, 13⟩, [⟨0, 12, 23, 15⟩], rfl, (List.forall_mem_cons.mpr ⟨⟨by decide, by decide, "java/lang/IndexOutOfBoundsException", wd_535, by decide⟩, (fun _ h9 => nomatch h9)⟩), by decide, by decide, wd_437, by decide, fun q9 sz hsz _ => ?_⟩
      refine zv_astore (L' := [(5, .ref q9), (0, .ref g), (1, .int a1), (2, .int a2), (3, .int a3), (4, .ref out)]) dL_type_19 (Nat.le_of_ble_eq_true rfl) rfl ?_
      refine zv_iconst (v := 2) dL_type_21 (by decide) ?_
      exact zh_iret dL_type_22 rfl hsz
    rcases zif h with ⟨rfl, h⟩ | ⟨_, h⟩
    · cases h
      refine ⟨[⟨0, 12, 15, 21⟩, ⟨0, 12, 19, 13⟩], ⟨0, 12, 23, 15⟩, [], rfl, (List.forall_mem_cons.mpr ⟨⟨by decide, by decide, "java/lang/IndexOutOfBoundsException", wd_535, by decide⟩, (List.forall_mem_cons.mpr ⟨⟨by decide, by decide, "java/lang/IllegalArgumentException", wd_437, by decide⟩, (fun _ h9 => nomatch h9)⟩)⟩), by decide, by decide, wd_438, by decide, fun q9 sz hsz _ => ?_⟩
      refine zv_astore (L' := [(5, .ref q9), (0, .ref g), (1, .int a1), (2, .int a2), (3, .int a3), (4, .ref out)]) dL_type_23 (Nat.le_of_ble_eq_true rfl) rfl ?_
      refine zv_iconst (v := 3) dL_type_25 (by decide) ?_
      exact zh_iret dL_type_26 rfl hsz
    cases h
def mL_handler (N : Nat) (g : Nat) (a1 : Int32) (a2 : Int32) (a3 : Int32) (a4 : Int32) (out : Nat) (x : zv_X) : Option (zv_X × Int32) := if zm_k x g 8 = true then (mX8_handler N g a1 a2 a3 a4 x).bind fun o => match o.2 with
  | .inl v => (zm_sL o.1 out 0 v.toInt64).bind fun x2 => some (x2, 0)
  | .inr E => if E = "java/lang/IllegalArgumentException" then some (o.1, 1) else if E = "java/lang/UnsupportedOperationException" then some (o.1, 2) else none
  else none
theorem tL_handler {d : Nat} (hd : 7 ≤ d) {N : Nat} {g : Nat} {a1 : Int32} {a2 : Int32} {a3 : Int32} {a4 : Int32} {out : Nat} {x : zv_X} {r : zv_X × Int32} (h : mL_handler N g a1 a2 a3 a4 out x = some r) : zv_TE d yL_handler cL_handler 7 (some .int) [(0, 14, 17, 13), (0, 14, 21, 15)] [.ref g, .int a1, .int a2, .int a3, .int a4, .ref out] x r.1 (some (.int r.2)) := by
  refine zh_enter (by decide) (Nat.le_of_ble_eq_true rfl) ?_
  show zv_V _ 0 [(0, .ref g), (1, .int a1), (2, .int a2), (3, .int a3), (4, .int a4), (5, .ref out)] [] x
  unfold mL_handler at h
  obtain ⟨hk, h⟩ := zg h
  obtain ⟨o, e, h⟩ := zb h
  obtain ⟨fs, hb⟩ := zm_k_ok hk
  refine zv_aload (n := 5) dL_handler_0 rfl ?_
  refine zv_iconst (v := 0) dL_handler_2 (by decide) ?_
  refine zv_aload_n (n := 0) dL_handler_3 rfl rfl ?_
  refine zv_iload_n (n := 1) dL_handler_4 rfl rfl ?_
  refine zv_iload_n (n := 2) dL_handler_5 rfl rfl ?_
  refine zv_iload_n (n := 3) dL_handler_6 rfl rfl ?_
  refine zv_iload (n := 4) dL_handler_7 rfl ?_
  refine zx_callV (st := [.int 0, .ref out]) dL_handler_9 mw_X8_handler wd_569 wd_570 wd_571 (show d - 1 + 1 ≤ d by omega) (As := [.int a1, .int a2, .int a3, .int a4]) rfl rfl (Nat.le_of_ble_eq_true rfl) hb (q := (RX8, TX8, 5)) rfl rfl (tX8_handler (d := d - 1) (by omega) e) (fun v hv => ?_) (fun E hE => ?_)
  · rw [hv] at h
    dsimp only at h
    refine zv_i2l dL_handler_12 ?_
    refine zr_sL dL_handler_13 h (fun x2 e2 h => ?_)
    refine zv_goto (tgt := 25) dL_handler_14 (by decide) ?_
    refine zv_iconst (v := 0) dL_handler_25 (by decide) ?_
    cases h
    exact zh_iret (sz := x2.2.1) (xo := x2) dL_handler_26 rfl (Nat.le_refl _)
  · rw [hE] at h
    dsimp only at h
    rcases zif h with ⟨rfl, h⟩ | ⟨_, h⟩
    · cases h
      refine ⟨[], ⟨0, 14, 17, 13⟩, [⟨0, 14, 21, 15⟩], rfl, (fun _ h9 => nomatch h9), by decide, by decide, wd_437, by decide, fun q9 sz hsz _ => ?_⟩
      refine zv_astore (L' := [(6, .ref q9), (0, .ref g), (1, .int a1), (2, .int a2), (3, .int a3), (4, .int a4), (5, .ref out)]) dL_handler_17 (Nat.le_of_ble_eq_true rfl) rfl ?_
      refine zv_iconst (v := 1) dL_handler_19 (by decide) ?_
      exact zh_iret dL_handler_20 rfl hsz
    rcases zif h with ⟨rfl, h⟩ | ⟨_, h⟩
    · cases h
      refine ⟨[⟨0, 14, 17, 13⟩], ⟨0, 14, 21, 15⟩, [], rfl, (List.forall_mem_cons.mpr ⟨⟨by decide, by decide, "java/lang/IllegalArgumentException", wd_437, by decide⟩, (fun _ h9 => nomatch h9)⟩), by decide, by decide, wd_438, by decide, fun q9 sz hsz _ => ?_⟩
      refine zv_astore (L' := [(6, .ref q9), (0, .ref g), (1, .int a1), (2, .int a2), (3, .int a3), (4, .int a4), (5, .ref out)]) dL_handler_21 (Nat.le_of_ble_eq_true rfl) rfl ?_
      refine zv_iconst (v := 2) dL_handler_23 (by decide) ?_
      exact zh_iret dL_handler_24 rfl hsz
    cases h
def mL_method (N : Nat) (g : Nat) (a1 : Int32) (a2 : Int32) (a3 : Int32) (a4 : Int32) (out : Nat) (x : zv_X) : Option (zv_X × Int32) := if zm_k x g 8 = true then (mX8_method N g a1 a2 a3 a4 x).bind fun o => match o.2 with
  | .inl v => (zm_sL o.1 out 0 v.toInt64).bind fun x2 => some (x2, 0)
  | .inr E => if E = "java/lang/IllegalArgumentException" then some (o.1, 1) else if E = "java/lang/UnsupportedOperationException" then some (o.1, 2) else none
  else none
theorem tL_method {d : Nat} (hd : 8 ≤ d) {N : Nat} {g : Nat} {a1 : Int32} {a2 : Int32} {a3 : Int32} {a4 : Int32} {out : Nat} {x : zv_X} {r : zv_X × Int32} (h : mL_method N g a1 a2 a3 a4 out x = some r) : zv_TE d yL_method cL_method 7 (some .int) [(0, 14, 17, 13), (0, 14, 21, 15)] [.ref g, .int a1, .int a2, .int a3, .int a4, .ref out] x r.1 (some (.int r.2)) := by
  refine zh_enter (by decide) (Nat.le_of_ble_eq_true rfl) ?_
  show zv_V _ 0 [(0, .ref g), (1, .int a1), (2, .int a2), (3, .int a3), (4, .int a4), (5, .ref out)] [] x
  unfold mL_method at h
  obtain ⟨hk, h⟩ := zg h
  obtain ⟨o, e, h⟩ := zb h
  obtain ⟨fs, hb⟩ := zm_k_ok hk
  refine zv_aload (n := 5) dL_method_0 rfl ?_
  refine zv_iconst (v := 0) dL_method_2 (by decide) ?_
  refine zv_aload_n (n := 0) dL_method_3 rfl rfl ?_
  refine zv_iload_n (n := 1) dL_method_4 rfl rfl ?_
  refine zv_iload_n (n := 2) dL_method_5 rfl rfl ?_
  refine zv_iload_n (n := 3) dL_method_6 rfl rfl ?_
  refine zv_iload (n := 4) dL_method_7 rfl ?_
  refine zx_callV (st := [.int 0, .ref out]) dL_method_9 mw_X8_method wd_584 wd_585 wd_586 (show d - 1 + 1 ≤ d by omega) (As := [.int a1, .int a2, .int a3, .int a4]) rfl rfl (Nat.le_of_ble_eq_true rfl) hb (q := (RX8, TX8, 5)) rfl rfl (tX8_method (d := d - 1) (by omega) e) (fun v hv => ?_) (fun E hE => ?_)
  · rw [hv] at h
    dsimp only at h
    refine zv_i2l dL_method_12 ?_
    refine zr_sL dL_method_13 h (fun x2 e2 h => ?_)
    refine zv_goto (tgt := 25) dL_method_14 (by decide) ?_
    refine zv_iconst (v := 0) dL_method_25 (by decide) ?_
    cases h
    exact zh_iret (sz := x2.2.1) (xo := x2) dL_method_26 rfl (Nat.le_refl _)
  · rw [hE] at h
    dsimp only at h
    rcases zif h with ⟨rfl, h⟩ | ⟨_, h⟩
    · cases h
      refine ⟨[], ⟨0, 14, 17, 13⟩, [⟨0, 14, 21, 15⟩], rfl, (fun _ h9 => nomatch h9), by decide, by decide, wd_437, by decide, fun q9 sz hsz _ => ?_⟩
      refine zv_astore (L' := [(6, .ref q9), (0, .ref g), (1, .int a1), (2, .int a2), (3, .int a3), (4, .int a4), (5, .ref out)]) dL_method_17 (Nat.le_of_ble_eq_true rfl) rfl ?_
      refine zv_iconst (v := 1) dL_method_19 (by decide) ?_
      exact zh_iret dL_method_20 rfl hsz
    rcases zif h with ⟨rfl, h⟩ | ⟨_, h⟩
    · cases h
      refine ⟨[⟨0, 14, 17, 13⟩], ⟨0, 14, 21, 15⟩, [], rfl, (List.forall_mem_cons.mpr ⟨⟨by decide, by decide, "java/lang/IllegalArgumentException", wd_437, by decide⟩, (fun _ h9 => nomatch h9)⟩), by decide, by decide, wd_438, by decide, fun q9 sz hsz _ => ?_⟩
      refine zv_astore (L' := [(6, .ref q9), (0, .ref g), (1, .int a1), (2, .int a2), (3, .int a3), (4, .int a4), (5, .ref out)]) dL_method_21 (Nat.le_of_ble_eq_true rfl) rfl ?_
      refine zv_iconst (v := 2) dL_method_23 (by decide) ?_
      exact zh_iret dL_method_24 rfl hsz
    cases h
def mL_run (N : Nat) (g : Nat) (a1 : Int32) (a2 : Int64) (a3 : Int64) (a4 : Int32) (out : Nat) (x : zv_X) : Option (zv_X × Int32) := if zm_k x g 8 = true then (mX8_run N g a1 a2 a3 a4 x).bind fun o => match o.2 with
  | .inl v => (zm_sL o.1 out 0 v.toInt64).bind fun x2 => some (x2, 0)
  | .inr E => if E = "java/lang/IndexOutOfBoundsException" then some (o.1, 1) else if E = "java/lang/IllegalArgumentException" then some (o.1, 2) else none
  else none
theorem tL_run {d : Nat} (hd : 8 ≤ d) {N : Nat} {g : Nat} {a1 : Int32} {a2 : Int64} {a3 : Int64} {a4 : Int32} {out : Nat} {x : zv_X} {r : zv_X × Int32} (h : mL_run N g a1 a2 a3 a4 out x = some r) : zv_TE d yL_run cL_run 9 (some .int) [(0, 15, 18, 21), (0, 15, 22, 13)] [.ref g, .int a1, .long a2, .long a3, .int a4, .ref out] x r.1 (some (.int r.2)) := by
  refine zh_enter (by decide) (Nat.le_of_ble_eq_true rfl) ?_
  show zv_V _ 0 [(0, .ref g), (1, .int a1), (2, .long a2), (4, .long a3), (6, .int a4), (7, .ref out)] [] x
  unfold mL_run at h
  obtain ⟨hk, h⟩ := zg h
  obtain ⟨o, e, h⟩ := zb h
  obtain ⟨fs, hb⟩ := zm_k_ok hk
  refine zv_aload (n := 5) dL_run_0 rfl ?_
  refine zv_iconst (v := 0) dL_run_2 (by decide) ?_
  refine zv_aload_n (n := 0) dL_run_3 rfl rfl ?_
  refine zv_iload_n (n := 1) dL_run_4 rfl rfl ?_
  refine zv_lload_n (n := 2) dL_run_5 rfl rfl ?_
  refine zv_lload (n := 3) dL_run_6 rfl ?_
  refine zv_iload (n := 4) dL_run_8 rfl ?_
  refine zx_callV (st := [.int 0, .ref out]) dL_run_10 mw_X8_run wd_833 wd_834 wd_835 (show d - 1 + 1 ≤ d by omega) (As := [.int a1, .long a2, .long a3, .int a4]) rfl rfl (Nat.le_of_ble_eq_true rfl) hb (q := (RX8, TX8, 5)) rfl rfl (tX8_run (d := d - 1) (by omega) e) (fun v hv => ?_) (fun E hE => ?_)
  · rw [hv] at h
    dsimp only at h
    refine zv_i2l dL_run_13 ?_
    refine zr_sL dL_run_14 h (fun x2 e2 h => ?_)
    refine zv_goto (tgt := 26) dL_run_15 (by decide) ?_
    refine zv_iconst (v := 0) dL_run_26 (by decide) ?_
    cases h
    exact zh_iret (sz := x2.2.1) (xo := x2) dL_run_27 rfl (Nat.le_refl _)
  · rw [hE] at h
    dsimp only at h
    rcases zif h with ⟨rfl, h⟩ | ⟨_, h⟩
    · cases h
      refine ⟨[], ⟨0, 15, 18, 21⟩, [⟨0, 15, 22, 13⟩], rfl, (fun _ h9 => nomatch h9), by decide, by decide, wd_535, by decide, fun q9 sz hsz _ => ?_⟩
      refine zv_astore (L' := [(8, .ref q9), (0, .ref g), (1, .int a1), (2, .long a2), (4, .long a3), (6, .int a4), (7, .ref out)]) dL_run_18 (Nat.le_of_ble_eq_true rfl) rfl ?_
      refine zv_iconst (v := 1) dL_run_20 (by decide) ?_
      exact zh_iret dL_run_21 rfl hsz
    rcases zif h with ⟨rfl, h⟩ | ⟨_, h⟩
    · cases h
      refine ⟨[⟨0, 15, 18, 21⟩], ⟨0, 15, 22, 13⟩, [], rfl, (List.forall_mem_cons.mpr ⟨⟨by decide, by decide, "java/lang/IndexOutOfBoundsException", wd_535, by decide⟩, (fun _ h9 => nomatch h9)⟩), by decide, by decide, wd_437, by decide, fun q9 sz hsz _ => ?_⟩
      refine zv_astore (L' := [(8, .ref q9), (0, .ref g), (1, .int a1), (2, .long a2), (4, .long a3), (6, .int a4), (7, .ref out)]) dL_run_22 (Nat.le_of_ble_eq_true rfl) rfl ?_
      refine zv_iconst (v := 2) dL_run_24 (by decide) ?_
      exact zh_iret dL_run_25 rfl hsz
    cases h
def mL_count (N : Nat) (g : Nat) (a1 : Int32) (out : Nat) (x : zv_X) : Option (zv_X × Int32) := if zm_k x g 8 = true then (mX8_count N g a1 x).bind fun o => match o.2 with
  | .inl v => (zm_sL o.1 out 0 v.toInt64).bind fun x2 => some (x2, 0)
  | .inr E => if E = "java/lang/IndexOutOfBoundsException" then some (o.1, 1) else none
  else none
theorem tL_count {d : Nat} (hd : 7 ≤ d) {N : Nat} {g : Nat} {a1 : Int32} {out : Nat} {x : zv_X} {r : zv_X × Int32} (h : mL_count N g a1 out x = some r) : zv_TE d yL_count cL_count 4 (some .int) [(0, 9, 12, 21)] [.ref g, .int a1, .ref out] x r.1 (some (.int r.2)) := by
  refine zh_enter (by decide) (Nat.le_of_ble_eq_true rfl) ?_
  show zv_V _ 0 [(0, .ref g), (1, .int a1), (2, .ref out)] [] x
  unfold mL_count at h
  obtain ⟨hk, h⟩ := zg h
  obtain ⟨o, e, h⟩ := zb h
  obtain ⟨fs, hb⟩ := zm_k_ok hk
  refine zv_aload_n (n := 2) dL_count_0 rfl rfl ?_
  refine zv_iconst (v := 0) dL_count_1 (by decide) ?_
  refine zv_aload_n (n := 0) dL_count_2 rfl rfl ?_
  refine zv_iload_n (n := 1) dL_count_3 rfl rfl ?_
  refine zx_callV (st := [.int 0, .ref out]) dL_count_4 mw_X8_count wd_1392 wd_1393 wd_1394 (show d - 1 + 1 ≤ d by omega) (As := [.int a1]) rfl rfl (Nat.le_of_ble_eq_true rfl) hb (q := (RX8, TX8, 5)) rfl rfl (tX8_count (d := d - 1) (by omega) e) (fun v hv => ?_) (fun E hE => ?_)
  · rw [hv] at h
    dsimp only at h
    refine zv_i2l dL_count_7 ?_
    refine zr_sL dL_count_8 h (fun x2 e2 h => ?_)
    refine zv_goto (tgt := 15) dL_count_9 (by decide) ?_
    refine zv_iconst (v := 0) dL_count_15 (by decide) ?_
    cases h
    exact zh_iret (sz := x2.2.1) (xo := x2) dL_count_16 rfl (Nat.le_refl _)
  · rw [hE] at h
    dsimp only at h
    rcases zif h with ⟨rfl, h⟩ | ⟨_, h⟩
    · cases h
      refine ⟨[], ⟨0, 9, 12, 21⟩, [], rfl, (fun _ h9 => nomatch h9), by decide, by decide, wd_535, by decide, fun q9 sz hsz _ => ?_⟩
      refine zv_astore_n (L' := [(3, .ref q9), (0, .ref g), (1, .int a1), (2, .ref out)]) dL_count_12 rfl (Nat.le_of_ble_eq_true rfl) rfl ?_
      refine zv_iconst (v := 1) dL_count_13 (by decide) ?_
      exact zh_iret dL_count_14 rfl hsz
    cases h
