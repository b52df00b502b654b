theorem zl_feed {N b L n0 i g mo ou : Nat} {xs : Nat → Int32} {e0 : Nat × Nat} {x : zv_X} {r1 : zv_X × Int32} (hL : L ≤ 3585) (hi : i + 7 ≤ L) (h1 : mL_feed N g (xs (i + 1)) (xs (i + 2)) (xs (i + 3)) (xs (i + 4)) (xs (i + 5)) (xs (i + 6)) ou x = some r1)
    (h2 : ∀ sz, x.2.1 ≤ sz → sz ≤ r1.1.2.1 → ∃ r2 : zv_X × Int32, zm_k (zv_sz r1.1 sz) mo 9 = true ∧ mX9_feed N mo (xs (i + 1)) (xs (i + 2)) (xs (i + 3)) (xs (i + 4)) (xs (i + 5)) (xs (i + 6)) (zv_sz r1.1 sz) = some r2 ∧ zm_k r2.1 mo 9 = true ∧ mX9_thrown N mo r2.1 = some (r2.1, r1.2) ∧ (r1.2 = 0 → zm_aL r2.1 ou 0 = some r2.2.toInt64) ∧ zv_V (zlf b L n0 xs e0) 719 [(0, .ref b), (1, .ref g), (2, .ref mo), (3, .ref ou), (4, .int (Int32.ofNat i))] [] r2.1) :
    zv_V (zlf b L n0 xs e0) 96 [(0, .ref b), (1, .ref g), (2, .ref mo), (3, .ref ou), (4, .int (Int32.ofNat i))] [] x := by
  refine zv_aload_n (n := 1) dL_law_96 rfl rfl ?_
  refine zv_aload_n (n := 0) dL_law_97 rfl rfl ?_
  refine zv_iload (n := 4) dL_law_98 rfl ?_
  refine zv_iconst (v := 1) dL_law_100 (by decide) ?_
  refine zv_iadd dL_law_101 ?_
  refine zl_sld (k := i + 1) (zi_add i 1) (by omega) dL_law_102 ?_
  refine zv_aload_n (n := 0) dL_law_103 rfl rfl ?_
  refine zv_iload (n := 4) dL_law_104 rfl ?_
  refine zv_iconst (v := 2) dL_law_106 (by decide) ?_
  refine zv_iadd dL_law_107 ?_
  refine zl_sld (k := i + 2) (zi_add i 2) (by omega) dL_law_108 ?_
  refine zv_aload_n (n := 0) dL_law_109 rfl rfl ?_
  refine zv_iload (n := 4) dL_law_110 rfl ?_
  refine zv_iconst (v := 3) dL_law_112 (by decide) ?_
  refine zv_iadd dL_law_113 ?_
  refine zl_sld (k := i + 3) (zi_add i 3) (by omega) dL_law_114 ?_
  refine zv_aload_n (n := 0) dL_law_115 rfl rfl ?_
  refine zv_iload (n := 4) dL_law_116 rfl ?_
  refine zv_iconst (v := 4) dL_law_118 (by decide) ?_
  refine zv_iadd dL_law_119 ?_
  refine zl_sld (k := i + 4) (zi_add i 4) (by omega) dL_law_120 ?_
  refine zv_aload_n (n := 0) dL_law_121 rfl rfl ?_
  refine zv_iload (n := 4) dL_law_122 rfl ?_
  refine zv_iconst (v := 5) dL_law_124 (by decide) ?_
  refine zv_iadd dL_law_125 ?_
  refine zl_sld (k := i + 5) (zi_add i 5) (by omega) dL_law_126 ?_
  refine zv_aload_n (n := 0) dL_law_127 rfl rfl ?_
  refine zv_iload (n := 4) dL_law_128 rfl ?_
  refine zv_bipush (v := 6) dL_law_130 (by decide) ?_
  refine zv_iadd dL_law_132 ?_
  refine zl_sld (k := i + 6) (zi_add i 6) (by omega) dL_law_133 ?_
  refine zv_aload_n (n := 3) dL_law_134 rfl rfl ?_
  refine zh_callS (st := []) (d := 39) (n := 8) (As := [.ref g, .int (xs (i + 1)), .int (xs (i + 2)), .int (xs (i + 3)), .int (xs (i + 4)), .int (xs (i + 5)), .int (xs (i + 6)), .ref ou]) dL_law_135 wd_436 wd_90 (by decide +kernel) (by decide) wd_434 wd_435 (Nat.le_of_ble_eq_true rfl) rfl rfl (Nat.le_of_ble_eq_true rfl) (tL_feed (d := 39) (by omega) h1) (fun sz hs1 hs2 => ?_)
  obtain ⟨r2, k1, e2, k2, e3, e4, kv⟩ := h2 sz hs1 hs2
  obtain ⟨fs1, kb1⟩ := zm_k_ok k1
  obtain ⟨fs2, kb2⟩ := zm_k_ok k2
  refine zv_istore dL_law_138 (Nat.le_of_ble_eq_true rfl) rfl ?_
  refine zv_aload_n (n := 3) dL_law_140 rfl rfl ?_
  refine zv_aload_n (n := 1) dL_law_141 rfl rfl ?_
  refine zv_iload (n := 5) dL_law_142 rfl ?_
  refine zv_iconst (v := 1) dL_law_144 (by decide) ?_
  refine zv_iadd dL_law_145 ?_
  refine zl_sld (k := i + 1) (zi_add i 1) (by omega) dL_law_146 ?_
  refine zv_aload_n (n := 1) dL_law_147 rfl rfl ?_
  refine zv_iload (n := 5) dL_law_148 rfl ?_
  refine zv_iconst (v := 2) dL_law_150 (by decide) ?_
  refine zv_iadd dL_law_151 ?_
  refine zl_sld (k := i + 2) (zi_add i 2) (by omega) dL_law_152 ?_
  refine zv_aload_n (n := 1) dL_law_153 rfl rfl ?_
  refine zv_iload (n := 5) dL_law_154 rfl ?_
  refine zv_iconst (v := 3) dL_law_156 (by decide) ?_
  refine zv_iadd dL_law_157 ?_
  refine zl_sld (k := i + 3) (zi_add i 3) (by omega) dL_law_158 ?_
  refine zv_aload_n (n := 1) dL_law_159 rfl rfl ?_
  refine zv_iload (n := 5) dL_law_160 rfl ?_
  refine zv_iconst (v := 4) dL_law_162 (by decide) ?_
  refine zv_iadd dL_law_163 ?_
  refine zl_sld (k := i + 4) (zi_add i 4) (by omega) dL_law_164 ?_
  refine zv_aload_n (n := 1) dL_law_165 rfl rfl ?_
  refine zv_iload (n := 5) dL_law_166 rfl ?_
  refine zv_iconst (v := 5) dL_law_168 (by decide) ?_
  refine zv_iadd dL_law_169 ?_
  refine zl_sld (k := i + 5) (zi_add i 5) (by omega) dL_law_170 ?_
  refine zv_aload_n (n := 1) dL_law_171 rfl rfl ?_
  refine zv_iload (n := 5) dL_law_172 rfl ?_
  refine zv_bipush (v := 6) dL_law_174 (by decide) ?_
  refine zv_iadd dL_law_176 ?_
  refine zl_sld (k := i + 6) (zi_add i 6) (by omega) dL_law_177 ?_
  refine zv_callV (st := []) (d := 39) (As := [.int (xs (i + 1)), .int (xs (i + 2)), .int (xs (i + 3)), .int (xs (i + 4)), .int (xs (i + 5)), .int (xs (i + 6))]) (ci := 9) dL_law_178 mw_X9_feed wd_1573 wd_1574 wd_1575 (Nat.le_of_ble_eq_true rfl) rfl rfl (Nat.le_of_ble_eq_true rfl) kb1 rfl rfl (tX9_feed (d := 39) (by omega) e2) ?_
  refine zv_istore dL_law_181 (Nat.le_of_ble_eq_true rfl) rfl ?_
  refine zv_aload_n (n := 4) dL_law_183 rfl rfl ?_
  refine zv_callV (st := []) (d := 39) (As := []) (ci := 9) dL_law_184 mw_X9_thrown wd_1569 wd_1570 wd_1571 (Nat.le_of_ble_eq_true rfl) rfl rfl (Nat.le_of_ble_eq_true rfl) kb2 rfl rfl (tX9_thrown (d := 39) (by omega) e3) ?_
  refine zv_iload (n := 1) dL_law_187 rfl ?_
  refine zv_icmp_eq (tgt := 194) dL_law_189 (by decide) (fun _ => ?_) (fun c => absurd rfl c)
  refine zv_iload (n := 1) dL_law_194 rfl ?_
  refine zv_if_ne (tgt := 211) dL_law_196 (by decide) (fun c => ?_) (fun c => ?_)
  · refine zv_goto (tgt := 719) dL_law_211 (by decide) ?_
    exact zv_fewer [2, 3, 4, 5, 6] rfl kv
  · refine zv_aload_n (n := 5) dL_law_199 rfl rfl ?_
    refine zv_iconst (v := 0) dL_law_200 (by decide) ?_
    refine zr_aL (β := Int64) (g := some) (o := r2.2.toInt64) dL_law_201 (by rw [e4 c]; rfl) (fun v ev hv => ?_)
    cases Option.some.inj hv
    refine zv_iload (n := 0) dL_law_202 rfl ?_
    refine zv_i2l dL_law_204 ?_
    refine zv_lcmp dL_law_205 ?_
    refine zv_if_eq (tgt := 211) dL_law_206 (by decide) (fun _ => ?_) (fun c => absurd (zl_cmp0 _) c)
    refine zv_goto (tgt := 719) dL_law_211 (by decide) ?_
    exact zv_fewer [2, 3, 4, 5, 6] rfl kv
theorem zl_type {N b L n0 i g mo ou : Nat} {xs : Nat → Int32} {e0 : Nat × Nat} {x : zv_X} {r1 : zv_X × Int32} (hL : L ≤ 3585) (hi : i + 7 ≤ L) (h1 : mL_type N g (xs (i + 1)) (xs (i + 2)) (xs (i + 3)) ou x = some r1)
    (h2 : ∀ sz, x.2.1 ≤ sz → sz ≤ r1.1.2.1 → ∃ r2 : zv_X × Int32, zm_k (zv_sz r1.1 sz) mo 9 = true ∧ mX9_type N mo (xs (i + 1)) (xs (i + 2)) (xs (i + 3)) (zv_sz r1.1 sz) = some r2 ∧ zm_k r2.1 mo 9 = true ∧ mX9_thrown N mo r2.1 = some (r2.1, r1.2) ∧ (r1.2 = 0 → zm_aL r2.1 ou 0 = some r2.2.toInt64) ∧ zv_V (zlf b L n0 xs e0) 719 [(0, .ref b), (1, .ref g), (2, .ref mo), (3, .ref ou), (4, .int (Int32.ofNat i))] [] r2.1) :
    zv_V (zlf b L n0 xs e0) 214 [(0, .ref b), (1, .ref g), (2, .ref mo), (3, .ref ou), (4, .int (Int32.ofNat i))] [] x := by
  refine zv_aload_n (n := 1) dL_law_214 rfl rfl ?_
  refine zv_aload_n (n := 0) dL_law_215 rfl rfl ?_
  refine zv_iload (n := 4) dL_law_216 rfl ?_
  refine zv_iconst (v := 1) dL_law_218 (by decide) ?_
  refine zv_iadd dL_law_219 ?_
  refine zl_sld (k := i + 1) (zi_add i 1) (by omega) dL_law_220 ?_
  refine zv_aload_n (n := 0) dL_law_221 rfl rfl ?_
  refine zv_iload (n := 4) dL_law_222 rfl ?_
  refine zv_iconst (v := 2) dL_law_224 (by decide) ?_
  refine zv_iadd dL_law_225 ?_
  refine zl_sld (k := i + 2) (zi_add i 2) (by omega) dL_law_226 ?_
  refine zv_aload_n (n := 0) dL_law_227 rfl rfl ?_
  refine zv_iload (n := 4) dL_law_228 rfl ?_
  refine zv_iconst (v := 3) dL_law_230 (by decide) ?_
  refine zv_iadd dL_law_231 ?_
  refine zl_sld (k := i + 3) (zi_add i 3) (by omega) dL_law_232 ?_
  refine zv_aload_n (n := 3) dL_law_233 rfl rfl ?_
  refine zh_callS (st := []) (d := 39) (n := 5) (As := [.ref g, .int (xs (i + 1)), .int (xs (i + 2)), .int (xs (i + 3)), .ref ou]) dL_law_234 wd_534 wd_90 (by decide +kernel) (by decide) wd_532 wd_533 (Nat.le_of_ble_eq_true rfl) rfl rfl (Nat.le_of_ble_eq_true rfl) (tL_type (d := 39) (by omega) h1) (fun sz hs1 hs2 => ?_)
  obtain ⟨r2, k1, e2, k2, e3, e4, kv⟩ := h2 sz hs1 hs2
  obtain ⟨fs1, kb1⟩ := zm_k_ok k1
  obtain ⟨fs2, kb2⟩ := zm_k_ok k2
  refine zv_istore dL_law_237 (Nat.le_of_ble_eq_true rfl) rfl ?_
  refine zv_aload_n (n := 3) dL_law_239 rfl rfl ?_
  refine zv_aload_n (n := 1) dL_law_240 rfl rfl ?_
  refine zv_iload (n := 5) dL_law_241 rfl ?_
  refine zv_iconst (v := 1) dL_law_243 (by decide) ?_
  refine zv_iadd dL_law_244 ?_
  refine zl_sld (k := i + 1) (zi_add i 1) (by omega) dL_law_245 ?_
  refine zv_aload_n (n := 1) dL_law_246 rfl rfl ?_
  refine zv_iload (n := 5) dL_law_247 rfl ?_
  refine zv_iconst (v := 2) dL_law_249 (by decide) ?_
  refine zv_iadd dL_law_250 ?_
  refine zl_sld (k := i + 2) (zi_add i 2) (by omega) dL_law_251 ?_
  refine zv_aload_n (n := 1) dL_law_252 rfl rfl ?_
  refine zv_iload (n := 5) dL_law_253 rfl ?_
  refine zv_iconst (v := 3) dL_law_255 (by decide) ?_
  refine zv_iadd dL_law_256 ?_
  refine zl_sld (k := i + 3) (zi_add i 3) (by omega) dL_law_257 ?_
  refine zv_callV (st := []) (d := 39) (As := [.int (xs (i + 1)), .int (xs (i + 2)), .int (xs (i + 3))]) (ci := 9) dL_law_258 mw_X9_type wd_1577 wd_1578 wd_1579 (Nat.le_of_ble_eq_true rfl) rfl rfl (Nat.le_of_ble_eq_true rfl) kb1 rfl rfl (tX9_type (d := 39) (by omega) e2) ?_
  refine zv_istore dL_law_261 (Nat.le_of_ble_eq_true rfl) rfl ?_
  refine zv_aload_n (n := 4) dL_law_263 rfl rfl ?_
  refine zv_callV (st := []) (d := 39) (As := []) (ci := 9) dL_law_264 mw_X9_thrown wd_1569 wd_1570 wd_1571 (Nat.le_of_ble_eq_true rfl) rfl rfl (Nat.le_of_ble_eq_true rfl) kb2 rfl rfl (tX9_thrown (d := 39) (by omega) e3) ?_
  refine zv_iload (n := 1) dL_law_267 rfl ?_
  refine zv_icmp_eq (tgt := 274) dL_law_269 (by decide) (fun _ => ?_) (fun c => absurd rfl c)
  refine zv_iload (n := 1) dL_law_274 rfl ?_
  refine zv_if_ne (tgt := 291) dL_law_276 (by decide) (fun c => ?_) (fun c => ?_)
  · refine zv_goto (tgt := 719) dL_law_291 (by decide) ?_
    exact zv_fewer [2, 3, 4, 5, 6] rfl kv
  · refine zv_aload_n (n := 5) dL_law_279 rfl rfl ?_
    refine zv_iconst (v := 0) dL_law_280 (by decide) ?_
    refine zr_aL (β := Int64) (g := some) (o := r2.2.toInt64) dL_law_281 (by rw [e4 c]; rfl) (fun v ev hv => ?_)
    cases Option.some.inj hv
    refine zv_iload (n := 0) dL_law_282 rfl ?_
    refine zv_i2l dL_law_284 ?_
    refine zv_lcmp dL_law_285 ?_
    refine zv_if_eq (tgt := 291) dL_law_286 (by decide) (fun _ => ?_) (fun c => absurd (zl_cmp0 _) c)
    refine zv_goto (tgt := 719) dL_law_291 (by decide) ?_
    exact zv_fewer [2, 3, 4, 5, 6] rfl kv
theorem zl_handler {N b L n0 i g mo ou : Nat} {xs : Nat → Int32} {e0 : Nat × Nat} {x : zv_X} {r1 : zv_X × Int32} (hL : L ≤ 3585) (hi : i + 7 ≤ L) (h1 : mL_handler N g (xs (i + 1)) (xs (i + 2)) (xs (i + 3)) (xs (i + 4)) ou x = some r1)
    (h2 : ∀ sz, x.2.1 ≤ sz → sz ≤ r1.1.2.1 → ∃ r2 : zv_X × Int32, zm_k (zv_sz r1.1 sz) mo 9 = true ∧ mX9_handler N mo (xs (i + 1)) (xs (i + 2)) (xs (i + 3)) (xs (i + 4)) (zv_sz r1.1 sz) = some r2 ∧ zm_k r2.1 mo 9 = true ∧ mX9_thrown N mo r2.1 = some (r2.1, r1.2) ∧ (r1.2 = 0 → zm_aL r2.1 ou 0 = some r2.2.toInt64) ∧ zv_V (zlf b L n0 xs e0) 719 [(0, .ref b), (1, .ref g), (2, .ref mo), (3, .ref ou), (4, .int (Int32.ofNat i))] [] r2.1) :
    zv_V (zlf b L n0 xs e0) 294 [(0, .ref b), (1, .ref g), (2, .ref mo), (3, .ref ou), (4, .int (Int32.ofNat i))] [] x := by
  refine zv_aload_n (n := 1) dL_law_294 rfl rfl ?_
  refine zv_aload_n (n := 0) dL_law_295 rfl rfl ?_
  refine zv_iload (n := 4) dL_law_296 rfl ?_
  refine zv_iconst (v := 1) dL_law_298 (by decide) ?_
  refine zv_iadd dL_law_299 ?_
  refine zl_sld (k := i + 1) (zi_add i 1) (by omega) dL_law_300 ?_
  refine zv_aload_n (n := 0) dL_law_301 rfl rfl ?_
  refine zv_iload (n := 4) dL_law_302 rfl ?_
  refine zv_iconst (v := 2) dL_law_304 (by decide) ?_
  refine zv_iadd dL_law_305 ?_
  refine zl_sld (k := i + 2) (zi_add i 2) (by omega) dL_law_306 ?_
  refine zv_aload_n (n := 0) dL_law_307 rfl rfl ?_
  refine zv_iload (n := 4) dL_law_308 rfl ?_
  refine zv_iconst (v := 3) dL_law_310 (by decide) ?_
  refine zv_iadd dL_law_311 ?_
  refine zl_sld (k := i + 3) (zi_add i 3) (by omega) dL_law_312 ?_
  refine zv_aload_n (n := 0) dL_law_313 rfl rfl ?_
  refine zv_iload (n := 4) dL_law_314 rfl ?_
  refine zv_iconst (v := 4) dL_law_316 (by decide) ?_
  refine zv_iadd dL_law_317 ?_
  refine zl_sld (k := i + 4) (zi_add i 4) (by omega) dL_law_318 ?_
  refine zv_aload_n (n := 3) dL_law_319 rfl rfl ?_
  refine zh_callS (st := []) (d := 39) (n := 6) (As := [.ref g, .int (xs (i + 1)), .int (xs (i + 2)), .int (xs (i + 3)), .int (xs (i + 4)), .ref ou]) dL_law_320 wd_568 wd_90 (by decide +kernel) (by decide) wd_566 wd_567 (Nat.le_of_ble_eq_true rfl) rfl rfl (Nat.le_of_ble_eq_true rfl) (tL_handler (d := 39) (by omega) h1) (fun sz hs1 hs2 => ?_)
  obtain ⟨r2, k1, e2, k2, e3, e4, kv⟩ := h2 sz hs1 hs2
  obtain ⟨fs1, kb1⟩ := zm_k_ok k1
  obtain ⟨fs2, kb2⟩ := zm_k_ok k2
  refine zv_istore dL_law_323 (Nat.le_of_ble_eq_true rfl) rfl ?_
  refine zv_aload_n (n := 3) dL_law_325 rfl rfl ?_
  refine zv_aload_n (n := 1) dL_law_326 rfl rfl ?_
  refine zv_iload (n := 5) dL_law_327 rfl ?_
  refine zv_iconst (v := 1) dL_law_329 (by decide) ?_
  refine zv_iadd dL_law_330 ?_
  refine zl_sld (k := i + 1) (zi_add i 1) (by omega) dL_law_331 ?_
  refine zv_aload_n (n := 1) dL_law_332 rfl rfl ?_
  refine zv_iload (n := 5) dL_law_333 rfl ?_
  refine zv_iconst (v := 2) dL_law_335 (by decide) ?_
  refine zv_iadd dL_law_336 ?_
  refine zl_sld (k := i + 2) (zi_add i 2) (by omega) dL_law_337 ?_
  refine zv_aload_n (n := 1) dL_law_338 rfl rfl ?_
  refine zv_iload (n := 5) dL_law_339 rfl ?_
  refine zv_iconst (v := 3) dL_law_341 (by decide) ?_
  refine zv_iadd dL_law_342 ?_
  refine zl_sld (k := i + 3) (zi_add i 3) (by omega) dL_law_343 ?_
  refine zv_aload_n (n := 1) dL_law_344 rfl rfl ?_
  refine zv_iload (n := 5) dL_law_345 rfl ?_
  refine zv_iconst (v := 4) dL_law_347 (by decide) ?_
  refine zv_iadd dL_law_348 ?_
  refine zl_sld (k := i + 4) (zi_add i 4) (by omega) dL_law_349 ?_
  refine zv_callV (st := []) (d := 39) (As := [.int (xs (i + 1)), .int (xs (i + 2)), .int (xs (i + 3)), .int (xs (i + 4))]) (ci := 9) dL_law_350 mw_X9_handler wd_1581 wd_1582 wd_1583 (Nat.le_of_ble_eq_true rfl) rfl rfl (Nat.le_of_ble_eq_true rfl) kb1 rfl rfl (tX9_handler (d := 39) (by omega) e2) ?_
  refine zv_istore dL_law_353 (Nat.le_of_ble_eq_true rfl) rfl ?_
  refine zv_aload_n (n := 4) dL_law_355 rfl rfl ?_
  refine zv_callV (st := []) (d := 39) (As := []) (ci := 9) dL_law_356 mw_X9_thrown wd_1569 wd_1570 wd_1571 (Nat.le_of_ble_eq_true rfl) rfl rfl (Nat.le_of_ble_eq_true rfl) kb2 rfl rfl (tX9_thrown (d := 39) (by omega) e3) ?_
  refine zv_iload (n := 1) dL_law_359 rfl ?_
  refine zv_icmp_eq (tgt := 366) dL_law_361 (by decide) (fun _ => ?_) (fun c => absurd rfl c)
  refine zv_iload (n := 1) dL_law_366 rfl ?_
  refine zv_if_ne (tgt := 383) dL_law_368 (by decide) (fun c => ?_) (fun c => ?_)
  · refine zv_goto (tgt := 719) dL_law_383 (by decide) ?_
    exact zv_fewer [2, 3, 4, 5, 6] rfl kv
  · refine zv_aload_n (n := 5) dL_law_371 rfl rfl ?_
    refine zv_iconst (v := 0) dL_law_372 (by decide) ?_
    refine zr_aL (β := Int64) (g := some) (o := r2.2.toInt64) dL_law_373 (by rw [e4 c]; rfl) (fun v ev hv => ?_)
    cases Option.some.inj hv
    refine zv_iload (n := 0) dL_law_374 rfl ?_
    refine zv_i2l dL_law_376 ?_
    refine zv_lcmp dL_law_377 ?_
    refine zv_if_eq (tgt := 383) dL_law_378 (by decide) (fun _ => ?_) (fun c => absurd (zl_cmp0 _) c)
    refine zv_goto (tgt := 719) dL_law_383 (by decide) ?_
    exact zv_fewer [2, 3, 4, 5, 6] rfl kv
theorem zl_method {N b L n0 i g mo ou : Nat} {xs : Nat → Int32} {e0 : Nat × Nat} {x : zv_X} {r1 : zv_X × Int32} (hL : L ≤ 3585) (hi : i + 7 ≤ L) (h1 : mL_method N g (xs (i + 1)) (xs (i + 2)) (xs (i + 3)) (xs (i + 4)) ou x = some r1)
    (h2 : ∀ sz, x.2.1 ≤ sz → sz ≤ r1.1.2.1 → ∃ r2 : zv_X × Int32, zm_k (zv_sz r1.1 sz) mo 9 = true ∧ mX9_method N mo (xs (i + 1)) (xs (i + 2)) (xs (i + 3)) (xs (i + 4)) (zv_sz r1.1 sz) = some r2 ∧ zm_k r2.1 mo 9 = true ∧ mX9_thrown N mo r2.1 = some (r2.1, r1.2) ∧ (r1.2 = 0 → zm_aL r2.1 ou 0 = some r2.2.toInt64) ∧ zv_V (zlf b L n0 xs e0) 719 [(0, .ref b), (1, .ref g), (2, .ref mo), (3, .ref ou), (4, .int (Int32.ofNat i))] [] r2.1) :
    zv_V (zlf b L n0 xs e0) 386 [(0, .ref b), (1, .ref g), (2, .ref mo), (3, .ref ou), (4, .int (Int32.ofNat i))] [] x := by
  refine zv_aload_n (n := 1) dL_law_386 rfl rfl ?_
  refine zv_aload_n (n := 0) dL_law_387 rfl rfl ?_
  refine zv_iload (n := 4) dL_law_388 rfl ?_
  refine zv_iconst (v := 1) dL_law_390 (by decide) ?_
  refine zv_iadd dL_law_391 ?_
  refine zl_sld (k := i + 1) (zi_add i 1) (by omega) dL_law_392 ?_
  refine zv_aload_n (n := 0) dL_law_393 rfl rfl ?_
  refine zv_iload (n := 4) dL_law_394 rfl ?_
  refine zv_iconst (v := 2) dL_law_396 (by decide) ?_
  refine zv_iadd dL_law_397 ?_
  refine zl_sld (k := i + 2) (zi_add i 2) (by omega) dL_law_398 ?_
  refine zv_aload_n (n := 0) dL_law_399 rfl rfl ?_
  refine zv_iload (n := 4) dL_law_400 rfl ?_
  refine zv_iconst (v := 3) dL_law_402 (by decide) ?_
  refine zv_iadd dL_law_403 ?_
  refine zl_sld (k := i + 3) (zi_add i 3) (by omega) dL_law_404 ?_
  refine zv_aload_n (n := 0) dL_law_405 rfl rfl ?_
  refine zv_iload (n := 4) dL_law_406 rfl ?_
  refine zv_iconst (v := 4) dL_law_408 (by decide) ?_
  refine zv_iadd dL_law_409 ?_
  refine zl_sld (k := i + 4) (zi_add i 4) (by omega) dL_law_410 ?_
  refine zv_aload_n (n := 3) dL_law_411 rfl rfl ?_
  refine zh_callS (st := []) (d := 39) (n := 6) (As := [.ref g, .int (xs (i + 1)), .int (xs (i + 2)), .int (xs (i + 3)), .int (xs (i + 4)), .ref ou]) dL_law_412 wd_583 wd_90 (by decide +kernel) (by decide) wd_581 wd_582 (Nat.le_of_ble_eq_true rfl) rfl rfl (Nat.le_of_ble_eq_true rfl) (tL_method (d := 39) (by omega) h1) (fun sz hs1 hs2 => ?_)
  obtain ⟨r2, k1, e2, k2, e3, e4, kv⟩ := h2 sz hs1 hs2
  obtain ⟨fs1, kb1⟩ := zm_k_ok k1
  obtain ⟨fs2, kb2⟩ := zm_k_ok k2
  refine zv_istore dL_law_415 (Nat.le_of_ble_eq_true rfl) rfl ?_
  refine zv_aload_n (n := 3) dL_law_417 rfl rfl ?_
  refine zv_aload_n (n := 1) dL_law_418 rfl rfl ?_
  refine zv_iload (n := 5) dL_law_419 rfl ?_
  refine zv_iconst (v := 1) dL_law_421 (by decide) ?_
  refine zv_iadd dL_law_422 ?_
  refine zl_sld (k := i + 1) (zi_add i 1) (by omega) dL_law_423 ?_
  refine zv_aload_n (n := 1) dL_law_424 rfl rfl ?_
  refine zv_iload (n := 5) dL_law_425 rfl ?_
  refine zv_iconst (v := 2) dL_law_427 (by decide) ?_
  refine zv_iadd dL_law_428 ?_
  refine zl_sld (k := i + 2) (zi_add i 2) (by omega) dL_law_429 ?_
  refine zv_aload_n (n := 1) dL_law_430 rfl rfl ?_
  refine zv_iload (n := 5) dL_law_431 rfl ?_
  refine zv_iconst (v := 3) dL_law_433 (by decide) ?_
  refine zv_iadd dL_law_434 ?_
  refine zl_sld (k := i + 3) (zi_add i 3) (by omega) dL_law_435 ?_
  refine zv_aload_n (n := 1) dL_law_436 rfl rfl ?_
  refine zv_iload (n := 5) dL_law_437 rfl ?_
  refine zv_iconst (v := 4) dL_law_439 (by decide) ?_
  refine zv_iadd dL_law_440 ?_
  refine zl_sld (k := i + 4) (zi_add i 4) (by omega) dL_law_441 ?_
  refine zv_callV (st := []) (d := 39) (As := [.int (xs (i + 1)), .int (xs (i + 2)), .int (xs (i + 3)), .int (xs (i + 4))]) (ci := 9) dL_law_442 mw_X9_method wd_1585 wd_1586 wd_1587 (Nat.le_of_ble_eq_true rfl) rfl rfl (Nat.le_of_ble_eq_true rfl) kb1 rfl rfl (tX9_method (d := 39) (by omega) e2) ?_
  refine zv_istore dL_law_445 (Nat.le_of_ble_eq_true rfl) rfl ?_
  refine zv_aload_n (n := 4) dL_law_447 rfl rfl ?_
  refine zv_callV (st := []) (d := 39) (As := []) (ci := 9) dL_law_448 mw_X9_thrown wd_1569 wd_1570 wd_1571 (Nat.le_of_ble_eq_true rfl) rfl rfl (Nat.le_of_ble_eq_true rfl) kb2 rfl rfl (tX9_thrown (d := 39) (by omega) e3) ?_
  refine zv_iload (n := 1) dL_law_451 rfl ?_
  refine zv_icmp_eq (tgt := 458) dL_law_453 (by decide) (fun _ => ?_) (fun c => absurd rfl c)
  refine zv_iload (n := 1) dL_law_458 rfl ?_
  refine zv_if_ne (tgt := 475) dL_law_460 (by decide) (fun c => ?_) (fun c => ?_)
  · refine zv_goto (tgt := 719) dL_law_475 (by decide) ?_
    exact zv_fewer [2, 3, 4, 5, 6] rfl kv
  · refine zv_aload_n (n := 5) dL_law_463 rfl rfl ?_
    refine zv_iconst (v := 0) dL_law_464 (by decide) ?_
    refine zr_aL (β := Int64) (g := some) (o := r2.2.toInt64) dL_law_465 (by rw [e4 c]; rfl) (fun v ev hv => ?_)
    cases Option.some.inj hv
    refine zv_iload (n := 0) dL_law_466 rfl ?_
    refine zv_i2l dL_law_468 ?_
    refine zv_lcmp dL_law_469 ?_
    refine zv_if_eq (tgt := 475) dL_law_470 (by decide) (fun _ => ?_) (fun c => absurd (zl_cmp0 _) c)
    refine zv_goto (tgt := 719) dL_law_475 (by decide) ?_
    exact zv_fewer [2, 3, 4, 5, 6] rfl kv
theorem zl_run {N b L n0 i g mo ou : Nat} {xs : Nat → Int32} {e0 : Nat × Nat} {x : zv_X} {r1 : zv_X × Int32} (hL : L ≤ 3585) (hi : i + 7 ≤ L) (h1 : mL_run N g (xs (i + 1)) (((Int32.toInt64 (xs (i + 2))) <<< (Int32.toInt64 (32 : Int32) &&& 63)) ||| ((Int32.toInt64 (xs (i + 3))) &&& (4294967295 : Int64))) (((Int32.toInt64 (xs (i + 4))) <<< (Int32.toInt64 (32 : Int32) &&& 63)) ||| ((Int32.toInt64 (xs (i + 5))) &&& (4294967295 : Int64))) (xs (i + 6)) ou x = some r1)
    (h2 : ∀ sz, x.2.1 ≤ sz → sz ≤ r1.1.2.1 → ∃ r2 : zv_X × Int32, zm_k (zv_sz r1.1 sz) mo 9 = true ∧ mX9_run N mo (xs (i + 1)) (((Int32.toInt64 (xs (i + 2))) <<< (Int32.toInt64 (32 : Int32) &&& 63)) ||| ((Int32.toInt64 (xs (i + 3))) &&& (4294967295 : Int64))) (((Int32.toInt64 (xs (i + 4))) <<< (Int32.toInt64 (32 : Int32) &&& 63)) ||| ((Int32.toInt64 (xs (i + 5))) &&& (4294967295 : Int64))) (xs (i + 6)) (zv_sz r1.1 sz) = some r2 ∧ zm_k r2.1 mo 9 = true ∧ mX9_thrown N mo r2.1 = some (r2.1, r1.2) ∧ (r1.2 = 0 → zm_aL r2.1 ou 0 = some r2.2.toInt64) ∧ zv_V (zlf b L n0 xs e0) 719 [(0, .ref b), (1, .ref g), (2, .ref mo), (3, .ref ou), (4, .int (Int32.ofNat i))] [] r2.1) :
    zv_V (zlf b L n0 xs e0) 478 [(0, .ref b), (1, .ref g), (2, .ref mo), (3, .ref ou), (4, .int (Int32.ofNat i))] [] x := by
  refine zv_aload_n (n := 1) dL_law_478 rfl rfl ?_
  refine zv_aload_n (n := 0) dL_law_479 rfl rfl ?_
  refine zv_iload (n := 4) dL_law_480 rfl ?_
  refine zv_iconst (v := 1) dL_law_482 (by decide) ?_
  refine zv_iadd dL_law_483 ?_
  refine zl_sld (k := i + 1) (zi_add i 1) (by omega) dL_law_484 ?_
  refine zv_aload_n (n := 0) dL_law_485 rfl rfl ?_
  refine zv_iload (n := 4) dL_law_486 rfl ?_
  refine zv_iconst (v := 2) dL_law_488 (by decide) ?_
  refine zv_iadd dL_law_489 ?_
  refine zl_sld (k := i + 2) (zi_add i 2) (by omega) dL_law_490 ?_
  refine zv_i2l dL_law_491 ?_
  refine zv_bipush (v := 32) dL_law_492 (by decide) ?_
  refine zv_lshl dL_law_494 ?_
  refine zv_aload_n (n := 0) dL_law_495 rfl rfl ?_
  refine zv_iload (n := 4) dL_law_496 rfl ?_
  refine zv_iconst (v := 3) dL_law_498 (by decide) ?_
  refine zv_iadd dL_law_499 ?_
  refine zl_sld (k := i + 3) (zi_add i 3) (by omega) dL_law_500 ?_
  refine zv_i2l dL_law_501 ?_
  refine zv_ldc2 dL_law_502 wd_1793 ?_
  refine zv_land dL_law_505 ?_
  refine zv_lor dL_law_506 ?_
  refine zv_aload_n (n := 0) dL_law_507 rfl rfl ?_
  refine zv_iload (n := 4) dL_law_508 rfl ?_
  refine zv_iconst (v := 4) dL_law_510 (by decide) ?_
  refine zv_iadd dL_law_511 ?_
  refine zl_sld (k := i + 4) (zi_add i 4) (by omega) dL_law_512 ?_
  refine zv_i2l dL_law_513 ?_
  refine zv_bipush (v := 32) dL_law_514 (by decide) ?_
  refine zv_lshl dL_law_516 ?_
  refine zv_aload_n (n := 0) dL_law_517 rfl rfl ?_
  refine zv_iload (n := 4) dL_law_518 rfl ?_
  refine zv_iconst (v := 5) dL_law_520 (by decide) ?_
  refine zv_iadd dL_law_521 ?_
  refine zl_sld (k := i + 5) (zi_add i 5) (by omega) dL_law_522 ?_
  refine zv_i2l dL_law_523 ?_
  refine zv_ldc2 dL_law_524 wd_1793 ?_
  refine zv_land dL_law_527 ?_
  refine zv_lor dL_law_528 ?_
  refine zv_aload_n (n := 0) dL_law_529 rfl rfl ?_
  refine zv_iload (n := 4) dL_law_530 rfl ?_
  refine zv_bipush (v := 6) dL_law_532 (by decide) ?_
  refine zv_iadd dL_law_534 ?_
  refine zl_sld (k := i + 6) (zi_add i 6) (by omega) dL_law_535 ?_
  refine zv_aload_n (n := 3) dL_law_536 rfl rfl ?_
  refine zh_callS (st := []) (d := 39) (n := 6) (As := [.ref g, .int (xs (i + 1)), .long (((Int32.toInt64 (xs (i + 2))) <<< (Int32.toInt64 (32 : Int32) &&& 63)) ||| ((Int32.toInt64 (xs (i + 3))) &&& (4294967295 : Int64))), .long (((Int32.toInt64 (xs (i + 4))) <<< (Int32.toInt64 (32 : Int32) &&& 63)) ||| ((Int32.toInt64 (xs (i + 5))) &&& (4294967295 : Int64))), .int (xs (i + 6)), .ref ou]) dL_law_537 wd_832 wd_90 (by decide +kernel) (by decide) wd_830 wd_831 (Nat.le_of_ble_eq_true rfl) rfl rfl (Nat.le_of_ble_eq_true rfl) (tL_run (d := 39) (by omega) h1) (fun sz hs1 hs2 => ?_)
  obtain ⟨r2, k1, e2, k2, e3, e4, kv⟩ := h2 sz hs1 hs2
  obtain ⟨fs1, kb1⟩ := zm_k_ok k1
  obtain ⟨fs2, kb2⟩ := zm_k_ok k2
  refine zv_istore dL_law_540 (Nat.le_of_ble_eq_true rfl) rfl ?_
  refine zv_aload_n (n := 3) dL_law_542 rfl rfl ?_
  refine zv_aload_n (n := 1) dL_law_543 rfl rfl ?_
  refine zv_iload (n := 5) dL_law_544 rfl ?_
  refine zv_iconst (v := 1) dL_law_546 (by decide) ?_
  refine zv_iadd dL_law_547 ?_
  refine zl_sld (k := i + 1) (zi_add i 1) (by omega) dL_law_548 ?_
  refine zv_aload_n (n := 1) dL_law_549 rfl rfl ?_
  refine zv_iload (n := 5) dL_law_550 rfl ?_
  refine zv_iconst (v := 2) dL_law_552 (by decide) ?_
  refine zv_iadd dL_law_553 ?_
  refine zl_sld (k := i + 2) (zi_add i 2) (by omega) dL_law_554 ?_
  refine zv_i2l dL_law_555 ?_
  refine zv_bipush (v := 32) dL_law_556 (by decide) ?_
  refine zv_lshl dL_law_558 ?_
  refine zv_aload_n (n := 1) dL_law_559 rfl rfl ?_
  refine zv_iload (n := 5) dL_law_560 rfl ?_
  refine zv_iconst (v := 3) dL_law_562 (by decide) ?_
  refine zv_iadd dL_law_563 ?_
  refine zl_sld (k := i + 3) (zi_add i 3) (by omega) dL_law_564 ?_
  refine zv_i2l dL_law_565 ?_
  refine zv_ldc2 dL_law_566 wd_1793 ?_
  refine zv_land dL_law_569 ?_
  refine zv_lor dL_law_570 ?_
  refine zv_aload_n (n := 1) dL_law_571 rfl rfl ?_
  refine zv_iload (n := 5) dL_law_572 rfl ?_
  refine zv_iconst (v := 4) dL_law_574 (by decide) ?_
  refine zv_iadd dL_law_575 ?_
  refine zl_sld (k := i + 4) (zi_add i 4) (by omega) dL_law_576 ?_
  refine zv_i2l dL_law_577 ?_
  refine zv_bipush (v := 32) dL_law_578 (by decide) ?_
  refine zv_lshl dL_law_580 ?_
  refine zv_aload_n (n := 1) dL_law_581 rfl rfl ?_
  refine zv_iload (n := 5) dL_law_582 rfl ?_
  refine zv_iconst (v := 5) dL_law_584 (by decide) ?_
  refine zv_iadd dL_law_585 ?_
  refine zl_sld (k := i + 5) (zi_add i 5) (by omega) dL_law_586 ?_
  refine zv_i2l dL_law_587 ?_
  refine zv_ldc2 dL_law_588 wd_1793 ?_
  refine zv_land dL_law_591 ?_
  refine zv_lor dL_law_592 ?_
  refine zv_aload_n (n := 1) dL_law_593 rfl rfl ?_
  refine zv_iload (n := 5) dL_law_594 rfl ?_
  refine zv_bipush (v := 6) dL_law_596 (by decide) ?_
  refine zv_iadd dL_law_598 ?_
  refine zl_sld (k := i + 6) (zi_add i 6) (by omega) dL_law_599 ?_
  refine zv_callV (st := []) (d := 39) (As := [.int (xs (i + 1)), .long (((Int32.toInt64 (xs (i + 2))) <<< (Int32.toInt64 (32 : Int32) &&& 63)) ||| ((Int32.toInt64 (xs (i + 3))) &&& (4294967295 : Int64))), .long (((Int32.toInt64 (xs (i + 4))) <<< (Int32.toInt64 (32 : Int32) &&& 63)) ||| ((Int32.toInt64 (xs (i + 5))) &&& (4294967295 : Int64))), .int (xs (i + 6))]) (ci := 9) dL_law_600 mw_X9_run wd_1654 wd_1655 wd_1656 (Nat.le_of_ble_eq_true rfl) rfl rfl (Nat.le_of_ble_eq_true rfl) kb1 rfl rfl (tX9_run (d := 39) (by omega) e2) ?_
  refine zv_istore dL_law_603 (Nat.le_of_ble_eq_true rfl) rfl ?_
  refine zv_aload_n (n := 4) dL_law_605 rfl rfl ?_
  refine zv_callV (st := []) (d := 39) (As := []) (ci := 9) dL_law_606 mw_X9_thrown wd_1569 wd_1570 wd_1571 (Nat.le_of_ble_eq_true rfl) rfl rfl (Nat.le_of_ble_eq_true rfl) kb2 rfl rfl (tX9_thrown (d := 39) (by omega) e3) ?_
  refine zv_iload (n := 1) dL_law_609 rfl ?_
  refine zv_icmp_eq (tgt := 616) dL_law_611 (by decide) (fun _ => ?_) (fun c => absurd rfl c)
  refine zv_iload (n := 1) dL_law_616 rfl ?_
  refine zv_if_ne (tgt := 633) dL_law_618 (by decide) (fun c => ?_) (fun c => ?_)
  · refine zv_goto (tgt := 719) dL_law_633 (by decide) ?_
    exact zv_fewer [2, 3, 4, 5, 6] rfl kv
  · refine zv_aload_n (n := 5) dL_law_621 rfl rfl ?_
    refine zv_iconst (v := 0) dL_law_622 (by decide) ?_
    refine zr_aL (β := Int64) (g := some) (o := r2.2.toInt64) dL_law_623 (by rw [e4 c]; rfl) (fun v ev hv => ?_)
    cases Option.some.inj hv
    refine zv_iload (n := 0) dL_law_624 rfl ?_
    refine zv_i2l dL_law_626 ?_
    refine zv_lcmp dL_law_627 ?_
    refine zv_if_eq (tgt := 633) dL_law_628 (by decide) (fun _ => ?_) (fun c => absurd (zl_cmp0 _) c)
    refine zv_goto (tgt := 719) dL_law_633 (by decide) ?_
    exact zv_fewer [2, 3, 4, 5, 6] rfl kv
theorem zl_count {N b L n0 i g mo ou : Nat} {xs : Nat → Int32} {e0 : Nat × Nat} {x : zv_X} {r1 : zv_X × Int32} (hL : L ≤ 3585) (hi : i + 7 ≤ L) (h1 : mL_count N g (xs (i + 1)) ou x = some r1)
    (h2 : ∀ sz, x.2.1 ≤ sz → sz ≤ r1.1.2.1 → ∃ r2 : zv_X × Int32, zm_k (zv_sz r1.1 sz) mo 9 = true ∧ mX9_count N mo (xs (i + 1)) (zv_sz r1.1 sz) = some r2 ∧ zm_k r2.1 mo 9 = true ∧ mX9_thrown N mo r2.1 = some (r2.1, r1.2) ∧ (r1.2 = 0 → zm_aL r2.1 ou 0 = some r2.2.toInt64) ∧ zv_V (zlf b L n0 xs e0) 719 [(0, .ref b), (1, .ref g), (2, .ref mo), (3, .ref ou), (4, .int (Int32.ofNat i))] [] r2.1) :
    zv_V (zlf b L n0 xs e0) 663 [(0, .ref b), (1, .ref g), (2, .ref mo), (3, .ref ou), (4, .int (Int32.ofNat i))] [] x := by
  refine zv_aload_n (n := 1) dL_law_663 rfl rfl ?_
  refine zv_aload_n (n := 0) dL_law_664 rfl rfl ?_
  refine zv_iload (n := 4) dL_law_665 rfl ?_
  refine zv_iconst (v := 1) dL_law_667 (by decide) ?_
  refine zv_iadd dL_law_668 ?_
  refine zl_sld (k := i + 1) (zi_add i 1) (by omega) dL_law_669 ?_
  refine zv_aload_n (n := 3) dL_law_670 rfl rfl ?_
  refine zh_callS (st := []) (d := 39) (n := 3) (As := [.ref g, .int (xs (i + 1)), .ref ou]) dL_law_671 wd_1391 wd_90 (by decide +kernel) (by decide) wd_1389 wd_1390 (Nat.le_of_ble_eq_true rfl) rfl rfl (Nat.le_of_ble_eq_true rfl) (tL_count (d := 39) (by omega) h1) (fun sz hs1 hs2 => ?_)
  obtain ⟨r2, k1, e2, k2, e3, e4, kv⟩ := h2 sz hs1 hs2
  obtain ⟨fs1, kb1⟩ := zm_k_ok k1
  obtain ⟨fs2, kb2⟩ := zm_k_ok k2
  refine zv_istore dL_law_674 (Nat.le_of_ble_eq_true rfl) rfl ?_
  refine zv_aload_n (n := 3) dL_law_676 rfl rfl ?_
  refine zv_aload_n (n := 1) dL_law_677 rfl rfl ?_
  refine zv_iload (n := 5) dL_law_678 rfl ?_
  refine zv_iconst (v := 1) dL_law_680 (by decide) ?_
  refine zv_iadd dL_law_681 ?_
  refine zl_sld (k := i + 1) (zi_add i 1) (by omega) dL_law_682 ?_
  refine zv_callV (st := []) (d := 39) (As := [.int (xs (i + 1))]) (ci := 9) dL_law_683 mw_X9_count wd_1789 wd_1790 wd_1791 (Nat.le_of_ble_eq_true rfl) rfl rfl (Nat.le_of_ble_eq_true rfl) kb1 rfl rfl (tX9_count (d := 39) (by omega) e2) ?_
  refine zv_istore dL_law_686 (Nat.le_of_ble_eq_true rfl) rfl ?_
  refine zv_aload_n (n := 4) dL_law_688 rfl rfl ?_
  refine zv_callV (st := []) (d := 39) (As := []) (ci := 9) dL_law_689 mw_X9_thrown wd_1569 wd_1570 wd_1571 (Nat.le_of_ble_eq_true rfl) rfl rfl (Nat.le_of_ble_eq_true rfl) kb2 rfl rfl (tX9_thrown (d := 39) (by omega) e3) ?_
  refine zv_iload (n := 1) dL_law_692 rfl ?_
  refine zv_icmp_eq (tgt := 699) dL_law_694 (by decide) (fun _ => ?_) (fun c => absurd rfl c)
  refine zv_iload (n := 1) dL_law_699 rfl ?_
  refine zv_if_ne (tgt := 716) dL_law_701 (by decide) (fun c => ?_) (fun c => ?_)
  · refine zv_goto (tgt := 719) dL_law_716 (by decide) ?_
    exact zv_fewer [2, 3, 4, 5, 6] rfl kv
  · refine zv_aload_n (n := 5) dL_law_704 rfl rfl ?_
    refine zv_iconst (v := 0) dL_law_705 (by decide) ?_
    refine zr_aL (β := Int64) (g := some) (o := r2.2.toInt64) dL_law_706 (by rw [e4 c]; rfl) (fun v ev hv => ?_)
    cases Option.some.inj hv
    refine zv_iload (n := 0) dL_law_707 rfl ?_
    refine zv_i2l dL_law_709 ?_
    refine zv_lcmp dL_law_710 ?_
    refine zv_if_eq (tgt := 716) dL_law_711 (by decide) (fun _ => ?_) (fun c => absurd (zl_cmp0 _) c)
    refine zv_goto (tgt := 719) dL_law_716 (by decide) ?_
    exact zv_fewer [2, 3, 4, 5, 6] rfl kv
theorem zl_result {N b L n0 i g mo ou : Nat} {xs : Nat → Int32} {e0 : Nat × Nat} {x : zv_X} {x1 x2 : zv_X} {v : Int64} (k1 : zm_k x g 8 = true) (e1 : mX8_result N g x = some (x1, v)) (k2 : zm_k x1 mo 9 = true) (e2 : mX9_result N mo x1 = some (x2, v)) (kv : zv_V (zlf b L n0 xs e0) 719 [(0, .ref b), (1, .ref g), (2, .ref mo), (3, .ref ou), (4, .int (Int32.ofNat i))] [] x2) : zv_V (zlf b L n0 xs e0) 636 [(0, .ref b), (1, .ref g), (2, .ref mo), (3, .ref ou), (4, .int (Int32.ofNat i))] [] x := by
  obtain ⟨fs1, kb1⟩ := zm_k_ok k1
  obtain ⟨fs2, kb2⟩ := zm_k_ok k2
  refine zv_aload_n (n := 1) dL_law_636 rfl rfl ?_
  refine zv_callV (st := []) (d := 39) (As := []) (ci := 8) dL_law_637 mw_X8_result wd_423 wd_424 wd_425 (Nat.le_of_ble_eq_true rfl) rfl rfl (Nat.le_of_ble_eq_true rfl) kb1 rfl rfl (tX8_result (d := 39) (by omega) e1) ?_
  refine zv_aload_n (n := 2) dL_law_640 rfl rfl ?_
  refine zv_callV (st := [.long v]) (d := 39) (As := []) (ci := 9) dL_law_641 mw_X9_result wd_1781 wd_1782 wd_1783 (Nat.le_of_ble_eq_true rfl) rfl rfl (Nat.le_of_ble_eq_true rfl) kb2 rfl rfl (tX9_result (d := 39) (by omega) e2) ?_
  refine zv_lcmp dL_law_644 ?_
  refine zv_if_eq (tgt := 719) dL_law_645 (by decide) (fun _ => ?_) (fun c => absurd (zl_cmp0 _) c)
  exact kv
theorem zl_steps {N b L n0 i g mo ou : Nat} {xs : Nat → Int32} {e0 : Nat × Nat} {x : zv_X} {x1 x2 : zv_X} {v : Int32} (k1 : zm_k x g 8 = true) (e1 : mX8_steps N g x = some (x1, v)) (k2 : zm_k x1 mo 9 = true) (e2 : mX9_steps N mo x1 = some (x2, v)) (kv : zv_V (zlf b L n0 xs e0) 719 [(0, .ref b), (1, .ref g), (2, .ref mo), (3, .ref ou), (4, .int (Int32.ofNat i))] [] x2) : zv_V (zlf b L n0 xs e0) 650 [(0, .ref b), (1, .ref g), (2, .ref mo), (3, .ref ou), (4, .int (Int32.ofNat i))] [] x := by
  obtain ⟨fs1, kb1⟩ := zm_k_ok k1
  obtain ⟨fs2, kb2⟩ := zm_k_ok k2
  refine zv_aload_n (n := 1) dL_law_650 rfl rfl ?_
  refine zv_callV (st := []) (d := 39) (As := []) (ci := 8) dL_law_651 mw_X8_steps wd_427 wd_428 wd_429 (Nat.le_of_ble_eq_true rfl) rfl rfl (Nat.le_of_ble_eq_true rfl) kb1 rfl rfl (tX8_steps (d := 39) (by omega) e1) ?_
  refine zv_aload_n (n := 2) dL_law_654 rfl rfl ?_
  refine zv_callV (st := [.int v]) (d := 39) (As := []) (ci := 9) dL_law_655 mw_X9_steps wd_1785 wd_1786 wd_1787 (Nat.le_of_ble_eq_true rfl) rfl rfl (Nat.le_of_ble_eq_true rfl) kb2 rfl rfl (tX9_steps (d := 39) (by omega) e2) ?_
  refine zv_icmp_eq (tgt := 719) dL_law_658 (by decide) (fun _ => ?_) (fun c => absurd rfl c)
  exact kv
theorem zl_next {N b L n0 i g mo ou : Nat} {xs : Nat → Int32} {e0 : Nat × Nat} {x : zv_X} (kv : zv_V (zlf b L n0 xs e0) 33 [(0, .ref b), (1, .ref g), (2, .ref mo), (3, .ref ou), (4, .int (Int32.ofNat (i + 7)))] [] x) : zv_V (zlf b L n0 xs e0) 719 [(0, .ref b), (1, .ref g), (2, .ref mo), (3, .ref ou), (4, .int (Int32.ofNat i))] [] x := by
  refine zv_iinc (n := 4) (v := Int32.ofNat (i + 7)) dL_law_719 rfl (zi_add i 7) (Nat.le_of_ble_eq_true rfl) rfl ?_
  refine zv_goto (tgt := 33) dL_law_722 (by decide) ?_
  exact zv_fewer [1, 2, 3, 4, 0] rfl kv
theorem zl_head {N b L n0 i g mo ou : Nat} {xs : Nat → Int32} {e0 : Nat × Nat} {x : zv_X} (hL : L ≤ 3585) (hi : i ≤ 4000) (hle : zv_Le x (zlE n0 e0)) (hc : i + 7 ≤ L → (xs i &&& 7 = 0 → zv_V (zlf b L n0 xs e0) 96 [(0, .ref b), (1, .ref g), (2, .ref mo), (3, .ref ou), (4, .int (Int32.ofNat i))] [] x) ∧ (xs i &&& 7 = 1 → zv_V (zlf b L n0 xs e0) 214 [(0, .ref b), (1, .ref g), (2, .ref mo), (3, .ref ou), (4, .int (Int32.ofNat i))] [] x) ∧ (xs i &&& 7 = 2 → zv_V (zlf b L n0 xs e0) 294 [(0, .ref b), (1, .ref g), (2, .ref mo), (3, .ref ou), (4, .int (Int32.ofNat i))] [] x) ∧ (xs i &&& 7 = 3 → zv_V (zlf b L n0 xs e0) 386 [(0, .ref b), (1, .ref g), (2, .ref mo), (3, .ref ou), (4, .int (Int32.ofNat i))] [] x) ∧ (xs i &&& 7 = 4 → zv_V (zlf b L n0 xs e0) 478 [(0, .ref b), (1, .ref g), (2, .ref mo), (3, .ref ou), (4, .int (Int32.ofNat i))] [] x) ∧ (xs i &&& 7 = 5 → zv_V (zlf b L n0 xs e0) 636 [(0, .ref b), (1, .ref g), (2, .ref mo), (3, .ref ou), (4, .int (Int32.ofNat i))] [] x) ∧ (xs i &&& 7 = 6 → zv_V (zlf b L n0 xs e0) 650 [(0, .ref b), (1, .ref g), (2, .ref mo), (3, .ref ou), (4, .int (Int32.ofNat i))] [] x) ∧ (xs i &&& 7 = 7 → zv_V (zlf b L n0 xs e0) 663 [(0, .ref b), (1, .ref g), (2, .ref mo), (3, .ref ou), (4, .int (Int32.ofNat i))] [] x)) : zv_V (zlf b L n0 xs e0) 33 [(0, .ref b), (1, .ref g), (2, .ref mo), (3, .ref ou), (4, .int (Int32.ofNat i))] [] x := by
  refine zv_iload (n := 4) dL_law_33 rfl ?_
  refine zv_aload_n (n := 0) dL_law_35 rfl rfl ?_
  refine zl_slen dL_law_36 ?_
  refine zv_bipush (v := 7) dL_law_37 (by decide) ?_
  refine zv_isub dL_law_39 ?_
  have hq := zl_cmp hL hi
  refine zv_icmp_gt (tgt := 725) dL_law_40 (by decide) (fun c => ?_) (fun c => ?_)
  · refine zv_iconst (v := 1) dL_law_725 (by decide) ?_
    exact zl_end dL_law_726 hle
  · have hc := hc (Decidable.not_not.mp fun h => c (hq.mpr h))
    have hi7 : i < L := by have := Decidable.not_not.mp fun h => c (hq.mpr h); omega
    refine zv_aload_n (n := 0) dL_law_43 rfl rfl ?_
    refine zv_iload (n := 4) dL_law_44 rfl ?_
    refine zl_sld (k := i) rfl hi7 dL_law_46 ?_
    refine zv_bipush (v := 7) dL_law_47 (by decide) ?_
    refine zv_iand dL_law_49 ?_
    obtain ⟨k, hk, ek⟩ := zl_and7 (xs i)
    have hk8 : k = 0 ∨ k = 1 ∨ k = 2 ∨ k = 3 ∨ k = 4 ∨ k = 5 ∨ k = 6 ∨ k = 7 := by omega
    obtain ⟨c0, c1, c2, c3, c4, c5, c6, c7⟩ := hc
    rw [ek]
    rcases hk8 with rfl | rfl | rfl | rfl | rfl | rfl | rfl | rfl
    · exact zv_tableIn (off := 46) (tgt := 96) dL_law_50 (by decide) (by decide) (by decide) (by decide) (c0 ek)
    · exact zv_tableIn (off := 164) (tgt := 214) dL_law_50 (by decide) (by decide) (by decide) (by decide) (c1 ek)
    · exact zv_tableIn (off := 244) (tgt := 294) dL_law_50 (by decide) (by decide) (by decide) (by decide) (c2 ek)
    · exact zv_tableIn (off := 336) (tgt := 386) dL_law_50 (by decide) (by decide) (by decide) (by decide) (c3 ek)
    · exact zv_tableIn (off := 428) (tgt := 478) dL_law_50 (by decide) (by decide) (by decide) (by decide) (c4 ek)
    · exact zv_tableIn (off := 586) (tgt := 636) dL_law_50 (by decide) (by decide) (by decide) (by decide) (c5 ek)
    · exact zv_tableIn (off := 600) (tgt := 650) dL_law_50 (by decide) (by decide) (by decide) (by decide) (c6 ek)
    · exact zv_tableIn (off := 613) (tgt := 663) dL_law_50 (by decide) (by decide) (by decide) (by decide) (c7 ek)
theorem zl_in {N b L n0 : Nat} {xs : Nat → Int32} {e0 : Nat × Nat} {x1 x2 x3 : zv_X} (hL : L ≤ 3585) (h1 : mX8_init N n0 (zl_c L xs) (zv_nw (zl0 n0 e0) (.inr (8, zd_8)) 5) = some x1) (h2 : mX9_init N x1.2.1 (zl_c L xs) (zv_nw x1 (.inr (9, zd_9)) 55) = some x2) (h3 : zm_nL x2 1 = some x3)
    (kv : zv_V (zlf b L n0 xs e0) 33 [(0, .ref b), (1, .ref n0), (2, .ref x1.2.1), (3, .ref x2.2.1), (4, .int (Int32.ofNat 1))] [] x3) : zv_V (zlf b L n0 xs e0) 0 [(0, .ref b)] [] (zl0 n0 e0) := by
  refine zv_new dL_law_0 ck_8 wd_124 wd_125 wd_91 df_8 ?_
  refine zv_dup dL_law_3 rfl ?_
  refine zv_aload_n (n := 0) dL_law_4 rfl rfl ?_
  refine zv_iconst (v := 0) dL_law_5 (by decide) ?_
  refine zl_cell hL dL_law_6 wd_431 (Nat.le_of_ble_eq_true rfl) ?_
  refine zv_callI (st := [.ref n0]) (d := 39) (As := [.int (zl_c L xs)]) dL_law_9 mw_X8_init wd_126 wd_127 rfl (Nat.le_of_ble_eq_true rfl) rfl rfl (Nat.le_of_ble_eq_true rfl) (tX8_init (d := 39) (by omega) h1) ?_
  refine zv_astore_n dL_law_12 rfl (Nat.le_of_ble_eq_true rfl) rfl ?_
  refine zv_new dL_law_13 ck_9 wd_1397 wd_1398 wd_103 df_9 ?_
  refine zv_dup dL_law_16 rfl ?_
  refine zv_aload_n (n := 1) dL_law_17 rfl rfl ?_
  refine zv_iconst (v := 0) dL_law_18 (by decide) ?_
  refine zl_cell hL dL_law_19 wd_431 (Nat.le_of_ble_eq_true rfl) ?_
  refine zv_callI (st := [.ref x1.2.1]) (d := 39) (As := [.int (zl_c L xs)]) dL_law_22 mw_X9_init wd_1399 wd_1400 rfl (Nat.le_of_ble_eq_true rfl) rfl rfl (Nat.le_of_ble_eq_true rfl) (tX9_init (d := 39) (by omega) h2) ?_
  refine zv_astore_n dL_law_25 rfl (Nat.le_of_ble_eq_true rfl) rfl ?_
  refine zv_iconst (v := 1) dL_law_26 (by decide) ?_
  refine zr_nL (β := zv_X) (g := some) (o := x3) dL_law_27 wd_365 (by rw [h3]; rfl) (fun x9 e9 h9 => ?_)
  cases Option.some.inj h9
  refine zv_astore_n dL_law_29 rfl (Nat.le_of_ble_eq_true rfl) rfl ?_
  refine zv_iconst (v := 1) dL_law_30 (by decide) ?_
  refine zv_istore dL_law_31 (Nat.le_of_ble_eq_true rfl) rfl ?_
  exact zv_fewer [4, 3, 2, 1, 0] rfl kv
