theorem ck_0 : zv_ck 0 RX0 TX0 4 tyX0 := ⟨rfl, zv_inL _ [169, 171, 173, 175] (by decide +kernel) (by decide +kernel), tyX0_ok, nmX0⟩
theorem ck_1 : zv_ck 1 RX1 TX1 5 tyX1 := ⟨rfl, zv_inL _ [354, 356, 358, 360, 362] (by decide +kernel) (by decide +kernel), tyX1_ok, nmX1⟩
theorem ck_2 : zv_ck 2 RX2 TX2 11 tyX2 := ⟨rfl, zv_inL _ [278, 280, 282, 284, 286, 288, 290, 292, 294, 296, 298] (by decide +kernel) (by decide +kernel), tyX2_ok, nmX2⟩
theorem ck_3 : zv_ck 3 RX3 TX3 12 tyX3 := ⟨rfl, zv_inL _ [223, 225, 227, 229, 231, 233, 235, 237, 239, 241, 243, 245] (by decide +kernel) (by decide +kernel), tyX3_ok, nmX3⟩
theorem ck_4 : zv_ck 4 RX4 TX4 12 tyX4 := ⟨rfl, zv_inL _ [382, 384, 386, 388, 390, 392, 394, 396, 398, 400, 402, 404] (by decide +kernel) (by decide +kernel), tyX4_ok, nmX4⟩
theorem ck_5 : zv_ck 5 RJx4a65c TJx4a65c 3 tyJx4a65c := ⟨rfl, zv_inL _ [202, 198, 200] (by decide +kernel) (by decide +kernel), tyJx4a65c_ok, nmJx4a65c⟩
theorem ck_6 : zv_ck 6 RX6 TX6 7 tyX6 := ⟨rfl, zv_inL _ [328, 330, 332, 334, 336, 338, 340] (by decide +kernel) (by decide +kernel), tyX6_ok, nmX6⟩
theorem ck_7 : zv_ck 7 RX7 TX7 4 tyX7 := ⟨rfl, zv_inL _ [147, 149, 151, 153] (by decide +kernel) (by decide +kernel), tyX7_ok, nmX7⟩
theorem ck_8 : zv_ck 8 RX8 TX8 5 tyX8 := ⟨rfl, zv_inL _ [412, 414, 416, 418, 420] (by decide +kernel) (by decide +kernel), tyX8_ok, nmX8⟩
def zd_0 : List Value := [.null, .null, .int 0, .int 0]
theorem df_0 : ∀ j, j < 4 → defaultValue (tyX0 j) = vp_V zd_0 j := by decide +kernel
def zd_1 : List Value := [.null, .null, .int 0, .null, .int 0]
theorem df_1 : ∀ j, j < 5 → defaultValue (tyX1 j) = vp_V zd_1 j := by decide +kernel
def zd_2 : List Value := [.null, .null, .null, .null, .null, .null, .null, .int 0, .int 0, .int 0, .int 0]
theorem df_2 : ∀ j, j < 11 → defaultValue (tyX2 j) = vp_V zd_2 j := by decide +kernel
def zd_3 : List Value := [.null, .null, .null, .null, .null, .null, .null, .int 0, .null, .int 0, .int 0, .int 0]
theorem df_3 : ∀ j, j < 12 → defaultValue (tyX3 j) = vp_V zd_3 j := by decide +kernel
def zd_4 : List Value := [.null, .null, .null, .int 0, .null, .null, .int 0, .int 0, .long 0, .int 0, .int 0, .int 0]
theorem df_4 : ∀ j, j < 12 → defaultValue (tyX4 j) = vp_V zd_4 j := by decide +kernel
def zd_5 : List Value := [.int 0, .null, .int 0]
theorem df_5 : ∀ j, j < 3 → defaultValue (tyJx4a65c j) = vp_V zd_5 j := by decide +kernel
def zd_6 : List Value := [.null, .null, .int 0, .int 0, .int 0, .int 0, .int 0]
theorem df_6 : ∀ j, j < 7 → defaultValue (tyX6 j) = vp_V zd_6 j := by decide +kernel
def zd_7 : List Value := [.null, .null, .null, .int 0]
theorem df_7 : ∀ j, j < 4 → defaultValue (tyX7 j) = vp_V zd_7 j := by decide +kernel
theorem fl_164 : zv_fl RX0 17 0 1 (.array .int) true := ⟨RX0, TX0, 4, tyX0, "GuestFrames$Draft", ck_0, by decide, rfl, rfl, (fun _ => rfl), wd_164, Or.inl rfl⟩
theorem fl_165 : zv_fl RX0 27 0 2 (.int) false := ⟨RX0, TX0, 4, tyX0, "GuestFrames$Draft", ck_0, by decide, rfl, rfl, (fun q => nomatch q), wd_165, Or.inl rfl⟩
theorem fl_167 : zv_fl RX0 31 0 3 (.int) false := ⟨RX0, TX0, 4, tyX0, "GuestFrames$Draft", ck_0, by decide, rfl, rfl, (fun q => nomatch q), wd_167, Or.inl rfl⟩
theorem fl_163 : zv_fl RX0 9 0 0 (.array .byte) true := ⟨RX0, TX0, 4, tyX0, "GuestFrames$Draft", ck_0, by decide, rfl, rfl, (fun _ => rfl), wd_163, Or.inl rfl⟩
theorem fl_348 : zv_fl RX1 11 1 0 (.array .long) true := ⟨RX1, TX1, 5, tyX1, "GuestFrames$Frame", ck_1, by decide, rfl, rfl, (fun _ => rfl), wd_348, Or.inl rfl⟩
theorem fl_349 : zv_fl RX1 15 1 1 (.array .int) true := ⟨RX1, TX1, 5, tyX1, "GuestFrames$Frame", ck_1, by decide, rfl, rfl, (fun _ => rfl), wd_349, Or.inl rfl⟩
theorem fl_350 : zv_fl RX1 19 1 2 (.int) false := ⟨RX1, TX1, 5, tyX1, "GuestFrames$Frame", ck_1, by decide, rfl, rfl, (fun q => nomatch q), wd_350, Or.inl rfl⟩
theorem fl_351 : zv_fl RX1 23 1 3 (.object "GuestFrames$Routine") false := ⟨RX1, TX1, 5, tyX1, "GuestFrames$Frame", ck_1, by decide, rfl, rfl, (fun q => nomatch q), wd_351, Or.inl rfl⟩
theorem fl_352 : zv_fl RX1 27 1 4 (.int) false := ⟨RX1, TX1, 5, tyX1, "GuestFrames$Frame", ck_1, by decide, rfl, rfl, (fun q => nomatch q), wd_352, Or.inl rfl⟩
theorem fl_268 : zv_fl RX2 15 2 1 (.array .int) true := ⟨RX2, TX2, 11, tyX2, "GuestFrames$Heap", ck_2, by decide, rfl, rfl, (fun _ => rfl), wd_268, Or.inl rfl⟩
theorem fl_269 : zv_fl RX2 19 2 2 (.array .int) true := ⟨RX2, TX2, 11, tyX2, "GuestFrames$Heap", ck_2, by decide, rfl, rfl, (fun _ => rfl), wd_269, Or.inl rfl⟩
theorem fl_270 : zv_fl RX2 22 2 3 (.array .int) true := ⟨RX2, TX2, 11, tyX2, "GuestFrames$Heap", ck_2, by decide, rfl, rfl, (fun _ => rfl), wd_270, Or.inl rfl⟩
theorem fl_271 : zv_fl RX2 25 2 4 (.array .int) true := ⟨RX2, TX2, 11, tyX2, "GuestFrames$Heap", ck_2, by decide, rfl, rfl, (fun _ => rfl), wd_271, Or.inl rfl⟩
theorem fl_272 : zv_fl RX2 28 2 5 (.array .int) true := ⟨RX2, TX2, 11, tyX2, "GuestFrames$Heap", ck_2, by decide, rfl, rfl, (fun _ => rfl), wd_272, Or.inl rfl⟩
theorem fl_273 : zv_fl RX2 31 2 6 (.array .int) true := ⟨RX2, TX2, 11, tyX2, "GuestFrames$Heap", ck_2, by decide, rfl, rfl, (fun _ => rfl), wd_273, Or.inl rfl⟩
theorem fl_274 : zv_fl RX2 45 2 7 (.int) false := ⟨RX2, TX2, 11, tyX2, "GuestFrames$Heap", ck_2, by decide, rfl, rfl, (fun q => nomatch q), wd_274, Or.inl rfl⟩
theorem fl_275 : zv_fl RX2 49 2 8 (.int) false := ⟨RX2, TX2, 11, tyX2, "GuestFrames$Heap", ck_2, by decide, rfl, rfl, (fun q => nomatch q), wd_275, Or.inl rfl⟩
theorem fl_276 : zv_fl RX2 52 2 9 (.int) false := ⟨RX2, TX2, 11, tyX2, "GuestFrames$Heap", ck_2, by decide, rfl, rfl, (fun q => nomatch q), wd_276, Or.inl rfl⟩
theorem fl_277 : zv_fl RX2 55 2 10 (.int) false := ⟨RX2, TX2, 11, tyX2, "GuestFrames$Heap", ck_2, by decide, rfl, rfl, (fun q => nomatch q), wd_277, Or.inl rfl⟩
theorem fl_267 : zv_fl RX2 9 2 0 (.object "GuestFrames$Types") true := ⟨RX2, TX2, 11, tyX2, "GuestFrames$Heap", ck_2, by decide, rfl, rfl, (fun _ => rfl), wd_267, Or.inl rfl⟩
theorem fl_214 : zv_fl RX3 15 3 3 (.array .boolean) true := ⟨RX3, TX3, 12, tyX3, "GuestFrames$Judge", ck_3, by decide, rfl, rfl, (fun _ => rfl), wd_214, Or.inl rfl⟩
theorem fl_215 : zv_fl RX3 18 3 4 (.array .int) true := ⟨RX3, TX3, 12, tyX3, "GuestFrames$Judge", ck_3, by decide, rfl, rfl, (fun _ => rfl), wd_215, Or.inl rfl⟩
theorem fl_216 : zv_fl RX3 22 3 5 (.array .int) true := ⟨RX3, TX3, 12, tyX3, "GuestFrames$Judge", ck_3, by decide, rfl, rfl, (fun _ => rfl), wd_216, Or.inl rfl⟩
theorem fl_217 : zv_fl RX3 25 3 6 (.array .int) true := ⟨RX3, TX3, 12, tyX3, "GuestFrames$Judge", ck_3, by decide, rfl, rfl, (fun _ => rfl), wd_217, Or.inl rfl⟩
theorem fl_211 : zv_fl RX3 28 3 0 (.object "GuestFrames$Types") true := ⟨RX3, TX3, 12, tyX3, "GuestFrames$Judge", ck_3, by decide, rfl, rfl, (fun _ => rfl), wd_211, Or.inl rfl⟩
theorem fl_212 : zv_fl RX3 32 3 1 (.object "java/util/ArrayList") true := ⟨RX3, TX3, 12, tyX3, "GuestFrames$Judge", ck_3, by decide, rfl, rfl, (fun _ => rfl), wd_212, Or.inl rfl⟩
theorem fl_219 : zv_fl RX3 36 3 8 (.object "GuestFrames$Routine") false := ⟨RX3, TX3, 12, tyX3, "GuestFrames$Judge", ck_3, by decide, rfl, rfl, (fun q => nomatch q), wd_219, Or.inl rfl⟩
theorem fl_220 : zv_fl RX3 40 3 9 (.boolean) false := ⟨RX3, TX3, 12, tyX3, "GuestFrames$Judge", ck_3, by decide, rfl, rfl, (fun q => nomatch q), wd_220, Or.inl rfl⟩
theorem fl_218 : zv_fl RX3 44 3 7 (.int) false := ⟨RX3, TX3, 12, tyX3, "GuestFrames$Judge", ck_3, by decide, rfl, rfl, (fun q => nomatch q), wd_218, Or.inl rfl⟩
theorem fl_221 : zv_fl RX3 81 3 10 (.int) false := ⟨RX3, TX3, 12, tyX3, "GuestFrames$Judge", ck_3, by decide, rfl, rfl, (fun q => nomatch q), wd_221, Or.inl rfl⟩
theorem fl_222 : zv_fl RX3 84 3 11 (.int) false := ⟨RX3, TX3, 12, tyX3, "GuestFrames$Judge", ck_3, by decide, rfl, rfl, (fun q => nomatch q), wd_222, Or.inl rfl⟩
theorem fl_213 : zv_fl RX3 9 3 2 (.array .boolean) true := ⟨RX3, TX3, 12, tyX3, "GuestFrames$Judge", ck_3, by decide, rfl, rfl, (fun _ => rfl), wd_213, Or.inl rfl⟩
theorem fl_367 : zv_fl RX4 15 4 1 (.object "java/util/ArrayList") true := ⟨RX4, TX4, 12, tyX4, "GuestFrames$Machine", ck_4, by decide, rfl, rfl, (fun _ => rfl), wd_367, Or.inl rfl⟩
theorem fl_353 : zv_fl RX4 161 1 4 (.int) false := ⟨RX1, TX1, 5, tyX1, "GuestFrames$Frame", ck_1, by decide, rfl, rfl, (fun q => nomatch q), wd_353, Or.inl rfl⟩
theorem fl_369 : zv_fl RX4 19 4 3 (.int) true := ⟨RX4, TX4, 12, tyX4, "GuestFrames$Machine", ck_4, by decide, rfl, rfl, (fun _ => rfl), wd_369, Or.inl rfl⟩
theorem fl_368 : zv_fl RX4 28 4 2 (.object "GuestFrames$Heap") true := ⟨RX4, TX4, 12, tyX4, "GuestFrames$Machine", ck_4, by decide, rfl, rfl, (fun _ => rfl), wd_368, Or.inl rfl⟩
theorem fl_370 : zv_fl RX4 34 4 4 (.array (.object "GuestFrames$Frame")) true := ⟨RX4, TX4, 12, tyX4, "GuestFrames$Machine", ck_4, by decide, rfl, rfl, (fun _ => rfl), wd_370, Or.inl rfl⟩
theorem fl_371 : zv_fl RX4 46 4 5 (.object "GuestFrames$Frame") false := ⟨RX4, TX4, 12, tyX4, "GuestFrames$Machine", ck_4, by decide, rfl, rfl, (fun q => nomatch q), wd_371, Or.inl rfl⟩
theorem fl_374 : zv_fl RX4 53 4 8 (.long) false := ⟨RX4, TX4, 12, tyX4, "GuestFrames$Machine", ck_4, by decide, rfl, rfl, (fun q => nomatch q), wd_374, Or.inl rfl⟩
theorem fl_376 : zv_fl RX4 57 4 9 (.int) false := ⟨RX4, TX4, 12, tyX4, "GuestFrames$Machine", ck_4, by decide, rfl, rfl, (fun q => nomatch q), wd_376, Or.inl rfl⟩
theorem fl_378 : zv_fl RX4 60 4 10 (.int) false := ⟨RX4, TX4, 12, tyX4, "GuestFrames$Machine", ck_4, by decide, rfl, rfl, (fun q => nomatch q), wd_378, Or.inl rfl⟩
theorem fl_380 : zv_fl RX4 63 4 11 (.int) false := ⟨RX4, TX4, 12, tyX4, "GuestFrames$Machine", ck_4, by decide, rfl, rfl, (fun q => nomatch q), wd_380, Or.inl rfl⟩
theorem fl_373 : zv_fl RX4 66 4 7 (.int) false := ⟨RX4, TX4, 12, tyX4, "GuestFrames$Machine", ck_4, by decide, rfl, rfl, (fun q => nomatch q), wd_373, Or.inl rfl⟩
theorem fl_372 : zv_fl RX4 81 4 6 (.int) false := ⟨RX4, TX4, 12, tyX4, "GuestFrames$Machine", ck_4, by decide, rfl, rfl, (fun q => nomatch q), wd_372, Or.inl rfl⟩
theorem fl_366 : zv_fl RX4 9 4 0 (.object "GuestFrames$Types") true := ⟨RX4, TX4, 12, tyX4, "GuestFrames$Machine", ck_4, by decide, rfl, rfl, (fun _ => rfl), wd_366, Or.inl rfl⟩
theorem fl_314 : zv_fl RX6 15 6 1 (.array .int) true := ⟨RX6, TX6, 7, tyX6, "GuestFrames$Routine", ck_6, by decide, rfl, rfl, (fun _ => rfl), wd_314, Or.inl rfl⟩
theorem fl_316 : zv_fl RX6 23 6 2 (.int) true := ⟨RX6, TX6, 7, tyX6, "GuestFrames$Routine", ck_6, by decide, rfl, rfl, (fun _ => rfl), wd_316, Or.inl rfl⟩
theorem fl_320 : zv_fl RX6 27 6 3 (.int) true := ⟨RX6, TX6, 7, tyX6, "GuestFrames$Routine", ck_6, by decide, rfl, rfl, (fun _ => rfl), wd_320, Or.inl rfl⟩
theorem fl_322 : zv_fl RX6 30 6 4 (.int) true := ⟨RX6, TX6, 7, tyX6, "GuestFrames$Routine", ck_6, by decide, rfl, rfl, (fun _ => rfl), wd_322, Or.inl rfl⟩
theorem fl_324 : zv_fl RX6 33 6 5 (.int) true := ⟨RX6, TX6, 7, tyX6, "GuestFrames$Routine", ck_6, by decide, rfl, rfl, (fun _ => rfl), wd_324, Or.inl rfl⟩
theorem fl_326 : zv_fl RX6 36 6 6 (.int) true := ⟨RX6, TX6, 7, tyX6, "GuestFrames$Routine", ck_6, by decide, rfl, rfl, (fun _ => rfl), wd_326, Or.inl rfl⟩
theorem fl_312 : zv_fl RX6 9 6 0 (.array .byte) true := ⟨RX6, TX6, 7, tyX6, "GuestFrames$Routine", ck_6, by decide, rfl, rfl, (fun _ => rfl), wd_312, Or.inl rfl⟩
theorem fl_140 : zv_fl RX7 15 7 1 (.array .int) true := ⟨RX7, TX7, 4, tyX7, "GuestFrames$Types", ck_7, by decide, rfl, rfl, (fun _ => rfl), wd_140, Or.inl rfl⟩
theorem fl_144 : zv_fl RX7 18 7 2 (.array .int) true := ⟨RX7, TX7, 4, tyX7, "GuestFrames$Types", ck_7, by decide, rfl, rfl, (fun _ => rfl), wd_144, Or.inl rfl⟩
theorem fl_145 : zv_fl RX7 21 7 3 (.int) false := ⟨RX7, TX7, 4, tyX7, "GuestFrames$Types", ck_7, by decide, rfl, rfl, (fun q => nomatch q), wd_145, Or.inl rfl⟩
theorem fl_138 : zv_fl RX7 9 7 0 (.array .int) true := ⟨RX7, TX7, 4, tyX7, "GuestFrames$Types", ck_7, by decide, rfl, rfl, (fun _ => rfl), wd_138, Or.inl rfl⟩
theorem fl_407 : zv_fl RX8 10 8 0 (.object "GuestFrames$Types") true := ⟨RX8, TX8, 5, tyX8, "GuestFrames", ck_8, by decide, rfl, rfl, (fun _ => rfl), wd_407, Or.inl rfl⟩
theorem fl_408 : zv_fl RX8 19 8 1 (.object "GuestFrames$Draft") true := ⟨RX8, TX8, 5, tyX8, "GuestFrames", ck_8, by decide, rfl, rfl, (fun _ => rfl), wd_408, Or.inl rfl⟩
theorem fl_409 : zv_fl RX8 26 8 2 (.object "java/util/ArrayList") true := ⟨RX8, TX8, 5, tyX8, "GuestFrames", ck_8, by decide, rfl, rfl, (fun _ => rfl), wd_409, Or.inl rfl⟩
theorem fl_410 : zv_fl RX8 35 8 3 (.object "GuestFrames$Judge") true := ⟨RX8, TX8, 5, tyX8, "GuestFrames", ck_8, by decide, rfl, rfl, (fun _ => rfl), wd_410, Or.inl rfl⟩
theorem fl_411 : zv_fl RX8 53 8 4 (.object "GuestFrames$Machine") true := ⟨RX8, TX8, 5, tyX8, "GuestFrames", ck_8, by decide, rfl, rfl, (fun _ => rfl), wd_411, Or.inl rfl⟩
theorem fl_195 : zv_fl RJxc12de 7 5 0 (.int) false := ⟨RJx4a65c, TJx4a65c, 3, tyJx4a65c, "java/util/AbstractList", ck_5, by decide, rfl, rfl, (fun q => nomatch q), wd_195, Or.inl rfl⟩
theorem fl_194 : zv_fl RJx4a65c 48 5 2 (.int) false := ⟨RJx4a65c, TJx4a65c, 3, tyJx4a65c, "java/util/ArrayList", ck_5, by decide, rfl, rfl, (fun q => nomatch q), wd_194, Or.inl rfl⟩
theorem fl_196 : zv_fl RJx4a65c 63 5 0 (.int) false := ⟨RJx4a65c, TJx4a65c, 3, tyJx4a65c, "java/util/ArrayList", ck_5, by decide, rfl, rfl, (fun q => nomatch q), wd_196, Or.inr wd_197⟩
theorem fl_193 : zv_fl RJx4a65c 9 5 1 (.array (.object "java/lang/Object")) false := ⟨RJx4a65c, TJx4a65c, 3, tyJx4a65c, "java/util/ArrayList", ck_5, by decide, rfl, rfl, (fun q => nomatch q), wd_193, Or.inl rfl⟩
theorem fg_164 : zv_fg RX0 17 0 1 := ⟨RX0, TX0, 4, tyX0, "GuestFrames$Draft", ck_0, by decide, wd_164, Or.inl rfl⟩
theorem fg_165 : zv_fg RX0 27 0 2 := ⟨RX0, TX0, 4, tyX0, "GuestFrames$Draft", ck_0, by decide, wd_165, Or.inl rfl⟩
theorem fg_167 : zv_fg RX0 31 0 3 := ⟨RX0, TX0, 4, tyX0, "GuestFrames$Draft", ck_0, by decide, wd_167, Or.inl rfl⟩
theorem fg_163 : zv_fg RX0 9 0 0 := ⟨RX0, TX0, 4, tyX0, "GuestFrames$Draft", ck_0, by decide, wd_163, Or.inl rfl⟩
theorem fg_348 : zv_fg RX1 11 1 0 := ⟨RX1, TX1, 5, tyX1, "GuestFrames$Frame", ck_1, by decide, wd_348, Or.inl rfl⟩
theorem fg_349 : zv_fg RX1 15 1 1 := ⟨RX1, TX1, 5, tyX1, "GuestFrames$Frame", ck_1, by decide, wd_349, Or.inl rfl⟩
theorem fg_350 : zv_fg RX1 19 1 2 := ⟨RX1, TX1, 5, tyX1, "GuestFrames$Frame", ck_1, by decide, wd_350, Or.inl rfl⟩
theorem fg_351 : zv_fg RX1 23 1 3 := ⟨RX1, TX1, 5, tyX1, "GuestFrames$Frame", ck_1, by decide, wd_351, Or.inl rfl⟩
theorem fg_352 : zv_fg RX1 27 1 4 := ⟨RX1, TX1, 5, tyX1, "GuestFrames$Frame", ck_1, by decide, wd_352, Or.inl rfl⟩
theorem fg_318 : zv_fg RX1 53 6 2 := ⟨RX6, TX6, 7, tyX6, "GuestFrames$Routine", ck_6, by decide, wd_318, Or.inl rfl⟩
theorem fg_268 : zv_fg RX2 15 2 1 := ⟨RX2, TX2, 11, tyX2, "GuestFrames$Heap", ck_2, by decide, wd_268, Or.inl rfl⟩
theorem fg_269 : zv_fg RX2 19 2 2 := ⟨RX2, TX2, 11, tyX2, "GuestFrames$Heap", ck_2, by decide, wd_269, Or.inl rfl⟩
theorem fg_270 : zv_fg RX2 22 2 3 := ⟨RX2, TX2, 11, tyX2, "GuestFrames$Heap", ck_2, by decide, wd_270, Or.inl rfl⟩
theorem fg_271 : zv_fg RX2 25 2 4 := ⟨RX2, TX2, 11, tyX2, "GuestFrames$Heap", ck_2, by decide, wd_271, Or.inl rfl⟩
theorem fg_272 : zv_fg RX2 28 2 5 := ⟨RX2, TX2, 11, tyX2, "GuestFrames$Heap", ck_2, by decide, wd_272, Or.inl rfl⟩
theorem fg_273 : zv_fg RX2 31 2 6 := ⟨RX2, TX2, 11, tyX2, "GuestFrames$Heap", ck_2, by decide, wd_273, Or.inl rfl⟩
theorem fg_141 : zv_fg RX2 40 7 1 := ⟨RX7, TX7, 4, tyX7, "GuestFrames$Types", ck_7, by decide, wd_141, Or.inl rfl⟩
theorem fg_274 : zv_fg RX2 45 2 7 := ⟨RX2, TX2, 11, tyX2, "GuestFrames$Heap", ck_2, by decide, wd_274, Or.inl rfl⟩
theorem fg_275 : zv_fg RX2 49 2 8 := ⟨RX2, TX2, 11, tyX2, "GuestFrames$Heap", ck_2, by decide, wd_275, Or.inl rfl⟩
theorem fg_276 : zv_fg RX2 52 2 9 := ⟨RX2, TX2, 11, tyX2, "GuestFrames$Heap", ck_2, by decide, wd_276, Or.inl rfl⟩
theorem fg_277 : zv_fg RX2 55 2 10 := ⟨RX2, TX2, 11, tyX2, "GuestFrames$Heap", ck_2, by decide, wd_277, Or.inl rfl⟩
theorem fg_139 : zv_fg RX2 88 7 0 := ⟨RX7, TX7, 4, tyX7, "GuestFrames$Types", ck_7, by decide, wd_139, Or.inl rfl⟩
theorem fg_267 : zv_fg RX2 9 2 0 := ⟨RX2, TX2, 11, tyX2, "GuestFrames$Heap", ck_2, by decide, wd_267, Or.inl rfl⟩
theorem fg_315 : zv_fg RX3 115 6 1 := ⟨RX6, TX6, 7, tyX6, "GuestFrames$Routine", ck_6, by decide, wd_315, Or.inl rfl⟩
theorem fg_325 : zv_fg RX3 122 6 5 := ⟨RX6, TX6, 7, tyX6, "GuestFrames$Routine", ck_6, by decide, wd_325, Or.inl rfl⟩
theorem fg_327 : zv_fg RX3 148 6 6 := ⟨RX6, TX6, 7, tyX6, "GuestFrames$Routine", ck_6, by decide, wd_327, Or.inl rfl⟩
theorem fg_214 : zv_fg RX3 15 3 3 := ⟨RX3, TX3, 12, tyX3, "GuestFrames$Judge", ck_3, by decide, wd_214, Or.inl rfl⟩
theorem fg_323 : zv_fg RX3 165 6 4 := ⟨RX6, TX6, 7, tyX6, "GuestFrames$Routine", ck_6, by decide, wd_323, Or.inl rfl⟩
theorem fg_143 : zv_fg RX3 166 7 1 := ⟨RX7, TX7, 4, tyX7, "GuestFrames$Types", ck_7, by decide, wd_143, Or.inl rfl⟩
theorem fg_215 : zv_fg RX3 18 3 4 := ⟨RX3, TX3, 12, tyX3, "GuestFrames$Judge", ck_3, by decide, wd_215, Or.inl rfl⟩
theorem fg_319 : zv_fg RX3 181 6 2 := ⟨RX6, TX6, 7, tyX6, "GuestFrames$Routine", ck_6, by decide, wd_319, Or.inl rfl⟩
theorem fg_216 : zv_fg RX3 22 3 5 := ⟨RX3, TX3, 12, tyX3, "GuestFrames$Judge", ck_3, by decide, wd_216, Or.inl rfl⟩
theorem fg_217 : zv_fg RX3 25 3 6 := ⟨RX3, TX3, 12, tyX3, "GuestFrames$Judge", ck_3, by decide, wd_217, Or.inl rfl⟩
theorem fg_211 : zv_fg RX3 28 3 0 := ⟨RX3, TX3, 12, tyX3, "GuestFrames$Judge", ck_3, by decide, wd_211, Or.inl rfl⟩
theorem fg_212 : zv_fg RX3 32 3 1 := ⟨RX3, TX3, 12, tyX3, "GuestFrames$Judge", ck_3, by decide, wd_212, Or.inl rfl⟩
theorem fg_219 : zv_fg RX3 36 3 8 := ⟨RX3, TX3, 12, tyX3, "GuestFrames$Judge", ck_3, by decide, wd_219, Or.inl rfl⟩
theorem fg_220 : zv_fg RX3 40 3 9 := ⟨RX3, TX3, 12, tyX3, "GuestFrames$Judge", ck_3, by decide, wd_220, Or.inl rfl⟩
theorem fg_218 : zv_fg RX3 44 3 7 := ⟨RX3, TX3, 12, tyX3, "GuestFrames$Judge", ck_3, by decide, wd_218, Or.inl rfl⟩
theorem fg_321 : zv_fg RX3 48 6 3 := ⟨RX6, TX6, 7, tyX6, "GuestFrames$Routine", ck_6, by decide, wd_321, Or.inl rfl⟩
theorem fg_313 : zv_fg RX3 73 6 0 := ⟨RX6, TX6, 7, tyX6, "GuestFrames$Routine", ck_6, by decide, wd_313, Or.inl rfl⟩
theorem fg_221 : zv_fg RX3 81 3 10 := ⟨RX3, TX3, 12, tyX3, "GuestFrames$Judge", ck_3, by decide, wd_221, Or.inl rfl⟩
theorem fg_222 : zv_fg RX3 84 3 11 := ⟨RX3, TX3, 12, tyX3, "GuestFrames$Judge", ck_3, by decide, wd_222, Or.inl rfl⟩
theorem fg_213 : zv_fg RX3 9 3 2 := ⟨RX3, TX3, 12, tyX3, "GuestFrames$Judge", ck_3, by decide, wd_213, Or.inl rfl⟩
theorem fg_367 : zv_fg RX4 15 4 1 := ⟨RX4, TX4, 12, tyX4, "GuestFrames$Machine", ck_4, by decide, wd_367, Or.inl rfl⟩
theorem fg_353 : zv_fg RX4 161 1 4 := ⟨RX1, TX1, 5, tyX1, "GuestFrames$Frame", ck_1, by decide, wd_353, Or.inl rfl⟩
theorem fg_369 : zv_fg RX4 19 4 3 := ⟨RX4, TX4, 12, tyX4, "GuestFrames$Machine", ck_4, by decide, wd_369, Or.inl rfl⟩
theorem fg_368 : zv_fg RX4 28 4 2 := ⟨RX4, TX4, 12, tyX4, "GuestFrames$Machine", ck_4, by decide, wd_368, Or.inl rfl⟩
theorem fg_370 : zv_fg RX4 34 4 4 := ⟨RX4, TX4, 12, tyX4, "GuestFrames$Machine", ck_4, by decide, wd_370, Or.inl rfl⟩
theorem fg_371 : zv_fg RX4 46 4 5 := ⟨RX4, TX4, 12, tyX4, "GuestFrames$Machine", ck_4, by decide, wd_371, Or.inl rfl⟩
theorem fg_376 : zv_fg RX4 57 4 9 := ⟨RX4, TX4, 12, tyX4, "GuestFrames$Machine", ck_4, by decide, wd_376, Or.inl rfl⟩
theorem fg_378 : zv_fg RX4 60 4 10 := ⟨RX4, TX4, 12, tyX4, "GuestFrames$Machine", ck_4, by decide, wd_378, Or.inl rfl⟩
theorem fg_380 : zv_fg RX4 63 4 11 := ⟨RX4, TX4, 12, tyX4, "GuestFrames$Machine", ck_4, by decide, wd_380, Or.inl rfl⟩
theorem fg_373 : zv_fg RX4 66 4 7 := ⟨RX4, TX4, 12, tyX4, "GuestFrames$Machine", ck_4, by decide, wd_373, Or.inl rfl⟩
theorem fg_372 : zv_fg RX4 81 4 6 := ⟨RX4, TX4, 12, tyX4, "GuestFrames$Machine", ck_4, by decide, wd_372, Or.inl rfl⟩
theorem fg_317 : zv_fg RX4 87 6 2 := ⟨RX6, TX6, 7, tyX6, "GuestFrames$Routine", ck_6, by decide, wd_317, Or.inl rfl⟩
theorem fg_366 : zv_fg RX4 9 4 0 := ⟨RX4, TX4, 12, tyX4, "GuestFrames$Machine", ck_4, by decide, wd_366, Or.inl rfl⟩
theorem fg_314 : zv_fg RX6 15 6 1 := ⟨RX6, TX6, 7, tyX6, "GuestFrames$Routine", ck_6, by decide, wd_314, Or.inl rfl⟩
theorem fg_316 : zv_fg RX6 23 6 2 := ⟨RX6, TX6, 7, tyX6, "GuestFrames$Routine", ck_6, by decide, wd_316, Or.inl rfl⟩
theorem fg_320 : zv_fg RX6 27 6 3 := ⟨RX6, TX6, 7, tyX6, "GuestFrames$Routine", ck_6, by decide, wd_320, Or.inl rfl⟩
theorem fg_312 : zv_fg RX6 9 6 0 := ⟨RX6, TX6, 7, tyX6, "GuestFrames$Routine", ck_6, by decide, wd_312, Or.inl rfl⟩
theorem fg_140 : zv_fg RX7 15 7 1 := ⟨RX7, TX7, 4, tyX7, "GuestFrames$Types", ck_7, by decide, wd_140, Or.inl rfl⟩
theorem fg_144 : zv_fg RX7 18 7 2 := ⟨RX7, TX7, 4, tyX7, "GuestFrames$Types", ck_7, by decide, wd_144, Or.inl rfl⟩
theorem fg_145 : zv_fg RX7 21 7 3 := ⟨RX7, TX7, 4, tyX7, "GuestFrames$Types", ck_7, by decide, wd_145, Or.inl rfl⟩
theorem fg_138 : zv_fg RX7 9 7 0 := ⟨RX7, TX7, 4, tyX7, "GuestFrames$Types", ck_7, by decide, wd_138, Or.inl rfl⟩
theorem fg_407 : zv_fg RX8 10 8 0 := ⟨RX8, TX8, 5, tyX8, "GuestFrames", ck_8, by decide, wd_407, Or.inl rfl⟩
theorem fg_168 : zv_fg RX8 107 0 3 := ⟨RX0, TX0, 4, tyX0, "GuestFrames$Draft", ck_0, by decide, wd_168, Or.inl rfl⟩
theorem fg_375 : zv_fg RX8 169 4 8 := ⟨RX4, TX4, 12, tyX4, "GuestFrames$Machine", ck_4, by decide, wd_375, Or.inl rfl⟩
theorem fg_377 : zv_fg RX8 173 4 9 := ⟨RX4, TX4, 12, tyX4, "GuestFrames$Machine", ck_4, by decide, wd_377, Or.inl rfl⟩
theorem fg_379 : zv_fg RX8 176 4 10 := ⟨RX4, TX4, 12, tyX4, "GuestFrames$Machine", ck_4, by decide, wd_379, Or.inl rfl⟩
theorem fg_381 : zv_fg RX8 179 4 11 := ⟨RX4, TX4, 12, tyX4, "GuestFrames$Machine", ck_4, by decide, wd_381, Or.inl rfl⟩
theorem fg_408 : zv_fg RX8 19 8 1 := ⟨RX8, TX8, 5, tyX8, "GuestFrames", ck_8, by decide, wd_408, Or.inl rfl⟩
theorem fg_409 : zv_fg RX8 26 8 2 := ⟨RX8, TX8, 5, tyX8, "GuestFrames", ck_8, by decide, wd_409, Or.inl rfl⟩
theorem fg_410 : zv_fg RX8 35 8 3 := ⟨RX8, TX8, 5, tyX8, "GuestFrames", ck_8, by decide, wd_410, Or.inl rfl⟩
theorem fg_411 : zv_fg RX8 53 8 4 := ⟨RX8, TX8, 5, tyX8, "GuestFrames", ck_8, by decide, wd_411, Or.inl rfl⟩
theorem fg_166 : zv_fg RX8 64 0 2 := ⟨RX0, TX0, 4, tyX0, "GuestFrames$Draft", ck_0, by decide, wd_166, Or.inl rfl⟩
theorem fg_142 : zv_fg RX8 86 7 1 := ⟨RX7, TX7, 4, tyX7, "GuestFrames$Types", ck_7, by decide, wd_142, Or.inl rfl⟩
theorem fg_146 : zv_fg RX8 92 7 3 := ⟨RX7, TX7, 4, tyX7, "GuestFrames$Types", ck_7, by decide, wd_146, Or.inl rfl⟩
theorem fg_194 : zv_fg RJx4a65c 48 5 2 := ⟨RJx4a65c, TJx4a65c, 3, tyJx4a65c, "java/util/ArrayList", ck_5, by decide, wd_194, Or.inl rfl⟩
theorem fg_196 : zv_fg RJx4a65c 63 5 0 := ⟨RJx4a65c, TJx4a65c, 3, tyJx4a65c, "java/util/ArrayList", ck_5, by decide, wd_196, Or.inr wd_197⟩
theorem fg_193 : zv_fg RJx4a65c 9 5 1 := ⟨RJx4a65c, TJx4a65c, 3, tyJx4a65c, "java/util/ArrayList", ck_5, by decide, wd_193, Or.inl rfl⟩
theorem mw_J13_compare_74951 : zv_mw yJ13_compare_74951 cJ13_compare_74951 4 ((some .int)) 2 := ⟨wd_1238, wd_123, by decide +kernel, by decide⟩
theorem mw_J15_checkIndex_7cf53 : zv_mw yJ15_checkIndex_7cf53 cJ15_checkIndex_7cf53 2 ((some .int)) 2 := ⟨wd_749, wd_113, by decide +kernel, by decide⟩
theorem mw_J3_checkIndex_8e157 : zv_mw yJ3_checkIndex_8e157 cJ3_checkIndex_8e157 3 ((some .int)) 3 := ⟨wd_752, wd_114, by decide +kernel, by decide⟩
theorem mw_J7_copyOf_1904c : zv_mw yJ7_copyOf_1904c cJ7_copyOf_1904c 2 ((some (.array (.object "java/lang/Object")))) 2 := ⟨wd_801, wd_110, by decide +kernel, by decide⟩
theorem mw_J7_copyOf_59c91 : zv_mw yJ7_copyOf_59c91 cJ7_copyOf_59c91 3 ((some (.array .int))) 2 := ⟨wd_623, wd_110, by decide +kernel, by decide⟩
theorem mw_J7_copyOf_6403c : zv_mw yJ7_copyOf_6403c cJ7_copyOf_6403c 4 ((some (.array (.object "java/lang/Object")))) 3 := ⟨wd_824, wd_110, by decide +kernel, by decide⟩
theorem mw_J7_copyOf_9075b : zv_mw yJ7_copyOf_9075b cJ7_copyOf_9075b 3 ((some (.array .byte))) 2 := ⟨wd_605, wd_110, by decide +kernel, by decide⟩
theorem mw_J7_fill_fda19 : zv_mw yJ7_fill_fda19 cJ7_fill_fda19 5 (none) 4 := ⟨wd_858, wd_110, by decide +kernel, by decide⟩
theorem mw_J7_rangeCheck_23922 : zv_mw yJ7_rangeCheck_23922 cJ7_rangeCheck_23922 3 (none) 3 := ⟨wd_861, wd_110, by decide +kernel, by decide⟩
theorem mw_J8_hugeLength_7cf53 : zv_mw yJ8_hugeLength_7cf53 cJ8_hugeLength_7cf53 3 ((some .int)) 2 := ⟨wd_798, wd_115, by decide +kernel, by decide⟩
theorem mw_J8_newLength_cabcc : zv_mw yJ8_newLength_cabcc cJ8_newLength_cabcc 4 ((some .int)) 3 := ⟨wd_793, wd_115, by decide +kernel, by decide⟩
theorem mw_Jx4a65c_add_72be8 : zv_mw yJx4a65c_add_72be8 cJx4a65c_add_72be8 4 (none) 3 := ⟨wd_782, wd_96, by decide +kernel, by decide⟩
theorem mw_Jx4a65c_add_9ea2d : zv_mw yJx4a65c_add_9ea2d cJx4a65c_add_9ea2d 2 ((some .boolean)) 1 := ⟨wd_778, wd_96, by decide +kernel, by decide⟩
theorem mw_Jx4a65c_elementData_915e3 : zv_mw yJx4a65c_elementData_915e3 cJx4a65c_elementData_915e3 2 ((some (.object "java/lang/Object"))) 1 := ⟨wd_756, wd_96, by decide +kernel, by decide⟩
theorem mw_Jx4a65c_get_915e3 : zv_mw yJx4a65c_get_915e3 cJx4a65c_get_915e3 2 ((some (.object "java/lang/Object"))) 1 := ⟨wd_746, wd_96, by decide +kernel, by decide⟩
theorem mw_Jx4a65c_grow_92f84 : zv_mw yJx4a65c_grow_92f84 cJx4a65c_grow_92f84 4 ((some (.array (.object "java/lang/Object")))) 1 := ⟨wd_790, wd_96, by decide +kernel, by decide⟩
theorem mw_Jx4a65c_grow_d5877 : zv_mw yJx4a65c_grow_d5877 cJx4a65c_grow_d5877 1 ((some (.array (.object "java/lang/Object")))) 0 := ⟨wd_786, wd_96, by decide +kernel, by decide⟩
theorem mw_Jx4a65c_init_da8c8 : zv_mw yJx4a65c_init_da8c8 cJx4a65c_init_da8c8 1 (none) 0 := ⟨wd_183, wd_96, by decide +kernel, by decide⟩
theorem mw_Jx4a65c_size_8abf5 : zv_mw yJx4a65c_size_8abf5 cJx4a65c_size_8abf5 1 ((some .int)) 0 := ⟨wd_596, wd_96, by decide +kernel, by decide⟩
theorem mw_Jxa1e45_init_da8c8 : zv_mw yJxa1e45_init_da8c8 cJxa1e45_init_da8c8 1 (none) 0 := ⟨wd_189, wd_94, by decide +kernel, by decide⟩
theorem mw_Jxc12de_init_da8c8 : zv_mw yJxc12de_init_da8c8 cJxc12de_init_da8c8 1 (none) 0 := ⟨wd_186, wd_95, by decide +kernel, by decide⟩
theorem mw_X0_append : zv_mw yX0_append cX0_append 5 (none) 2 := ⟨wd_530, wd_93, by decide +kernel, by decide⟩
theorem mw_X0_appendHandler : zv_mw yX0_appendHandler cX0_appendHandler 6 (none) 4 := ⟨wd_580, wd_93, by decide +kernel, by decide⟩
theorem mw_X0_code : zv_mw yX0_code cX0_code 1 ((some (.array .byte))) 0 := ⟨wd_602, wd_93, by decide +kernel, by decide⟩
theorem mw_X0_empty : zv_mw yX0_empty cX0_empty 1 (none) 0 := ⟨wd_633, wd_93, by decide +kernel, by decide⟩
theorem mw_X0_handlerRows : zv_mw yX0_handlerRows cX0_handlerRows 1 ((some (.array .int))) 0 := ⟨wd_620, wd_93, by decide +kernel, by decide⟩
theorem mw_X0_init : zv_mw yX0_init cX0_init 1 (none) 0 := ⟨wd_161, wd_93, by decide +kernel, by decide⟩
theorem mw_X1_begin : zv_mw yX1_begin cX1_begin 2 (none) 1 := ⟨wd_855, wd_102, by decide +kernel, by decide⟩
theorem mw_X1_catchAt : zv_mw yX1_catchAt cX1_catchAt 3 (none) 2 := ⟨wd_1375, wd_102, by decide +kernel, by decide⟩
theorem mw_X1_copySlot : zv_mw yX1_copySlot cX1_copySlot 4 (none) 3 := ⟨wd_1146, wd_102, by decide +kernel, by decide⟩
theorem mw_X1_drop : zv_mw yX1_drop cX1_drop 2 (none) 1 := ⟨wd_1183, wd_102, by decide +kernel, by decide⟩
theorem mw_X1_duplicate : zv_mw yX1_duplicate cX1_duplicate 1 (none) 0 := ⟨wd_1212, wd_102, by decide +kernel, by decide⟩
theorem mw_X1_exchange : zv_mw yX1_exchange cX1_exchange 4 (none) 0 := ⟨wd_1216, wd_102, by decide +kernel, by decide⟩
theorem mw_X1_increase : zv_mw yX1_increase cX1_increase 3 (none) 2 := ⟨wd_1235, wd_102, by decide +kernel, by decide⟩
theorem mw_X1_init : zv_mw yX1_init cX1_init 2 (none) 1 := ⟨wd_346, wd_102, by decide +kernel, by decide⟩
theorem mw_X1_number : zv_mw yX1_number cX1_number 2 ((some .long)) 1 := ⟨wd_1158, wd_102, by decide +kernel, by decide⟩
theorem mw_X1_opcode : zv_mw yX1_opcode cX1_opcode 1 ((some .int)) 0 := ⟨wd_1111, wd_102, by decide +kernel, by decide⟩
theorem mw_X1_operand : zv_mw yX1_operand cX1_operand 2 ((some .int)) 1 := ⟨wd_1133, wd_102, by decide +kernel, by decide⟩
theorem mw_X1_pair : zv_mw yX1_pair cX1_pair 1 ((some .int)) 0 := ⟨wd_1137, wd_102, by decide +kernel, by decide⟩
theorem mw_X1_popLocal : zv_mw yX1_popLocal cX1_popLocal 2 (none) 1 := ⟨wd_1191, wd_102, by decide +kernel, by decide⟩
theorem mw_X1_pushLocal : zv_mw yX1_pushLocal cX1_pushLocal 2 (none) 1 := ⟨wd_1142, wd_102, by decide +kernel, by decide⟩
theorem mw_X1_pushNumber : zv_mw yX1_pushNumber cX1_pushNumber 3 (none) 1 := ⟨wd_1128, wd_102, by decide +kernel, by decide⟩
theorem mw_X1_pushReference : zv_mw yX1_pushReference cX1_pushReference 2 (none) 1 := ⟨wd_1124, wd_102, by decide +kernel, by decide⟩
theorem mw_X1_reference : zv_mw yX1_reference cX1_reference 2 ((some .int)) 1 := ⟨wd_1154, wd_102, by decide +kernel, by decide⟩
theorem mw_X1_routine : zv_mw yX1_routine cX1_routine 1 ((some (.object "GuestFrames$Routine"))) 0 := ⟨wd_1366, wd_102, by decide +kernel, by decide⟩
theorem mw_X1_setNumber : zv_mw yX1_setNumber cX1_setNumber 4 (none) 2 := ⟨wd_1103, wd_102, by decide +kernel, by decide⟩
theorem mw_X1_showReferences : zv_mw yX1_showReferences cX1_showReferences 3 (none) 1 := ⟨wd_1311, wd_102, by decide +kernel, by decide⟩
theorem mw_X1_takeArguments : zv_mw yX1_takeArguments cX1_takeArguments 4 (none) 1 := ⟨wd_1290, wd_102, by decide +kernel, by decide⟩
theorem mw_X2_add : zv_mw yX2_add cX2_add 5 ((some .int)) 3 := ⟨wd_1330, wd_100, by decide +kernel, by decide⟩
theorem mw_X2_beginSearch : zv_mw yX2_beginSearch cX2_beginSearch 1 (none) 0 := ⟨wd_1307, wd_100, by decide +kernel, by decide⟩
theorem mw_X2_classes : zv_mw yX2_classes cX2_classes 3 ((some .int)) 1 := ⟨wd_1268, wd_100, by decide +kernel, by decide⟩
theorem mw_X2_element : zv_mw yX2_element cX2_element 4 ((some .long)) 2 := ⟨wd_1177, wd_100, by decide +kernel, by decide⟩
theorem mw_X2_empty : zv_mw yX2_empty cX2_empty 1 (none) 0 := ⟨wd_847, wd_100, by decide +kernel, by decide⟩
theorem mw_X2_field : zv_mw yX2_field cX2_field 3 ((some .int)) 2 := ⟨wd_1272, wd_100, by decide +kernel, by decide⟩
theorem mw_X2_init : zv_mw yX2_init cX2_init 5 (none) 2 := ⟨wd_265, wd_100, by decide +kernel, by decide⟩
theorem mw_X2_isArray : zv_mw yX2_isArray cX2_isArray 2 ((some .boolean)) 1 := ⟨wd_1354, wd_100, by decide +kernel, by decide⟩
theorem mw_X2_length : zv_mw yX2_length cX2_length 2 ((some .int)) 1 := ⟨wd_1173, wd_100, by decide +kernel, by decide⟩
theorem mw_X2_reach : zv_mw yX2_reach cX2_reach 2 (none) 1 := ⟨wd_1315, wd_100, by decide +kernel, by decide⟩
theorem mw_X2_reachWhatHas : zv_mw yX2_reachWhatHas cX2_reachWhatHas 6 (none) 1 := ⟨wd_1323, wd_100, by decide +kernel, by decide⟩
theorem mw_X2_reachedWords : zv_mw yX2_reachedWords cX2_reachedWords 3 ((some .int)) 0 := ⟨wd_1319, wd_100, by decide +kernel, by decide⟩
theorem mw_X2_setBits : zv_mw yX2_setBits cX2_setBits 5 (none) 4 := ⟨wd_1203, wd_100, by decide +kernel, by decide⟩
theorem mw_X2_setElement : zv_mw yX2_setElement cX2_setElement 6 (none) 3 := ⟨wd_1199, wd_100, by decide +kernel, by decide⟩
theorem mw_X2_setField : zv_mw yX2_setField cX2_setField 4 (none) 3 := ⟨wd_1281, wd_100, by decide +kernel, by decide⟩
theorem mw_X2_sweep : zv_mw yX2_sweep cX2_sweep 5 (none) 0 := ⟨wd_1334, wd_100, by decide +kernel, by decide⟩
theorem mw_X2_tag : zv_mw yX2_tag cX2_tag 2 ((some .int)) 1 := ⟨wd_1166, wd_100, by decide +kernel, by decide⟩
theorem mw_X2_wordsOfArray : zv_mw yX2_wordsOfArray cX2_wordsOfArray 3 ((some .long)) 2 := ⟨wd_1343, wd_100, by decide +kernel, by decide⟩
theorem mw_X2_wordsOfObject : zv_mw yX2_wordsOfObject cX2_wordsOfObject 2 ((some .int)) 1 := ⟨wd_1299, wd_100, by decide +kernel, by decide⟩
theorem mw_X3_await : zv_mw yX3_await cX3_await 2 (none) 1 := ⟨wd_649, wd_97, by decide +kernel, by decide⟩
theorem mw_X3_commonKinds : zv_mw yX3_commonKinds cX3_commonKinds 4 ((some .int)) 2 := ⟨wd_652, wd_97, by decide +kernel, by decide⟩
theorem mw_X3_duplicate : zv_mw yX3_duplicate cX3_duplicate 2 (none) 0 := ⟨wd_720, wd_97, by decide +kernel, by decide⟩
theorem mw_X3_exchange : zv_mw yX3_exchange cX3_exchange 3 (none) 0 := ⟨wd_728, wd_97, by decide +kernel, by decide⟩
theorem mw_X3_fieldKind : zv_mw yX3_fieldKind cX3_fieldKind 5 ((some .int)) 1 := ⟨wd_732, wd_97, by decide +kernel, by decide⟩
theorem mw_X3_findsGood : zv_mw yX3_findsGood cX3_findsGood 4 ((some .boolean)) 1 := ⟨wd_637, wd_97, by decide +kernel, by decide⟩
theorem mw_X3_give : zv_mw yX3_give cX3_give 2 (none) 1 := ⟨wd_724, wd_97, by decide +kernel, by decide⟩
theorem mw_X3_heed : zv_mw yX3_heed cX3_heed 4 (none) 3 := ⟨wd_701, wd_97, by decide +kernel, by decide⟩
theorem mw_X3_init : zv_mw yX3_init cX3_init 3 (none) 2 := ⟨wd_209, wd_97, by decide +kernel, by decide⟩
theorem mw_X3_isSortOfNumbers : zv_mw yX3_isSortOfNumbers cX3_isSortOfNumbers 1 ((some .boolean)) 1 := ⟨wd_764, wd_97, by decide +kernel, by decide⟩
theorem mw_X3_lead : zv_mw yX3_lead cX3_lead 5 (none) 3 := ⟨wd_641, wd_97, by decide +kernel, by decide⟩
theorem mw_X3_leadToHandlers : zv_mw yX3_leadToHandlers cX3_leadToHandlers 4 (none) 1 := ⟨wd_686, wd_97, by decide +kernel, by decide⟩
theorem mw_X3_look : zv_mw yX3_look cX3_look 5 (none) 1 := ⟨wd_657, wd_97, by decide +kernel, by decide⟩
theorem mw_X3_passCall : zv_mw yX3_passCall cX3_passCall 4 (none) 1 := ⟨wd_741, wd_97, by decide +kernel, by decide⟩
theorem mw_X3_readLocal : zv_mw yX3_readLocal cX3_readLocal 3 (none) 2 := ⟨wd_708, wd_97, by decide +kernel, by decide⟩
theorem mw_X3_require : zv_mw yX3_require cX3_require 2 (none) 1 := ⟨wd_645, wd_97, by decide +kernel, by decide⟩
theorem mw_X3_setLocal : zv_mw yX3_setLocal cX3_setLocal 3 (none) 2 := ⟨wd_712, wd_97, by decide +kernel, by decide⟩
theorem mw_X3_take : zv_mw yX3_take cX3_take 3 (none) 1 := ⟨wd_697, wd_97, by decide +kernel, by decide⟩
theorem mw_X3_takeNarrow : zv_mw yX3_takeNarrow cX3_takeNarrow 2 ((some .int)) 0 := ⟨wd_716, wd_97, by decide +kernel, by decide⟩
theorem mw_X4_beginFirst : zv_mw yX4_beginFirst cX4_beginFirst 14 (none) 3 := ⟨wd_851, wd_98, by decide +kernel, by decide⟩
theorem mw_X4_branch : zv_mw yX4_branch cX4_branch 4 ((some .int)) 1 := ⟨wd_1245, wd_98, by decide +kernel, by decide⟩
theorem mw_X4_call : zv_mw yX4_call cX4_call 3 ((some .int)) 0 := ⟨wd_1285, wd_98, by decide +kernel, by decide⟩
theorem mw_X4_cast : zv_mw yX4_cast cX4_cast 2 ((some .int)) 0 := ⟨wd_1380, wd_98, by decide +kernel, by decide⟩
theorem mw_X4_combined : zv_mw yX4_combined cX4_combined 5 ((some .long)) 3 := ⟨wd_1227, wd_98, by decide +kernel, by decide⟩
theorem mw_X4_convert : zv_mw yX4_convert cX4_convert 5 ((some .int)) 1 := ⟨wd_1231, wd_98, by decide +kernel, by decide⟩
theorem mw_X4_converted : zv_mw yX4_converted cX4_converted 3 ((some .long)) 2 := ⟨wd_1241, wd_98, by decide +kernel, by decide⟩
theorem mw_X4_faultOfElement : zv_mw yX4_faultOfElement cX4_faultOfElement 4 ((some .int)) 3 := ⟨wd_1162, wd_98, by decide +kernel, by decide⟩
theorem mw_X4_faultOfObject : zv_mw yX4_faultOfObject cX4_faultOfObject 3 ((some .int)) 2 := ⟨wd_1260, wd_98, by decide +kernel, by decide⟩
theorem mw_X4_goOn : zv_mw yX4_goOn cX4_goOn 2 ((some .int)) 1 := ⟨wd_1120, wd_98, by decide +kernel, by decide⟩
theorem mw_X4_holds : zv_mw yX4_holds cX4_holds 5 ((some .boolean)) 3 := ⟨wd_1248, wd_98, by decide +kernel, by decide⟩
theorem mw_X4_init : zv_mw yX4_init cX4_init 6 (none) 3 := ⟨wd_259, wd_98, by decide +kernel, by decide⟩
theorem mw_X4_isForSort : zv_mw yX4_isForSort cX4_isForSort 2 ((some .boolean)) 2 := ⟨wd_1169, wd_98, by decide +kernel, by decide⟩
theorem mw_X4_isOf : zv_mw yX4_isOf cX4_isOf 3 ((some .boolean)) 2 := ⟨wd_1264, wd_98, by decide +kernel, by decide⟩
theorem mw_X4_leave : zv_mw yX4_leave cX4_leave 3 ((some .int)) 1 := ⟨wd_1252, wd_98, by decide +kernel, by decide⟩
theorem mw_X4_loadElement : zv_mw yX4_loadElement cX4_loadElement 7 ((some .int)) 1 := ⟨wd_1150, wd_98, by decide +kernel, by decide⟩
theorem mw_X4_make : zv_mw yX4_make cX4_make 7 ((some .int)) 3 := ⟨wd_1303, wd_98, by decide +kernel, by decide⟩
theorem mw_X4_makeArray : zv_mw yX4_makeArray cX4_makeArray 5 ((some .int)) 2 := ⟨wd_1340, wd_98, by decide +kernel, by decide⟩
theorem mw_X4_makeObject : zv_mw yX4_makeObject cX4_makeObject 3 ((some .int)) 0 := ⟨wd_1295, wd_98, by decide +kernel, by decide⟩
theorem mw_X4_moved : zv_mw yX4_moved cX4_moved 7 ((some .long)) 4 := ⟨wd_1223, wd_98, by decide +kernel, by decide⟩
theorem mw_X4_perform : zv_mw yX4_perform cX4_perform 8 ((some .int)) 4 := ⟨wd_843, wd_98, by decide +kernel, by decide⟩
theorem mw_X4_push : zv_mw yX4_push cX4_push 2 ((some .int)) 1 := ⟨wd_1116, wd_98, by decide +kernel, by decide⟩
theorem mw_X4_raise : zv_mw yX4_raise cX4_raise 3 (none) 1 := ⟨wd_1388, wd_98, by decide +kernel, by decide⟩
theorem mw_X4_readField : zv_mw yX4_readField cX4_readField 6 ((some .int)) 0 := ⟨wd_1256, wd_98, by decide +kernel, by decide⟩
theorem mw_X4_reckon : zv_mw yX4_reckon cX4_reckon 11 ((some .int)) 1 := ⟨wd_1220, wd_98, by decide +kernel, by decide⟩
theorem mw_X4_shuffle : zv_mw yX4_shuffle cX4_shuffle 2 ((some .int)) 1 := ⟨wd_1208, wd_98, by decide +kernel, by decide⟩
theorem mw_X4_step : zv_mw yX4_step cX4_step 2 ((some .int)) 0 := ⟨wd_1107, wd_98, by decide +kernel, by decide⟩
theorem mw_X4_storeElement : zv_mw yX4_storeElement cX4_storeElement 5 ((some .int)) 1 := ⟨wd_1195, wd_98, by decide +kernel, by decide⟩
theorem mw_X4_storeLocal : zv_mw yX4_storeLocal cX4_storeLocal 1 ((some .int)) 0 := ⟨wd_1187, wd_98, by decide +kernel, by decide⟩
theorem mw_X4_tellLength : zv_mw yX4_tellLength cX4_tellLength 2 ((some .int)) 0 := ⟨wd_1350, wd_98, by decide +kernel, by decide⟩
theorem mw_X4_tellWhetherOf : zv_mw yX4_tellWhetherOf cX4_tellWhetherOf 3 ((some .int)) 0 := ⟨wd_1384, wd_98, by decide +kernel, by decide⟩
theorem mw_X4_throwTop : zv_mw yX4_throwTop cX4_throwTop 2 ((some .int)) 0 := ⟨wd_1358, wd_98, by decide +kernel, by decide⟩
theorem mw_X4_unwind : zv_mw yX4_unwind cX4_unwind 5 (none) 1 := ⟨wd_1362, wd_98, by decide +kernel, by decide⟩
theorem mw_X4_writeField : zv_mw yX4_writeField cX4_writeField 6 ((some .int)) 0 := ⟨wd_1277, wd_98, by decide +kernel, by decide⟩
theorem mw_X5_bytes : zv_mw yX5_bytes cX5_bytes 1 ((some .int)) 1 := ⟨wd_682, wd_112, by decide +kernel, by decide⟩
theorem mw_X5_goesOn : zv_mw yX5_goesOn cX5_goesOn 1 ((some .boolean)) 1 := ⟨wd_774, wd_112, by decide +kernel, by decide⟩
theorem mw_X5_jumps : zv_mw yX5_jumps cX5_jumps 1 ((some .boolean)) 1 := ⟨wd_767, wd_112, by decide +kernel, by decide⟩
theorem mw_X5_leaves : zv_mw yX5_leaves cX5_leaves 1 ((some .int)) 1 := ⟨wd_704, wd_112, by decide +kernel, by decide⟩
theorem mw_X5_pack : zv_mw yX5_pack cX5_pack 3 ((some .int)) 3 := ⟨wd_670, wd_112, by decide +kernel, by decide⟩
theorem mw_X5_shape : zv_mw yX5_shape cX5_shape 1 ((some .int)) 1 := ⟨wd_664, wd_112, by decide +kernel, by decide⟩
theorem mw_X5_shapeOfHeapUse : zv_mw yX5_shapeOfHeapUse cX5_shapeOfHeapUse 1 ((some .int)) 1 := ⟨wd_679, wd_112, by decide +kernel, by decide⟩
theorem mw_X5_shapeOfMove : zv_mw yX5_shapeOfMove cX5_shapeOfMove 1 ((some .int)) 1 := ⟨wd_667, wd_112, by decide +kernel, by decide⟩
theorem mw_X5_shapeOfReckoning : zv_mw yX5_shapeOfReckoning cX5_shapeOfReckoning 1 ((some .int)) 1 := ⟨wd_673, wd_112, by decide +kernel, by decide⟩
theorem mw_X5_shapeOfWay : zv_mw yX5_shapeOfWay cX5_shapeOfWay 1 ((some .int)) 1 := ⟨wd_676, wd_112, by decide +kernel, by decide⟩
theorem mw_X5_takes : zv_mw yX5_takes cX5_takes 1 ((some .int)) 1 := ⟨wd_693, wd_112, by decide +kernel, by decide⟩
theorem mw_X6_at : zv_mw yX6_at cX6_at 2 ((some .int)) 1 := ⟨wd_661, wd_101, by decide +kernel, by decide⟩
theorem mw_X6_guards : zv_mw yX6_guards cX6_guards 3 ((some .boolean)) 2 := ⟨wd_690, wd_101, by decide +kernel, by decide⟩
theorem mw_X6_init : zv_mw yX6_init cX6_init 7 (none) 6 := ⟨wd_307, wd_101, by decide +kernel, by decide⟩
theorem mw_X6_kindOfArgument : zv_mw yX6_kindOfArgument cX6_kindOfArgument 2 ((some .int)) 1 := ⟨wd_761, wd_101, by decide +kernel, by decide⟩
theorem mw_X6_pairAt : zv_mw yX6_pairAt cX6_pairAt 2 ((some .int)) 1 := ⟨wd_771, wd_101, by decide +kernel, by decide⟩
theorem mw_X6_placeToCatch : zv_mw yX6_placeToCatch cX6_placeToCatch 4 ((some .int)) 2 := ⟨wd_1370, wd_101, by decide +kernel, by decide⟩
theorem mw_X7_add : zv_mw yX7_add cX7_add 6 ((some .int)) 3 := ⟨wd_565, wd_92, by decide +kernel, by decide⟩
theorem mw_X7_has : zv_mw yX7_has cX7_has 2 ((some .boolean)) 1 := ⟨wd_543, wd_92, by decide +kernel, by decide⟩
theorem mw_X7_init : zv_mw yX7_init cX7_init 2 (none) 0 := ⟨wd_136, wd_92, by decide +kernel, by decide⟩
theorem mw_X7_kindOfField : zv_mw yX7_kindOfField cX7_kindOfField 3 ((some .int)) 2 := ⟨wd_737, wd_92, by decide +kernel, by decide⟩
theorem mw_X8_argumentsIn : zv_mw yX8_argumentsIn cX8_argumentsIn 2 ((some .int)) 1 := ⟨wd_311, wd_91, by decide +kernel, by decide⟩
