theorem wd_1 : Cond.selects RX3 yX3_lead yX3_lead ∈ zv_U := zv_in (n := 1) (by decide +kernel) (by decide +kernel)
theorem wd_2 : Cond.selects RX3 yX3_require yX3_require ∈ zv_U := zv_in (n := 2) (by decide +kernel) (by decide +kernel)
theorem wd_3 : Cond.selects RX3 yX3_await yX3_await ∈ zv_U := zv_in (n := 3) (by decide +kernel) (by decide +kernel)
theorem wd_4 : Cond.selects RX3 yX3_look yX3_look ∈ zv_U := zv_in (n := 4) (by decide +kernel) (by decide +kernel)
theorem wd_5 : Cond.selects RX3 yX3_leadToHandlers yX3_leadToHandlers ∈ zv_U := zv_in (n := 5) (by decide +kernel) (by decide +kernel)
theorem wd_6 : Cond.selects RX3 yX3_take yX3_take ∈ zv_U := zv_in (n := 6) (by decide +kernel) (by decide +kernel)
theorem wd_7 : Cond.selects RX3 yX3_heed yX3_heed ∈ zv_U := zv_in (n := 7) (by decide +kernel) (by decide +kernel)
theorem wd_8 : Cond.selects RX3 yX3_readLocal yX3_readLocal ∈ zv_U := zv_in (n := 8) (by decide +kernel) (by decide +kernel)
theorem wd_9 : Cond.selects RX3 yX3_setLocal yX3_setLocal ∈ zv_U := zv_in (n := 9) (by decide +kernel) (by decide +kernel)
theorem wd_10 : Cond.selects RX3 yX3_takeNarrow yX3_takeNarrow ∈ zv_U := zv_in (n := 10) (by decide +kernel) (by decide +kernel)
theorem wd_11 : Cond.selects RX3 yX3_duplicate yX3_duplicate ∈ zv_U := zv_in (n := 11) (by decide +kernel) (by decide +kernel)
theorem wd_12 : Cond.selects RX3 yX3_give yX3_give ∈ zv_U := zv_in (n := 12) (by decide +kernel) (by decide +kernel)
theorem wd_13 : Cond.selects RX3 yX3_exchange yX3_exchange ∈ zv_U := zv_in (n := 13) (by decide +kernel) (by decide +kernel)
theorem wd_14 : Cond.selects RX3 yX3_fieldKind yX3_fieldKind ∈ zv_U := zv_in (n := 14) (by decide +kernel) (by decide +kernel)
theorem wd_15 : Cond.selects RX3 yX3_passCall yX3_passCall ∈ zv_U := zv_in (n := 15) (by decide +kernel) (by decide +kernel)
theorem wd_16 : Cond.selects RJx4a65c yJx4a65c_add_72be8 yJx4a65c_add_72be8 ∈ zv_U := zv_in (n := 16) (by decide +kernel) (by decide +kernel)
theorem wd_17 : Cond.selects RJx4a65c yJx4a65c_grow_d5877 yJx4a65c_grow_d5877 ∈ zv_U := zv_in (n := 17) (by decide +kernel) (by decide +kernel)
theorem wd_18 : Cond.selects RJx4a65c yJx4a65c_grow_92f84 yJx4a65c_grow_92f84 ∈ zv_U := zv_in (n := 18) (by decide +kernel) (by decide +kernel)
theorem wd_19 : Cond.selects RX4 yX4_beginFirst yX4_beginFirst ∈ zv_U := zv_in (n := 19) (by decide +kernel) (by decide +kernel)
theorem wd_20 : Cond.selects RX4 yX4_step yX4_step ∈ zv_U := zv_in (n := 20) (by decide +kernel) (by decide +kernel)
theorem wd_21 : Cond.selects RX4 yX4_push yX4_push ∈ zv_U := zv_in (n := 21) (by decide +kernel) (by decide +kernel)
theorem wd_22 : Cond.selects RX4 yX4_goOn yX4_goOn ∈ zv_U := zv_in (n := 22) (by decide +kernel) (by decide +kernel)
theorem wd_23 : Cond.selects RX1 yX1_copySlot yX1_copySlot ∈ zv_U := zv_in (n := 23) (by decide +kernel) (by decide +kernel)
theorem wd_24 : Cond.selects RX4 yX4_loadElement yX4_loadElement ∈ zv_U := zv_in (n := 24) (by decide +kernel) (by decide +kernel)
theorem wd_25 : Cond.selects RX4 yX4_faultOfElement yX4_faultOfElement ∈ zv_U := zv_in (n := 25) (by decide +kernel) (by decide +kernel)
theorem wd_26 : Cond.selects RX4 yX4_storeLocal yX4_storeLocal ∈ zv_U := zv_in (n := 26) (by decide +kernel) (by decide +kernel)
theorem wd_27 : Cond.selects RX4 yX4_storeElement yX4_storeElement ∈ zv_U := zv_in (n := 27) (by decide +kernel) (by decide +kernel)
theorem wd_28 : Cond.selects RX2 yX2_setBits yX2_setBits ∈ zv_U := zv_in (n := 28) (by decide +kernel) (by decide +kernel)
theorem wd_29 : Cond.selects RX4 yX4_shuffle yX4_shuffle ∈ zv_U := zv_in (n := 29) (by decide +kernel) (by decide +kernel)
theorem wd_30 : Cond.selects RX4 yX4_reckon yX4_reckon ∈ zv_U := zv_in (n := 30) (by decide +kernel) (by decide +kernel)
theorem wd_31 : Cond.selects RX4 yX4_convert yX4_convert ∈ zv_U := zv_in (n := 31) (by decide +kernel) (by decide +kernel)
theorem wd_32 : Cond.selects RX4 yX4_branch yX4_branch ∈ zv_U := zv_in (n := 32) (by decide +kernel) (by decide +kernel)
theorem wd_33 : Cond.selects RX4 yX4_leave yX4_leave ∈ zv_U := zv_in (n := 33) (by decide +kernel) (by decide +kernel)
theorem wd_34 : Cond.selects RX4 yX4_readField yX4_readField ∈ zv_U := zv_in (n := 34) (by decide +kernel) (by decide +kernel)
theorem wd_35 : Cond.selects RX4 yX4_faultOfObject yX4_faultOfObject ∈ zv_U := zv_in (n := 35) (by decide +kernel) (by decide +kernel)
theorem wd_36 : Cond.selects RX4 yX4_isOf yX4_isOf ∈ zv_U := zv_in (n := 36) (by decide +kernel) (by decide +kernel)
theorem wd_37 : Cond.selects RX4 yX4_writeField yX4_writeField ∈ zv_U := zv_in (n := 37) (by decide +kernel) (by decide +kernel)
theorem wd_38 : Cond.selects RX4 yX4_call yX4_call ∈ zv_U := zv_in (n := 38) (by decide +kernel) (by decide +kernel)
theorem wd_39 : Cond.selects RX4 yX4_makeObject yX4_makeObject ∈ zv_U := zv_in (n := 39) (by decide +kernel) (by decide +kernel)
theorem wd_40 : Cond.selects RX4 yX4_make yX4_make ∈ zv_U := zv_in (n := 40) (by decide +kernel) (by decide +kernel)
theorem wd_41 : Cond.selects RX2 yX2_reachWhatHas yX2_reachWhatHas ∈ zv_U := zv_in (n := 41) (by decide +kernel) (by decide +kernel)
theorem wd_42 : Cond.selects RX2 yX2_sweep yX2_sweep ∈ zv_U := zv_in (n := 42) (by decide +kernel) (by decide +kernel)
theorem wd_43 : Cond.selects RX4 yX4_makeArray yX4_makeArray ∈ zv_U := zv_in (n := 43) (by decide +kernel) (by decide +kernel)
theorem wd_44 : Cond.selects RX4 yX4_tellLength yX4_tellLength ∈ zv_U := zv_in (n := 44) (by decide +kernel) (by decide +kernel)
theorem wd_45 : Cond.selects RX4 yX4_throwTop yX4_throwTop ∈ zv_U := zv_in (n := 45) (by decide +kernel) (by decide +kernel)
theorem wd_46 : Cond.selects RX4 yX4_unwind yX4_unwind ∈ zv_U := zv_in (n := 46) (by decide +kernel) (by decide +kernel)
theorem wd_47 : Cond.selects RX4 yX4_cast yX4_cast ∈ zv_U := zv_in (n := 47) (by decide +kernel) (by decide +kernel)
theorem wd_48 : Cond.selects RX4 yX4_tellWhetherOf yX4_tellWhetherOf ∈ zv_U := zv_in (n := 48) (by decide +kernel) (by decide +kernel)
theorem wd_49 : Cond.selects RX4 yX4_raise yX4_raise ∈ zv_U := zv_in (n := 49) (by decide +kernel) (by decide +kernel)
theorem wd_91 : Cond.initialized RX8 ∈ zv_U := zv_in (n := 91) (by decide +kernel) (by decide +kernel)
theorem wd_92 : Cond.initialized RX7 ∈ zv_U := zv_in (n := 92) (by decide +kernel) (by decide +kernel)
theorem wd_93 : Cond.initialized RX0 ∈ zv_U := zv_in (n := 93) (by decide +kernel) (by decide +kernel)
theorem wd_94 : Cond.initialized RJxa1e45 ∈ zv_U := zv_in (n := 94) (by decide +kernel) (by decide +kernel)
theorem wd_95 : Cond.initialized RJxc12de ∈ zv_U := zv_in (n := 95) (by decide +kernel) (by decide +kernel)
theorem wd_96 : Cond.initialized RJx4a65c ∈ zv_U := zv_in (n := 96) (by decide +kernel) (by decide +kernel)
theorem wd_97 : Cond.initialized RX3 ∈ zv_U := zv_in (n := 97) (by decide +kernel) (by decide +kernel)
theorem wd_98 : Cond.initialized RX4 ∈ zv_U := zv_in (n := 98) (by decide +kernel) (by decide +kernel)
theorem wd_99 : Cond.initialized RJ9 ∈ zv_U := zv_in (n := 99) (by decide +kernel) (by decide +kernel)
theorem wd_100 : Cond.initialized RX2 ∈ zv_U := zv_in (n := 100) (by decide +kernel) (by decide +kernel)
theorem wd_101 : Cond.initialized RX6 ∈ zv_U := zv_in (n := 101) (by decide +kernel) (by decide +kernel)
theorem wd_102 : Cond.initialized RX1 ∈ zv_U := zv_in (n := 102) (by decide +kernel) (by decide +kernel)
theorem wd_110 : Cond.initialized RJ7 ∈ zv_U := zv_in (n := 110) (by decide +kernel) (by decide +kernel)
theorem wd_111 : Cond.initialized RJ10 ∈ zv_U := zv_in (n := 111) (by decide +kernel) (by decide +kernel)
theorem wd_112 : Cond.initialized RX5 ∈ zv_U := zv_in (n := 112) (by decide +kernel) (by decide +kernel)
theorem wd_113 : Cond.initialized RJ15 ∈ zv_U := zv_in (n := 113) (by decide +kernel) (by decide +kernel)
theorem wd_114 : Cond.initialized RJ3 ∈ zv_U := zv_in (n := 114) (by decide +kernel) (by decide +kernel)
theorem wd_115 : Cond.initialized RJ8 ∈ zv_U := zv_in (n := 115) (by decide +kernel) (by decide +kernel)
theorem wd_123 : Cond.initialized RJ13 ∈ zv_U := zv_in (n := 123) (by decide +kernel) (by decide +kernel)
theorem wd_129 : Cond.methodLink RX8 1 objectInit ∈ zv_U := zv_in (n := 129) (by decide +kernel) (by decide +kernel)
theorem wd_132 : Cond.classLink RX8 7 RX7 ∈ zv_U := zv_in (n := 132) (by decide +kernel) (by decide +kernel)
theorem wd_133 : Cond.instantiable RX7 4 ∈ zv_U := zv_in (n := 133) (by decide +kernel) (by decide +kernel)
theorem wd_134 : Cond.methodLink RX8 9 yX7_init ∈ zv_U := zv_in (n := 134) (by decide +kernel) (by decide +kernel)
theorem wd_135 : Cond.instanceMethod yX7_init ∈ zv_U := zv_in (n := 135) (by decide +kernel) (by decide +kernel)
theorem wd_136 : Cond.code yX7_init cX7_init 2 (none) ∈ zv_U := zv_in (n := 136) (by decide +kernel) (by decide +kernel)
theorem wd_137 : Cond.methodLink RX7 3 objectInit ∈ zv_U := zv_in (n := 137) (by decide +kernel) (by decide +kernel)
theorem wd_138 : Cond.fieldLink RX7 9 "GuestFrames$Types" "above" "[I" ∈ zv_U := zv_in (n := 138) (by decide +kernel) (by decide +kernel)
theorem wd_139 : Cond.fieldLink RX2 92 "GuestFrames$Types" "above" "[I" ∈ zv_U := zv_in (n := 139) (by decide +kernel) (by decide +kernel)
theorem wd_140 : Cond.fieldLink RX7 15 "GuestFrames$Types" "fields" "[I" ∈ zv_U := zv_in (n := 140) (by decide +kernel) (by decide +kernel)
theorem wd_141 : Cond.fieldLink RX2 40 "GuestFrames$Types" "fields" "[I" ∈ zv_U := zv_in (n := 141) (by decide +kernel) (by decide +kernel)
theorem wd_142 : Cond.fieldLink RX8 86 "GuestFrames$Types" "fields" "[I" ∈ zv_U := zv_in (n := 142) (by decide +kernel) (by decide +kernel)
theorem wd_143 : Cond.fieldLink RX3 166 "GuestFrames$Types" "fields" "[I" ∈ zv_U := zv_in (n := 143) (by decide +kernel) (by decide +kernel)
theorem wd_144 : Cond.fieldLink RX7 18 "GuestFrames$Types" "references" "[I" ∈ zv_U := zv_in (n := 144) (by decide +kernel) (by decide +kernel)
theorem wd_145 : Cond.fieldLink RX7 21 "GuestFrames$Types" "known" "I" ∈ zv_U := zv_in (n := 145) (by decide +kernel) (by decide +kernel)
theorem wd_146 : Cond.fieldLink RX8 92 "GuestFrames$Types" "known" "I" ∈ zv_U := zv_in (n := 146) (by decide +kernel) (by decide +kernel)
theorem wd_157 : Cond.classLink RX8 16 RX0 ∈ zv_U := zv_in (n := 157) (by decide +kernel) (by decide +kernel)
theorem wd_158 : Cond.instantiable RX0 4 ∈ zv_U := zv_in (n := 158) (by decide +kernel) (by decide +kernel)
theorem wd_160 : Cond.instanceMethod yX0_init ∈ zv_U := zv_in (n := 160) (by decide +kernel) (by decide +kernel)
theorem wd_161 : Cond.code yX0_init cX0_init 1 (none) ∈ zv_U := zv_in (n := 161) (by decide +kernel) (by decide +kernel)
theorem wd_162 : Cond.methodLink RX0 3 objectInit ∈ zv_U := zv_in (n := 162) (by decide +kernel) (by decide +kernel)
theorem wd_163 : Cond.fieldLink RX0 9 "GuestFrames$Draft" "tape" "[B" ∈ zv_U := zv_in (n := 163) (by decide +kernel) (by decide +kernel)
theorem wd_164 : Cond.fieldLink RX0 17 "GuestFrames$Draft" "rows" "[I" ∈ zv_U := zv_in (n := 164) (by decide +kernel) (by decide +kernel)
theorem wd_165 : Cond.fieldLink RX0 27 "GuestFrames$Draft" "length" "I" ∈ zv_U := zv_in (n := 165) (by decide +kernel) (by decide +kernel)
theorem wd_166 : Cond.fieldLink RX8 64 "GuestFrames$Draft" "length" "I" ∈ zv_U := zv_in (n := 166) (by decide +kernel) (by decide +kernel)
theorem wd_167 : Cond.fieldLink RX0 31 "GuestFrames$Draft" "handlers" "I" ∈ zv_U := zv_in (n := 167) (by decide +kernel) (by decide +kernel)
theorem wd_168 : Cond.fieldLink RX8 107 "GuestFrames$Draft" "handlers" "I" ∈ zv_U := zv_in (n := 168) (by decide +kernel) (by decide +kernel)
theorem wd_178 : Cond.arrayClass .byte ∈ zv_U := zv_in (n := 178) (by decide +kernel) (by decide +kernel)
theorem wd_179 : Cond.classLink RX8 23 RJx4a65c ∈ zv_U := zv_in (n := 179) (by decide +kernel) (by decide +kernel)
theorem wd_180 : Cond.instantiable RJx4a65c 3 ∈ zv_U := zv_in (n := 180) (by decide +kernel) (by decide +kernel)
theorem wd_181 : Cond.methodLink RX8 25 yJx4a65c_init_da8c8 ∈ zv_U := zv_in (n := 181) (by decide +kernel) (by decide +kernel)
theorem wd_182 : Cond.instanceMethod yJx4a65c_init_da8c8 ∈ zv_U := zv_in (n := 182) (by decide +kernel) (by decide +kernel)
theorem wd_183 : Cond.code yJx4a65c_init_da8c8 cJx4a65c_init_da8c8 1 (none) ∈ zv_U := zv_in (n := 183) (by decide +kernel) (by decide +kernel)
theorem wd_184 : Cond.methodLink RJx4a65c 1 yJxc12de_init_da8c8 ∈ zv_U := zv_in (n := 184) (by decide +kernel) (by decide +kernel)
theorem wd_185 : Cond.instanceMethod yJxc12de_init_da8c8 ∈ zv_U := zv_in (n := 185) (by decide +kernel) (by decide +kernel)
theorem wd_186 : Cond.code yJxc12de_init_da8c8 cJxc12de_init_da8c8 1 (none) ∈ zv_U := zv_in (n := 186) (by decide +kernel) (by decide +kernel)
theorem wd_187 : Cond.methodLink RJxc12de 1 yJxa1e45_init_da8c8 ∈ zv_U := zv_in (n := 187) (by decide +kernel) (by decide +kernel)
theorem wd_188 : Cond.instanceMethod yJxa1e45_init_da8c8 ∈ zv_U := zv_in (n := 188) (by decide +kernel) (by decide +kernel)
theorem wd_189 : Cond.code yJxa1e45_init_da8c8 cJxa1e45_init_da8c8 1 (none) ∈ zv_U := zv_in (n := 189) (by decide +kernel) (by decide +kernel)
theorem wd_190 : Cond.methodLink RJxa1e45 1 objectInit ∈ zv_U := zv_in (n := 190) (by decide +kernel) (by decide +kernel)
theorem wd_191 : Cond.fieldLink RJx4a65c 39 "java/util/ArrayList" "DEFAULTCAPACITY_EMPTY_ELEMENTDATA" "[Ljava/lang/Object;" ∈ zv_U := zv_in (n := 191) (by decide +kernel) (by decide +kernel)
theorem wd_193 : Cond.fieldLink RJx4a65c 9 "java/util/ArrayList" "elementData" "[Ljava/lang/Object;" ∈ zv_U := zv_in (n := 193) (by decide +kernel) (by decide +kernel)
theorem wd_194 : Cond.fieldLink RJx4a65c 48 "java/util/ArrayList" "size" "I" ∈ zv_U := zv_in (n := 194) (by decide +kernel) (by decide +kernel)
theorem wd_195 : Cond.fieldLink RJxc12de 7 "java/util/AbstractList" "modCount" "I" ∈ zv_U := zv_in (n := 195) (by decide +kernel) (by decide +kernel)
theorem wd_196 : Cond.fieldLink RJx4a65c 63 "java/util/ArrayList" "modCount" "I" ∈ zv_U := zv_in (n := 196) (by decide +kernel) (by decide +kernel)
theorem wd_197 : Cond.sameField "java/util/ArrayList" "java/util/AbstractList" "modCount" "I" ∈ zv_U := zv_in (n := 197) (by decide +kernel) (by decide +kernel)
theorem wd_205 : Cond.classLink RX8 30 RX3 ∈ zv_U := zv_in (n := 205) (by decide +kernel) (by decide +kernel)
theorem wd_206 : Cond.instantiable RX3 12 ∈ zv_U := zv_in (n := 206) (by decide +kernel) (by decide +kernel)
theorem wd_207 : Cond.methodLink RX8 32 yX3_init ∈ zv_U := zv_in (n := 207) (by decide +kernel) (by decide +kernel)
theorem wd_208 : Cond.instanceMethod yX3_init ∈ zv_U := zv_in (n := 208) (by decide +kernel) (by decide +kernel)
theorem wd_209 : Cond.code yX3_init cX3_init 3 (none) ∈ zv_U := zv_in (n := 209) (by decide +kernel) (by decide +kernel)
theorem wd_210 : Cond.methodLink RX3 3 objectInit ∈ zv_U := zv_in (n := 210) (by decide +kernel) (by decide +kernel)
theorem wd_211 : Cond.fieldLink RX3 28 "GuestFrames$Judge" "types" "LGuestFrames$Types;" ∈ zv_U := zv_in (n := 211) (by decide +kernel) (by decide +kernel)
theorem wd_212 : Cond.fieldLink RX3 32 "GuestFrames$Judge" "routines" "Ljava/util/ArrayList;" ∈ zv_U := zv_in (n := 212) (by decide +kernel) (by decide +kernel)
theorem wd_213 : Cond.fieldLink RX3 9 "GuestFrames$Judge" "seen" "[Z" ∈ zv_U := zv_in (n := 213) (by decide +kernel) (by decide +kernel)
theorem wd_214 : Cond.fieldLink RX3 15 "GuestFrames$Judge" "waits" "[Z" ∈ zv_U := zv_in (n := 214) (by decide +kernel) (by decide +kernel)
theorem wd_215 : Cond.fieldLink RX3 18 "GuestFrames$Judge" "waiting" "[I" ∈ zv_U := zv_in (n := 215) (by decide +kernel) (by decide +kernel)
theorem wd_216 : Cond.fieldLink RX3 22 "GuestFrames$Judge" "stackAt" "[I" ∈ zv_U := zv_in (n := 216) (by decide +kernel) (by decide +kernel)
theorem wd_217 : Cond.fieldLink RX3 25 "GuestFrames$Judge" "localsAt" "[I" ∈ zv_U := zv_in (n := 217) (by decide +kernel) (by decide +kernel)
theorem wd_218 : Cond.fieldLink RX3 44 "GuestFrames$Judge" "waitingPlaces" "I" ∈ zv_U := zv_in (n := 218) (by decide +kernel) (by decide +kernel)
theorem wd_219 : Cond.fieldLink RX3 36 "GuestFrames$Judge" "routine" "LGuestFrames$Routine;" ∈ zv_U := zv_in (n := 219) (by decide +kernel) (by decide +kernel)
theorem wd_220 : Cond.fieldLink RX3 40 "GuestFrames$Judge" "good" "Z" ∈ zv_U := zv_in (n := 220) (by decide +kernel) (by decide +kernel)
theorem wd_221 : Cond.fieldLink RX3 81 "GuestFrames$Judge" "stack" "I" ∈ zv_U := zv_in (n := 221) (by decide +kernel) (by decide +kernel)
theorem wd_222 : Cond.fieldLink RX3 84 "GuestFrames$Judge" "locals" "I" ∈ zv_U := zv_in (n := 222) (by decide +kernel) (by decide +kernel)
theorem wd_249 : Cond.classLink RX8 39 RX4 ∈ zv_U := zv_in (n := 249) (by decide +kernel) (by decide +kernel)
theorem wd_250 : Cond.instantiable RX4 12 ∈ zv_U := zv_in (n := 250) (by decide +kernel) (by decide +kernel)
theorem wd_251 : Cond.methodLink RX8 41 yJ9_min_7cf53 ∈ zv_U := zv_in (n := 251) (by decide +kernel) (by decide +kernel)
theorem wd_252 : Cond.static yJ9_min_7cf53 ∈ zv_U := zv_in (n := 252) (by decide +kernel) (by decide +kernel)
theorem wd_253 : Cond.code yJ9_min_7cf53 cJ9_min_7cf53 2 ((some .int)) ∈ zv_U := zv_in (n := 253) (by decide +kernel) (by decide +kernel)
theorem wd_254 : Cond.methodLink RX8 47 yJ9_max_7cf53 ∈ zv_U := zv_in (n := 254) (by decide +kernel) (by decide +kernel)
theorem wd_255 : Cond.static yJ9_max_7cf53 ∈ zv_U := zv_in (n := 255) (by decide +kernel) (by decide +kernel)
theorem wd_256 : Cond.code yJ9_max_7cf53 cJ9_max_7cf53 2 ((some .int)) ∈ zv_U := zv_in (n := 256) (by decide +kernel) (by decide +kernel)
theorem wd_257 : Cond.methodLink RX8 50 yX4_init ∈ zv_U := zv_in (n := 257) (by decide +kernel) (by decide +kernel)
theorem wd_258 : Cond.instanceMethod yX4_init ∈ zv_U := zv_in (n := 258) (by decide +kernel) (by decide +kernel)
theorem wd_259 : Cond.code yX4_init cX4_init 6 (none) ∈ zv_U := zv_in (n := 259) (by decide +kernel) (by decide +kernel)
theorem wd_260 : Cond.methodLink RX4 3 objectInit ∈ zv_U := zv_in (n := 260) (by decide +kernel) (by decide +kernel)
theorem wd_261 : Cond.classLink RX4 23 RX2 ∈ zv_U := zv_in (n := 261) (by decide +kernel) (by decide +kernel)
theorem wd_262 : Cond.instantiable RX2 11 ∈ zv_U := zv_in (n := 262) (by decide +kernel) (by decide +kernel)
theorem wd_263 : Cond.methodLink RX4 25 yX2_init ∈ zv_U := zv_in (n := 263) (by decide +kernel) (by decide +kernel)
theorem wd_264 : Cond.instanceMethod yX2_init ∈ zv_U := zv_in (n := 264) (by decide +kernel) (by decide +kernel)
theorem wd_265 : Cond.code yX2_init cX2_init 5 (none) ∈ zv_U := zv_in (n := 265) (by decide +kernel) (by decide +kernel)
theorem wd_266 : Cond.methodLink RX2 3 objectInit ∈ zv_U := zv_in (n := 266) (by decide +kernel) (by decide +kernel)
theorem wd_267 : Cond.fieldLink RX2 9 "GuestFrames$Heap" "types" "LGuestFrames$Types;" ∈ zv_U := zv_in (n := 267) (by decide +kernel) (by decide +kernel)
theorem wd_268 : Cond.fieldLink RX2 15 "GuestFrames$Heap" "words" "[I" ∈ zv_U := zv_in (n := 268) (by decide +kernel) (by decide +kernel)
theorem wd_269 : Cond.fieldLink RX2 19 "GuestFrames$Heap" "start" "[I" ∈ zv_U := zv_in (n := 269) (by decide +kernel) (by decide +kernel)
theorem wd_270 : Cond.fieldLink RX2 22 "GuestFrames$Heap" "size" "[I" ∈ zv_U := zv_in (n := 270) (by decide +kernel) (by decide +kernel)
theorem wd_271 : Cond.fieldLink RX2 25 "GuestFrames$Heap" "reachedIn" "[I" ∈ zv_U := zv_in (n := 271) (by decide +kernel) (by decide +kernel)
theorem wd_272 : Cond.fieldLink RX2 28 "GuestFrames$Heap" "order" "[I" ∈ zv_U := zv_in (n := 272) (by decide +kernel) (by decide +kernel)
theorem wd_273 : Cond.fieldLink RX2 31 "GuestFrames$Heap" "reached" "[I" ∈ zv_U := zv_in (n := 273) (by decide +kernel) (by decide +kernel)
theorem wd_274 : Cond.fieldLink RX2 45 "GuestFrames$Heap" "used" "I" ∈ zv_U := zv_in (n := 274) (by decide +kernel) (by decide +kernel)
theorem wd_275 : Cond.fieldLink RX2 49 "GuestFrames$Heap" "top" "I" ∈ zv_U := zv_in (n := 275) (by decide +kernel) (by decide +kernel)
theorem wd_276 : Cond.fieldLink RX2 52 "GuestFrames$Heap" "search" "I" ∈ zv_U := zv_in (n := 276) (by decide +kernel) (by decide +kernel)
theorem wd_277 : Cond.fieldLink RX2 55 "GuestFrames$Heap" "reachedHandles" "I" ∈ zv_U := zv_in (n := 277) (by decide +kernel) (by decide +kernel)
theorem wd_301 : Cond.classLink RX4 32 RX1 ∈ zv_U := zv_in (n := 301) (by decide +kernel) (by decide +kernel)
theorem wd_303 : Cond.classLink RX4 38 RX6 ∈ zv_U := zv_in (n := 303) (by decide +kernel) (by decide +kernel)
theorem wd_304 : Cond.instantiable RX6 7 ∈ zv_U := zv_in (n := 304) (by decide +kernel) (by decide +kernel)
theorem wd_305 : Cond.methodLink RX4 40 yX6_init ∈ zv_U := zv_in (n := 305) (by decide +kernel) (by decide +kernel)
theorem wd_306 : Cond.instanceMethod yX6_init ∈ zv_U := zv_in (n := 306) (by decide +kernel) (by decide +kernel)
theorem wd_307 : Cond.code yX6_init cX6_init 7 (none) ∈ zv_U := zv_in (n := 307) (by decide +kernel) (by decide +kernel)
theorem wd_308 : Cond.methodLink RX6 3 objectInit ∈ zv_U := zv_in (n := 308) (by decide +kernel) (by decide +kernel)
theorem wd_310 : Cond.static yX8_argumentsIn ∈ zv_U := zv_in (n := 310) (by decide +kernel) (by decide +kernel)
theorem wd_311 : Cond.code yX8_argumentsIn cX8_argumentsIn 2 ((some .int)) ∈ zv_U := zv_in (n := 311) (by decide +kernel) (by decide +kernel)
theorem wd_312 : Cond.fieldLink RX6 9 "GuestFrames$Routine" "code" "[B" ∈ zv_U := zv_in (n := 312) (by decide +kernel) (by decide +kernel)
theorem wd_313 : Cond.fieldLink RX3 73 "GuestFrames$Routine" "code" "[B" ∈ zv_U := zv_in (n := 313) (by decide +kernel) (by decide +kernel)
theorem wd_314 : Cond.fieldLink RX6 15 "GuestFrames$Routine" "handlers" "[I" ∈ zv_U := zv_in (n := 314) (by decide +kernel) (by decide +kernel)
theorem wd_315 : Cond.fieldLink RX3 115 "GuestFrames$Routine" "handlers" "[I" ∈ zv_U := zv_in (n := 315) (by decide +kernel) (by decide +kernel)
theorem wd_316 : Cond.fieldLink RX6 23 "GuestFrames$Routine" "arguments" "I" ∈ zv_U := zv_in (n := 316) (by decide +kernel) (by decide +kernel)
theorem wd_317 : Cond.fieldLink RX4 87 "GuestFrames$Routine" "arguments" "I" ∈ zv_U := zv_in (n := 317) (by decide +kernel) (by decide +kernel)
theorem wd_318 : Cond.fieldLink RX1 53 "GuestFrames$Routine" "arguments" "I" ∈ zv_U := zv_in (n := 318) (by decide +kernel) (by decide +kernel)
theorem wd_319 : Cond.fieldLink RX3 181 "GuestFrames$Routine" "arguments" "I" ∈ zv_U := zv_in (n := 319) (by decide +kernel) (by decide +kernel)
theorem wd_320 : Cond.fieldLink RX6 27 "GuestFrames$Routine" "kinds" "I" ∈ zv_U := zv_in (n := 320) (by decide +kernel) (by decide +kernel)
theorem wd_321 : Cond.fieldLink RX3 48 "GuestFrames$Routine" "kinds" "I" ∈ zv_U := zv_in (n := 321) (by decide +kernel) (by decide +kernel)
theorem wd_322 : Cond.fieldLink RX6 30 "GuestFrames$Routine" "locals" "I" ∈ zv_U := zv_in (n := 322) (by decide +kernel) (by decide +kernel)
theorem wd_323 : Cond.fieldLink RX3 165 "GuestFrames$Routine" "locals" "I" ∈ zv_U := zv_in (n := 323) (by decide +kernel) (by decide +kernel)
theorem wd_324 : Cond.fieldLink RX6 33 "GuestFrames$Routine" "stack" "I" ∈ zv_U := zv_in (n := 324) (by decide +kernel) (by decide +kernel)
theorem wd_325 : Cond.fieldLink RX3 122 "GuestFrames$Routine" "stack" "I" ∈ zv_U := zv_in (n := 325) (by decide +kernel) (by decide +kernel)
theorem wd_326 : Cond.fieldLink RX6 36 "GuestFrames$Routine" "end" "I" ∈ zv_U := zv_in (n := 326) (by decide +kernel) (by decide +kernel)
theorem wd_327 : Cond.fieldLink RX3 148 "GuestFrames$Routine" "end" "I" ∈ zv_U := zv_in (n := 327) (by decide +kernel) (by decide +kernel)
theorem wd_343 : Cond.instantiable RX1 5 ∈ zv_U := zv_in (n := 343) (by decide +kernel) (by decide +kernel)
theorem wd_344 : Cond.methodLink RX4 43 yX1_init ∈ zv_U := zv_in (n := 344) (by decide +kernel) (by decide +kernel)
theorem wd_345 : Cond.instanceMethod yX1_init ∈ zv_U := zv_in (n := 345) (by decide +kernel) (by decide +kernel)
theorem wd_346 : Cond.code yX1_init cX1_init 2 (none) ∈ zv_U := zv_in (n := 346) (by decide +kernel) (by decide +kernel)
theorem wd_347 : Cond.methodLink RX1 3 objectInit ∈ zv_U := zv_in (n := 347) (by decide +kernel) (by decide +kernel)
theorem wd_348 : Cond.fieldLink RX1 11 "GuestFrames$Frame" "numbers" "[J" ∈ zv_U := zv_in (n := 348) (by decide +kernel) (by decide +kernel)
theorem wd_349 : Cond.fieldLink RX1 15 "GuestFrames$Frame" "references" "[I" ∈ zv_U := zv_in (n := 349) (by decide +kernel) (by decide +kernel)
theorem wd_350 : Cond.fieldLink RX1 19 "GuestFrames$Frame" "top" "I" ∈ zv_U := zv_in (n := 350) (by decide +kernel) (by decide +kernel)
theorem wd_351 : Cond.fieldLink RX1 23 "GuestFrames$Frame" "routine" "LGuestFrames$Routine;" ∈ zv_U := zv_in (n := 351) (by decide +kernel) (by decide +kernel)
theorem wd_352 : Cond.fieldLink RX1 27 "GuestFrames$Frame" "place" "I" ∈ zv_U := zv_in (n := 352) (by decide +kernel) (by decide +kernel)
theorem wd_353 : Cond.fieldLink RX4 161 "GuestFrames$Frame" "place" "I" ∈ zv_U := zv_in (n := 353) (by decide +kernel) (by decide +kernel)
theorem wd_366 : Cond.fieldLink RX4 9 "GuestFrames$Machine" "types" "LGuestFrames$Types;" ∈ zv_U := zv_in (n := 366) (by decide +kernel) (by decide +kernel)
theorem wd_367 : Cond.fieldLink RX4 15 "GuestFrames$Machine" "routines" "Ljava/util/ArrayList;" ∈ zv_U := zv_in (n := 367) (by decide +kernel) (by decide +kernel)
theorem wd_368 : Cond.fieldLink RX4 28 "GuestFrames$Machine" "heap" "LGuestFrames$Heap;" ∈ zv_U := zv_in (n := 368) (by decide +kernel) (by decide +kernel)
theorem wd_369 : Cond.fieldLink RX4 19 "GuestFrames$Machine" "room" "I" ∈ zv_U := zv_in (n := 369) (by decide +kernel) (by decide +kernel)
theorem wd_370 : Cond.fieldLink RX4 34 "GuestFrames$Machine" "frames" "[LGuestFrames$Frame;" ∈ zv_U := zv_in (n := 370) (by decide +kernel) (by decide +kernel)
theorem wd_371 : Cond.fieldLink RX4 46 "GuestFrames$Machine" "frame" "LGuestFrames$Frame;" ∈ zv_U := zv_in (n := 371) (by decide +kernel) (by decide +kernel)
theorem wd_372 : Cond.fieldLink RX4 81 "GuestFrames$Machine" "depth" "I" ∈ zv_U := zv_in (n := 372) (by decide +kernel) (by decide +kernel)
theorem wd_373 : Cond.fieldLink RX4 66 "GuestFrames$Machine" "outcome" "I" ∈ zv_U := zv_in (n := 373) (by decide +kernel) (by decide +kernel)
theorem wd_374 : Cond.fieldLink RX4 53 "GuestFrames$Machine" "answer" "J" ∈ zv_U := zv_in (n := 374) (by decide +kernel) (by decide +kernel)
theorem wd_375 : Cond.fieldLink RX8 169 "GuestFrames$Machine" "answer" "J" ∈ zv_U := zv_in (n := 375) (by decide +kernel) (by decide +kernel)
theorem wd_376 : Cond.fieldLink RX4 57 "GuestFrames$Machine" "begun" "I" ∈ zv_U := zv_in (n := 376) (by decide +kernel) (by decide +kernel)
theorem wd_377 : Cond.fieldLink RX8 173 "GuestFrames$Machine" "begun" "I" ∈ zv_U := zv_in (n := 377) (by decide +kernel) (by decide +kernel)
theorem wd_378 : Cond.fieldLink RX4 60 "GuestFrames$Machine" "latestWords" "I" ∈ zv_U := zv_in (n := 378) (by decide +kernel) (by decide +kernel)
theorem wd_379 : Cond.fieldLink RX8 176 "GuestFrames$Machine" "latestWords" "I" ∈ zv_U := zv_in (n := 379) (by decide +kernel) (by decide +kernel)
theorem wd_380 : Cond.fieldLink RX4 63 "GuestFrames$Machine" "mostWords" "I" ∈ zv_U := zv_in (n := 380) (by decide +kernel) (by decide +kernel)
theorem wd_381 : Cond.fieldLink RX8 179 "GuestFrames$Machine" "mostWords" "I" ∈ zv_U := zv_in (n := 381) (by decide +kernel) (by decide +kernel)
theorem wd_407 : Cond.fieldLink RX8 10 "GuestFrames" "types" "LGuestFrames$Types;" ∈ zv_U := zv_in (n := 407) (by decide +kernel) (by decide +kernel)
theorem wd_408 : Cond.fieldLink RX8 19 "GuestFrames" "draft" "LGuestFrames$Draft;" ∈ zv_U := zv_in (n := 408) (by decide +kernel) (by decide +kernel)
theorem wd_409 : Cond.fieldLink RX8 26 "GuestFrames" "routines" "Ljava/util/ArrayList;" ∈ zv_U := zv_in (n := 409) (by decide +kernel) (by decide +kernel)
theorem wd_410 : Cond.fieldLink RX8 35 "GuestFrames" "judge" "LGuestFrames$Judge;" ∈ zv_U := zv_in (n := 410) (by decide +kernel) (by decide +kernel)
theorem wd_411 : Cond.fieldLink RX8 53 "GuestFrames" "machine" "LGuestFrames$Machine;" ∈ zv_U := zv_in (n := 411) (by decide +kernel) (by decide +kernel)
theorem wd_527 : Cond.methodLink RX8 73 yX0_append ∈ zv_U := zv_in (n := 527) (by decide +kernel) (by decide +kernel)
theorem wd_528 : Cond.instanceMethod yX0_append ∈ zv_U := zv_in (n := 528) (by decide +kernel) (by decide +kernel)
theorem wd_529 : Cond.selects RX0 yX0_append yX0_append ∈ zv_U := zv_in (n := 529) (by decide +kernel) (by decide +kernel)
theorem wd_530 : Cond.code yX0_append cX0_append 5 (none) ∈ zv_U := zv_in (n := 530) (by decide +kernel) (by decide +kernel)
theorem wd_531 : Cond.methodLink RX0 21 yJ9_min_7cf53 ∈ zv_U := zv_in (n := 531) (by decide +kernel) (by decide +kernel)
theorem wd_540 : Cond.methodLink RX8 77 yX7_has ∈ zv_U := zv_in (n := 540) (by decide +kernel) (by decide +kernel)
theorem wd_541 : Cond.instanceMethod yX7_has ∈ zv_U := zv_in (n := 541) (by decide +kernel) (by decide +kernel)
theorem wd_542 : Cond.selects RX7 yX7_has yX7_has ∈ zv_U := zv_in (n := 542) (by decide +kernel) (by decide +kernel)
theorem wd_543 : Cond.code yX7_has cX7_has 2 ((some .boolean)) ∈ zv_U := zv_in (n := 543) (by decide +kernel) (by decide +kernel)
theorem wd_562 : Cond.methodLink RX8 97 yX7_add ∈ zv_U := zv_in (n := 562) (by decide +kernel) (by decide +kernel)
theorem wd_563 : Cond.instanceMethod yX7_add ∈ zv_U := zv_in (n := 563) (by decide +kernel) (by decide +kernel)
theorem wd_564 : Cond.selects RX7 yX7_add yX7_add ∈ zv_U := zv_in (n := 564) (by decide +kernel) (by decide +kernel)
theorem wd_565 : Cond.code yX7_add cX7_add 6 ((some .int)) ∈ zv_U := zv_in (n := 565) (by decide +kernel) (by decide +kernel)
theorem wd_577 : Cond.methodLink RX8 112 yX0_appendHandler ∈ zv_U := zv_in (n := 577) (by decide +kernel) (by decide +kernel)
theorem wd_578 : Cond.instanceMethod yX0_appendHandler ∈ zv_U := zv_in (n := 578) (by decide +kernel) (by decide +kernel)
theorem wd_579 : Cond.selects RX0 yX0_appendHandler yX0_appendHandler ∈ zv_U := zv_in (n := 579) (by decide +kernel) (by decide +kernel)
theorem wd_580 : Cond.code yX0_appendHandler cX0_appendHandler 6 (none) ∈ zv_U := zv_in (n := 580) (by decide +kernel) (by decide +kernel)
theorem wd_589 : Cond.methodLink RX8 118 yX8_argumentsIn ∈ zv_U := zv_in (n := 589) (by decide +kernel) (by decide +kernel)
theorem wd_593 : Cond.methodLink RX8 128 yJx4a65c_size_8abf5 ∈ zv_U := zv_in (n := 593) (by decide +kernel) (by decide +kernel)
theorem wd_594 : Cond.instanceMethod yJx4a65c_size_8abf5 ∈ zv_U := zv_in (n := 594) (by decide +kernel) (by decide +kernel)
theorem wd_595 : Cond.selects RJx4a65c yJx4a65c_size_8abf5 yJx4a65c_size_8abf5 ∈ zv_U := zv_in (n := 595) (by decide +kernel) (by decide +kernel)
theorem wd_596 : Cond.code yJx4a65c_size_8abf5 cJx4a65c_size_8abf5 1 ((some .int)) ∈ zv_U := zv_in (n := 596) (by decide +kernel) (by decide +kernel)
theorem wd_598 : Cond.classLink RX8 134 RX6 ∈ zv_U := zv_in (n := 598) (by decide +kernel) (by decide +kernel)
theorem wd_599 : Cond.methodLink RX8 136 yX0_code ∈ zv_U := zv_in (n := 599) (by decide +kernel) (by decide +kernel)
theorem wd_600 : Cond.instanceMethod yX0_code ∈ zv_U := zv_in (n := 600) (by decide +kernel) (by decide +kernel)
theorem wd_601 : Cond.selects RX0 yX0_code yX0_code ∈ zv_U := zv_in (n := 601) (by decide +kernel) (by decide +kernel)
theorem wd_602 : Cond.code yX0_code cX0_code 1 ((some (.array .byte))) ∈ zv_U := zv_in (n := 602) (by decide +kernel) (by decide +kernel)
theorem wd_603 : Cond.methodLink RX0 34 yJ7_copyOf_9075b ∈ zv_U := zv_in (n := 603) (by decide +kernel) (by decide +kernel)
theorem wd_604 : Cond.static yJ7_copyOf_9075b ∈ zv_U := zv_in (n := 604) (by decide +kernel) (by decide +kernel)
theorem wd_605 : Cond.code yJ7_copyOf_9075b cJ7_copyOf_9075b 3 ((some (.array .byte))) ∈ zv_U := zv_in (n := 605) (by decide +kernel) (by decide +kernel)
theorem wd_606 : Cond.methodLink RJ7 310 ⟨"[B", "clone", "()Ljava/lang/Object;"⟩ ∈ zv_U := zv_in (n := 606) (by decide +kernel) (by decide +kernel)
theorem wd_607 : Cond.sameMethod "[B" "java/lang/Object" "clone" "()Ljava/lang/Object;" ∈ zv_U := zv_in (n := 607) (by decide +kernel) (by decide +kernel)
theorem wd_608 : Cond.native ⟨"java/lang/Object", "clone", "()Ljava/lang/Object;"⟩ ∈ zv_U := zv_in (n := 608) (by decide +kernel) (by decide +kernel)
theorem wd_609 : Cond.instanceMethod ⟨"java/lang/Object", "clone", "()Ljava/lang/Object;"⟩ ∈ zv_U := zv_in (n := 609) (by decide +kernel) (by decide +kernel)
theorem wd_610 : Cond.selects "[B" ⟨"[B", "clone", "()Ljava/lang/Object;"⟩ ⟨"java/lang/Object", "clone", "()Ljava/lang/Object;"⟩ ∈ zv_U := zv_in (n := 610) (by decide +kernel) (by decide +kernel)
theorem wd_612 : Cond.classLink RJ7 311 "[B" ∈ zv_U := zv_in (n := 612) (by decide +kernel) (by decide +kernel)
theorem wd_613 : Cond.methodLink RJ7 304 yJ9_min_7cf53 ∈ zv_U := zv_in (n := 613) (by decide +kernel) (by decide +kernel)
theorem wd_614 : Cond.methodLink RJ7 150 ⟨"java/lang/System", "arraycopy", "(Ljava/lang/Object;ILjava/lang/Object;II)V"⟩ ∈ zv_U := zv_in (n := 614) (by decide +kernel) (by decide +kernel)
theorem wd_615 : Cond.static ⟨"java/lang/System", "arraycopy", "(Ljava/lang/Object;ILjava/lang/Object;II)V"⟩ ∈ zv_U := zv_in (n := 615) (by decide +kernel) (by decide +kernel)
theorem wd_616 : Cond.native ⟨"java/lang/System", "arraycopy", "(Ljava/lang/Object;ILjava/lang/Object;II)V"⟩ ∈ zv_U := zv_in (n := 616) (by decide +kernel) (by decide +kernel)
theorem wd_617 : Cond.methodLink RX8 140 yX0_handlerRows ∈ zv_U := zv_in (n := 617) (by decide +kernel) (by decide +kernel)
theorem wd_618 : Cond.instanceMethod yX0_handlerRows ∈ zv_U := zv_in (n := 618) (by decide +kernel) (by decide +kernel)
theorem wd_619 : Cond.selects RX0 yX0_handlerRows yX0_handlerRows ∈ zv_U := zv_in (n := 619) (by decide +kernel) (by decide +kernel)
theorem wd_620 : Cond.code yX0_handlerRows cX0_handlerRows 1 ((some (.array .int))) ∈ zv_U := zv_in (n := 620) (by decide +kernel) (by decide +kernel)
theorem wd_621 : Cond.methodLink RX0 40 yJ7_copyOf_59c91 ∈ zv_U := zv_in (n := 621) (by decide +kernel) (by decide +kernel)
theorem wd_622 : Cond.static yJ7_copyOf_59c91 ∈ zv_U := zv_in (n := 622) (by decide +kernel) (by decide +kernel)
theorem wd_623 : Cond.code yJ7_copyOf_59c91 cJ7_copyOf_59c91 3 ((some (.array .int))) ∈ zv_U := zv_in (n := 623) (by decide +kernel) (by decide +kernel)
theorem wd_624 : Cond.methodLink RJ7 316 ⟨"[I", "clone", "()Ljava/lang/Object;"⟩ ∈ zv_U := zv_in (n := 624) (by decide +kernel) (by decide +kernel)
theorem wd_625 : Cond.sameMethod "[I" "java/lang/Object" "clone" "()Ljava/lang/Object;" ∈ zv_U := zv_in (n := 625) (by decide +kernel) (by decide +kernel)
theorem wd_626 : Cond.selects "[I" ⟨"[I", "clone", "()Ljava/lang/Object;"⟩ ⟨"java/lang/Object", "clone", "()Ljava/lang/Object;"⟩ ∈ zv_U := zv_in (n := 626) (by decide +kernel) (by decide +kernel)
theorem wd_628 : Cond.classLink RJ7 317 "[I" ∈ zv_U := zv_in (n := 628) (by decide +kernel) (by decide +kernel)
theorem wd_629 : Cond.methodLink RX8 144 yX6_init ∈ zv_U := zv_in (n := 629) (by decide +kernel) (by decide +kernel)
theorem wd_630 : Cond.methodLink RX8 147 yX0_empty ∈ zv_U := zv_in (n := 630) (by decide +kernel) (by decide +kernel)
theorem wd_631 : Cond.instanceMethod yX0_empty ∈ zv_U := zv_in (n := 631) (by decide +kernel) (by decide +kernel)
theorem wd_632 : Cond.selects RX0 yX0_empty yX0_empty ∈ zv_U := zv_in (n := 632) (by decide +kernel) (by decide +kernel)
theorem wd_633 : Cond.code yX0_empty cX0_empty 1 (none) ∈ zv_U := zv_in (n := 633) (by decide +kernel) (by decide +kernel)
theorem wd_634 : Cond.methodLink RX8 150 yX3_findsGood ∈ zv_U := zv_in (n := 634) (by decide +kernel) (by decide +kernel)
theorem wd_635 : Cond.instanceMethod yX3_findsGood ∈ zv_U := zv_in (n := 635) (by decide +kernel) (by decide +kernel)
theorem wd_636 : Cond.selects RX3 yX3_findsGood yX3_findsGood ∈ zv_U := zv_in (n := 636) (by decide +kernel) (by decide +kernel)
theorem wd_637 : Cond.code yX3_findsGood cX3_findsGood 4 ((some .boolean)) ∈ zv_U := zv_in (n := 637) (by decide +kernel) (by decide +kernel)
theorem wd_638 : Cond.methodLink RX3 53 yX3_lead ∈ zv_U := zv_in (n := 638) (by decide +kernel) (by decide +kernel)
theorem wd_640 : Cond.instanceMethod yX3_lead ∈ zv_U := zv_in (n := 640) (by decide +kernel) (by decide +kernel)
theorem wd_641 : Cond.code yX3_lead cX3_lead 5 (none) ∈ zv_U := zv_in (n := 641) (by decide +kernel) (by decide +kernel)
theorem wd_642 : Cond.methodLink RX3 77 yX3_require ∈ zv_U := zv_in (n := 642) (by decide +kernel) (by decide +kernel)
theorem wd_644 : Cond.instanceMethod yX3_require ∈ zv_U := zv_in (n := 644) (by decide +kernel) (by decide +kernel)
theorem wd_645 : Cond.code yX3_require cX3_require 2 (none) ∈ zv_U := zv_in (n := 645) (by decide +kernel) (by decide +kernel)
theorem wd_646 : Cond.methodLink RX3 123 yX3_await ∈ zv_U := zv_in (n := 646) (by decide +kernel) (by decide +kernel)
theorem wd_648 : Cond.instanceMethod yX3_await ∈ zv_U := zv_in (n := 648) (by decide +kernel) (by decide +kernel)
theorem wd_649 : Cond.code yX3_await cX3_await 2 (none) ∈ zv_U := zv_in (n := 649) (by decide +kernel) (by decide +kernel)
theorem wd_650 : Cond.methodLink RX3 126 yX3_commonKinds ∈ zv_U := zv_in (n := 650) (by decide +kernel) (by decide +kernel)
theorem wd_651 : Cond.static yX3_commonKinds ∈ zv_U := zv_in (n := 651) (by decide +kernel) (by decide +kernel)
theorem wd_652 : Cond.code yX3_commonKinds cX3_commonKinds 4 ((some .int)) ∈ zv_U := zv_in (n := 652) (by decide +kernel) (by decide +kernel)
theorem wd_653 : Cond.constant RX3 130 (1431655765) ∈ zv_U := zv_in (n := 653) (by decide +kernel) (by decide +kernel)
theorem wd_654 : Cond.methodLink RX3 57 yX3_look ∈ zv_U := zv_in (n := 654) (by decide +kernel) (by decide +kernel)
theorem wd_656 : Cond.instanceMethod yX3_look ∈ zv_U := zv_in (n := 656) (by decide +kernel) (by decide +kernel)
theorem wd_657 : Cond.code yX3_look cX3_look 5 (none) ∈ zv_U := zv_in (n := 657) (by decide +kernel) (by decide +kernel)
theorem wd_658 : Cond.methodLink RX3 61 yX6_at ∈ zv_U := zv_in (n := 658) (by decide +kernel) (by decide +kernel)
theorem wd_659 : Cond.instanceMethod yX6_at ∈ zv_U := zv_in (n := 659) (by decide +kernel) (by decide +kernel)
theorem wd_660 : Cond.selects RX6 yX6_at yX6_at ∈ zv_U := zv_in (n := 660) (by decide +kernel) (by decide +kernel)
theorem wd_661 : Cond.code yX6_at cX6_at 2 ((some .int)) ∈ zv_U := zv_in (n := 661) (by decide +kernel) (by decide +kernel)
theorem wd_662 : Cond.methodLink RX3 65 yX5_shape ∈ zv_U := zv_in (n := 662) (by decide +kernel) (by decide +kernel)
theorem wd_663 : Cond.static yX5_shape ∈ zv_U := zv_in (n := 663) (by decide +kernel) (by decide +kernel)
theorem wd_664 : Cond.code yX5_shape cX5_shape 1 ((some .int)) ∈ zv_U := zv_in (n := 664) (by decide +kernel) (by decide +kernel)
theorem wd_665 : Cond.methodLink RX5 11 yX5_shapeOfMove ∈ zv_U := zv_in (n := 665) (by decide +kernel) (by decide +kernel)
theorem wd_666 : Cond.static yX5_shapeOfMove ∈ zv_U := zv_in (n := 666) (by decide +kernel) (by decide +kernel)
theorem wd_667 : Cond.code yX5_shapeOfMove cX5_shapeOfMove 1 ((some .int)) ∈ zv_U := zv_in (n := 667) (by decide +kernel) (by decide +kernel)
theorem wd_668 : Cond.methodLink RX5 24 yX5_pack ∈ zv_U := zv_in (n := 668) (by decide +kernel) (by decide +kernel)
theorem wd_669 : Cond.static yX5_pack ∈ zv_U := zv_in (n := 669) (by decide +kernel) (by decide +kernel)
theorem wd_670 : Cond.code yX5_pack cX5_pack 3 ((some .int)) ∈ zv_U := zv_in (n := 670) (by decide +kernel) (by decide +kernel)
theorem wd_671 : Cond.methodLink RX5 15 yX5_shapeOfReckoning ∈ zv_U := zv_in (n := 671) (by decide +kernel) (by decide +kernel)
theorem wd_672 : Cond.static yX5_shapeOfReckoning ∈ zv_U := zv_in (n := 672) (by decide +kernel) (by decide +kernel)
theorem wd_673 : Cond.code yX5_shapeOfReckoning cX5_shapeOfReckoning 1 ((some .int)) ∈ zv_U := zv_in (n := 673) (by decide +kernel) (by decide +kernel)
theorem wd_674 : Cond.methodLink RX5 18 yX5_shapeOfWay ∈ zv_U := zv_in (n := 674) (by decide +kernel) (by decide +kernel)
theorem wd_675 : Cond.static yX5_shapeOfWay ∈ zv_U := zv_in (n := 675) (by decide +kernel) (by decide +kernel)
theorem wd_676 : Cond.code yX5_shapeOfWay cX5_shapeOfWay 1 ((some .int)) ∈ zv_U := zv_in (n := 676) (by decide +kernel) (by decide +kernel)
theorem wd_677 : Cond.methodLink RX5 21 yX5_shapeOfHeapUse ∈ zv_U := zv_in (n := 677) (by decide +kernel) (by decide +kernel)
theorem wd_678 : Cond.static yX5_shapeOfHeapUse ∈ zv_U := zv_in (n := 678) (by decide +kernel) (by decide +kernel)
theorem wd_679 : Cond.code yX5_shapeOfHeapUse cX5_shapeOfHeapUse 1 ((some .int)) ∈ zv_U := zv_in (n := 679) (by decide +kernel) (by decide +kernel)
theorem wd_680 : Cond.methodLink RX3 70 yX5_bytes ∈ zv_U := zv_in (n := 680) (by decide +kernel) (by decide +kernel)
theorem wd_681 : Cond.static yX5_bytes ∈ zv_U := zv_in (n := 681) (by decide +kernel) (by decide +kernel)
theorem wd_682 : Cond.code yX5_bytes cX5_bytes 1 ((some .int)) ∈ zv_U := zv_in (n := 682) (by decide +kernel) (by decide +kernel)
theorem wd_683 : Cond.methodLink RX3 87 yX3_leadToHandlers ∈ zv_U := zv_in (n := 683) (by decide +kernel) (by decide +kernel)
theorem wd_685 : Cond.instanceMethod yX3_leadToHandlers ∈ zv_U := zv_in (n := 685) (by decide +kernel) (by decide +kernel)
theorem wd_686 : Cond.code yX3_leadToHandlers cX3_leadToHandlers 4 (none) ∈ zv_U := zv_in (n := 686) (by decide +kernel) (by decide +kernel)
theorem wd_687 : Cond.methodLink RX3 118 yX6_guards ∈ zv_U := zv_in (n := 687) (by decide +kernel) (by decide +kernel)
theorem wd_688 : Cond.instanceMethod yX6_guards ∈ zv_U := zv_in (n := 688) (by decide +kernel) (by decide +kernel)
theorem wd_689 : Cond.selects RX6 yX6_guards yX6_guards ∈ zv_U := zv_in (n := 689) (by decide +kernel) (by decide +kernel)
theorem wd_690 : Cond.code yX6_guards cX6_guards 3 ((some .boolean)) ∈ zv_U := zv_in (n := 690) (by decide +kernel) (by decide +kernel)
theorem wd_691 : Cond.methodLink RX3 90 yX5_takes ∈ zv_U := zv_in (n := 691) (by decide +kernel) (by decide +kernel)
theorem wd_692 : Cond.static yX5_takes ∈ zv_U := zv_in (n := 692) (by decide +kernel) (by decide +kernel)
theorem wd_693 : Cond.code yX5_takes cX5_takes 1 ((some .int)) ∈ zv_U := zv_in (n := 693) (by decide +kernel) (by decide +kernel)
theorem wd_694 : Cond.methodLink RX3 93 yX3_take ∈ zv_U := zv_in (n := 694) (by decide +kernel) (by decide +kernel)
theorem wd_696 : Cond.instanceMethod yX3_take ∈ zv_U := zv_in (n := 696) (by decide +kernel) (by decide +kernel)
theorem wd_697 : Cond.code yX3_take cX3_take 3 (none) ∈ zv_U := zv_in (n := 697) (by decide +kernel) (by decide +kernel)
theorem wd_698 : Cond.methodLink RX3 96 yX3_heed ∈ zv_U := zv_in (n := 698) (by decide +kernel) (by decide +kernel)
theorem wd_700 : Cond.instanceMethod yX3_heed ∈ zv_U := zv_in (n := 700) (by decide +kernel) (by decide +kernel)
theorem wd_701 : Cond.code yX3_heed cX3_heed 4 (none) ∈ zv_U := zv_in (n := 701) (by decide +kernel) (by decide +kernel)
theorem wd_702 : Cond.methodLink RX3 99 yX5_leaves ∈ zv_U := zv_in (n := 702) (by decide +kernel) (by decide +kernel)
theorem wd_703 : Cond.static yX5_leaves ∈ zv_U := zv_in (n := 703) (by decide +kernel) (by decide +kernel)
theorem wd_704 : Cond.code yX5_leaves cX5_leaves 1 ((some .int)) ∈ zv_U := zv_in (n := 704) (by decide +kernel) (by decide +kernel)
theorem wd_705 : Cond.methodLink RX3 131 yX3_readLocal ∈ zv_U := zv_in (n := 705) (by decide +kernel) (by decide +kernel)
theorem wd_707 : Cond.instanceMethod yX3_readLocal ∈ zv_U := zv_in (n := 707) (by decide +kernel) (by decide +kernel)
theorem wd_708 : Cond.code yX3_readLocal cX3_readLocal 3 (none) ∈ zv_U := zv_in (n := 708) (by decide +kernel) (by decide +kernel)
theorem wd_709 : Cond.methodLink RX3 135 yX3_setLocal ∈ zv_U := zv_in (n := 709) (by decide +kernel) (by decide +kernel)
theorem wd_711 : Cond.instanceMethod yX3_setLocal ∈ zv_U := zv_in (n := 711) (by decide +kernel) (by decide +kernel)
theorem wd_712 : Cond.code yX3_setLocal cX3_setLocal 3 (none) ∈ zv_U := zv_in (n := 712) (by decide +kernel) (by decide +kernel)
theorem wd_713 : Cond.methodLink RX3 138 yX3_takeNarrow ∈ zv_U := zv_in (n := 713) (by decide +kernel) (by decide +kernel)
theorem wd_715 : Cond.instanceMethod yX3_takeNarrow ∈ zv_U := zv_in (n := 715) (by decide +kernel) (by decide +kernel)
theorem wd_716 : Cond.code yX3_takeNarrow cX3_takeNarrow 2 ((some .int)) ∈ zv_U := zv_in (n := 716) (by decide +kernel) (by decide +kernel)
theorem wd_717 : Cond.methodLink RX3 142 yX3_duplicate ∈ zv_U := zv_in (n := 717) (by decide +kernel) (by decide +kernel)
theorem wd_719 : Cond.instanceMethod yX3_duplicate ∈ zv_U := zv_in (n := 719) (by decide +kernel) (by decide +kernel)
theorem wd_720 : Cond.code yX3_duplicate cX3_duplicate 2 (none) ∈ zv_U := zv_in (n := 720) (by decide +kernel) (by decide +kernel)
theorem wd_721 : Cond.methodLink RX3 102 yX3_give ∈ zv_U := zv_in (n := 721) (by decide +kernel) (by decide +kernel)
theorem wd_723 : Cond.instanceMethod yX3_give ∈ zv_U := zv_in (n := 723) (by decide +kernel) (by decide +kernel)
theorem wd_724 : Cond.code yX3_give cX3_give 2 (none) ∈ zv_U := zv_in (n := 724) (by decide +kernel) (by decide +kernel)
theorem wd_725 : Cond.methodLink RX3 145 yX3_exchange ∈ zv_U := zv_in (n := 725) (by decide +kernel) (by decide +kernel)
theorem wd_727 : Cond.instanceMethod yX3_exchange ∈ zv_U := zv_in (n := 727) (by decide +kernel) (by decide +kernel)
theorem wd_728 : Cond.code yX3_exchange cX3_exchange 3 (none) ∈ zv_U := zv_in (n := 728) (by decide +kernel) (by decide +kernel)
theorem wd_729 : Cond.methodLink RX3 151 yX3_fieldKind ∈ zv_U := zv_in (n := 729) (by decide +kernel) (by decide +kernel)
theorem wd_731 : Cond.instanceMethod yX3_fieldKind ∈ zv_U := zv_in (n := 731) (by decide +kernel) (by decide +kernel)
theorem wd_732 : Cond.code yX3_fieldKind cX3_fieldKind 5 ((some .int)) ∈ zv_U := zv_in (n := 732) (by decide +kernel) (by decide +kernel)
theorem wd_733 : Cond.methodLink RX3 157 yX7_has ∈ zv_U := zv_in (n := 733) (by decide +kernel) (by decide +kernel)
theorem wd_734 : Cond.methodLink RX3 169 yX7_kindOfField ∈ zv_U := zv_in (n := 734) (by decide +kernel) (by decide +kernel)
theorem wd_735 : Cond.instanceMethod yX7_kindOfField ∈ zv_U := zv_in (n := 735) (by decide +kernel) (by decide +kernel)
theorem wd_736 : Cond.selects RX7 yX7_kindOfField yX7_kindOfField ∈ zv_U := zv_in (n := 736) (by decide +kernel) (by decide +kernel)
theorem wd_737 : Cond.code yX7_kindOfField cX7_kindOfField 3 ((some .int)) ∈ zv_U := zv_in (n := 737) (by decide +kernel) (by decide +kernel)
theorem wd_738 : Cond.methodLink RX3 154 yX3_passCall ∈ zv_U := zv_in (n := 738) (by decide +kernel) (by decide +kernel)
theorem wd_740 : Cond.instanceMethod yX3_passCall ∈ zv_U := zv_in (n := 740) (by decide +kernel) (by decide +kernel)
theorem wd_741 : Cond.code yX3_passCall cX3_passCall 4 (none) ∈ zv_U := zv_in (n := 741) (by decide +kernel) (by decide +kernel)
theorem wd_742 : Cond.methodLink RX3 172 yJx4a65c_size_8abf5 ∈ zv_U := zv_in (n := 742) (by decide +kernel) (by decide +kernel)
theorem wd_743 : Cond.methodLink RX3 177 yJx4a65c_get_915e3 ∈ zv_U := zv_in (n := 743) (by decide +kernel) (by decide +kernel)
theorem wd_744 : Cond.instanceMethod yJx4a65c_get_915e3 ∈ zv_U := zv_in (n := 744) (by decide +kernel) (by decide +kernel)
theorem wd_745 : Cond.selects RJx4a65c yJx4a65c_get_915e3 yJx4a65c_get_915e3 ∈ zv_U := zv_in (n := 745) (by decide +kernel) (by decide +kernel)
theorem wd_746 : Cond.code yJx4a65c_get_915e3 cJx4a65c_get_915e3 2 ((some (.object "java/lang/Object"))) ∈ zv_U := zv_in (n := 746) (by decide +kernel) (by decide +kernel)
theorem wd_747 : Cond.methodLink RJx4a65c 118 yJ15_checkIndex_7cf53 ∈ zv_U := zv_in (n := 747) (by decide +kernel) (by decide +kernel)
theorem wd_748 : Cond.static yJ15_checkIndex_7cf53 ∈ zv_U := zv_in (n := 748) (by decide +kernel) (by decide +kernel)
theorem wd_749 : Cond.code yJ15_checkIndex_7cf53 cJ15_checkIndex_7cf53 2 ((some .int)) ∈ zv_U := zv_in (n := 749) (by decide +kernel) (by decide +kernel)
theorem wd_750 : Cond.methodLink RJ15 105 yJ3_checkIndex_8e157 ∈ zv_U := zv_in (n := 750) (by decide +kernel) (by decide +kernel)
theorem wd_751 : Cond.static yJ3_checkIndex_8e157 ∈ zv_U := zv_in (n := 751) (by decide +kernel) (by decide +kernel)
theorem wd_752 : Cond.code yJ3_checkIndex_8e157 cJ3_checkIndex_8e157 3 ((some .int)) ∈ zv_U := zv_in (n := 752) (by decide +kernel) (by decide +kernel)
theorem wd_753 : Cond.methodLink RJx4a65c 123 yJx4a65c_elementData_915e3 ∈ zv_U := zv_in (n := 753) (by decide +kernel) (by decide +kernel)
theorem wd_754 : Cond.instanceMethod yJx4a65c_elementData_915e3 ∈ zv_U := zv_in (n := 754) (by decide +kernel) (by decide +kernel)
theorem wd_755 : Cond.selects RJx4a65c yJx4a65c_elementData_915e3 yJx4a65c_elementData_915e3 ∈ zv_U := zv_in (n := 755) (by decide +kernel) (by decide +kernel)
theorem wd_756 : Cond.code yJx4a65c_elementData_915e3 cJx4a65c_elementData_915e3 2 ((some (.object "java/lang/Object"))) ∈ zv_U := zv_in (n := 756) (by decide +kernel) (by decide +kernel)
theorem wd_757 : Cond.classLink RX3 49 RX6 ∈ zv_U := zv_in (n := 757) (by decide +kernel) (by decide +kernel)
theorem wd_758 : Cond.methodLink RX3 184 yX6_kindOfArgument ∈ zv_U := zv_in (n := 758) (by decide +kernel) (by decide +kernel)
theorem wd_759 : Cond.instanceMethod yX6_kindOfArgument ∈ zv_U := zv_in (n := 759) (by decide +kernel) (by decide +kernel)
theorem wd_760 : Cond.selects RX6 yX6_kindOfArgument yX6_kindOfArgument ∈ zv_U := zv_in (n := 760) (by decide +kernel) (by decide +kernel)
theorem wd_761 : Cond.code yX6_kindOfArgument cX6_kindOfArgument 2 ((some .int)) ∈ zv_U := zv_in (n := 761) (by decide +kernel) (by decide +kernel)
theorem wd_762 : Cond.methodLink RX3 162 yX3_isSortOfNumbers ∈ zv_U := zv_in (n := 762) (by decide +kernel) (by decide +kernel)
theorem wd_763 : Cond.static yX3_isSortOfNumbers ∈ zv_U := zv_in (n := 763) (by decide +kernel) (by decide +kernel)
theorem wd_764 : Cond.code yX3_isSortOfNumbers cX3_isSortOfNumbers 1 ((some .boolean)) ∈ zv_U := zv_in (n := 764) (by decide +kernel) (by decide +kernel)
theorem wd_765 : Cond.methodLink RX3 105 yX5_jumps ∈ zv_U := zv_in (n := 765) (by decide +kernel) (by decide +kernel)
theorem wd_766 : Cond.static yX5_jumps ∈ zv_U := zv_in (n := 766) (by decide +kernel) (by decide +kernel)
theorem wd_767 : Cond.code yX5_jumps cX5_jumps 1 ((some .boolean)) ∈ zv_U := zv_in (n := 767) (by decide +kernel) (by decide +kernel)
theorem wd_768 : Cond.methodLink RX3 109 yX6_pairAt ∈ zv_U := zv_in (n := 768) (by decide +kernel) (by decide +kernel)
theorem wd_769 : Cond.instanceMethod yX6_pairAt ∈ zv_U := zv_in (n := 769) (by decide +kernel) (by decide +kernel)
theorem wd_770 : Cond.selects RX6 yX6_pairAt yX6_pairAt ∈ zv_U := zv_in (n := 770) (by decide +kernel) (by decide +kernel)
theorem wd_771 : Cond.code yX6_pairAt cX6_pairAt 2 ((some .int)) ∈ zv_U := zv_in (n := 771) (by decide +kernel) (by decide +kernel)
theorem wd_772 : Cond.methodLink RX3 112 yX5_goesOn ∈ zv_U := zv_in (n := 772) (by decide +kernel) (by decide +kernel)
theorem wd_773 : Cond.static yX5_goesOn ∈ zv_U := zv_in (n := 773) (by decide +kernel) (by decide +kernel)
theorem wd_774 : Cond.code yX5_goesOn cX5_goesOn 1 ((some .boolean)) ∈ zv_U := zv_in (n := 774) (by decide +kernel) (by decide +kernel)
theorem wd_775 : Cond.methodLink RX8 154 yJx4a65c_add_9ea2d ∈ zv_U := zv_in (n := 775) (by decide +kernel) (by decide +kernel)
theorem wd_776 : Cond.instanceMethod yJx4a65c_add_9ea2d ∈ zv_U := zv_in (n := 776) (by decide +kernel) (by decide +kernel)
theorem wd_777 : Cond.selects RJx4a65c yJx4a65c_add_9ea2d yJx4a65c_add_9ea2d ∈ zv_U := zv_in (n := 777) (by decide +kernel) (by decide +kernel)
theorem wd_778 : Cond.code yJx4a65c_add_9ea2d cJx4a65c_add_9ea2d 2 ((some .boolean)) ∈ zv_U := zv_in (n := 778) (by decide +kernel) (by decide +kernel)
theorem wd_779 : Cond.methodLink RJx4a65c 131 yJx4a65c_add_72be8 ∈ zv_U := zv_in (n := 779) (by decide +kernel) (by decide +kernel)
theorem wd_781 : Cond.instanceMethod yJx4a65c_add_72be8 ∈ zv_U := zv_in (n := 781) (by decide +kernel) (by decide +kernel)
theorem wd_782 : Cond.code yJx4a65c_add_72be8 cJx4a65c_add_72be8 4 (none) ∈ zv_U := zv_in (n := 782) (by decide +kernel) (by decide +kernel)
theorem wd_783 : Cond.methodLink RJx4a65c 129 yJx4a65c_grow_d5877 ∈ zv_U := zv_in (n := 783) (by decide +kernel) (by decide +kernel)
theorem wd_785 : Cond.instanceMethod yJx4a65c_grow_d5877 ∈ zv_U := zv_in (n := 785) (by decide +kernel) (by decide +kernel)
theorem wd_786 : Cond.code yJx4a65c_grow_d5877 cJx4a65c_grow_d5877 1 ((some (.array (.object "java/lang/Object")))) ∈ zv_U := zv_in (n := 786) (by decide +kernel) (by decide +kernel)
theorem wd_787 : Cond.methodLink RJx4a65c 69 yJx4a65c_grow_92f84 ∈ zv_U := zv_in (n := 787) (by decide +kernel) (by decide +kernel)
theorem wd_789 : Cond.instanceMethod yJx4a65c_grow_92f84 ∈ zv_U := zv_in (n := 789) (by decide +kernel) (by decide +kernel)
theorem wd_790 : Cond.code yJx4a65c_grow_92f84 cJx4a65c_grow_92f84 4 ((some (.array (.object "java/lang/Object")))) ∈ zv_U := zv_in (n := 790) (by decide +kernel) (by decide +kernel)
theorem wd_791 : Cond.methodLink RJx4a65c 73 yJ8_newLength_cabcc ∈ zv_U := zv_in (n := 791) (by decide +kernel) (by decide +kernel)
theorem wd_792 : Cond.static yJ8_newLength_cabcc ∈ zv_U := zv_in (n := 792) (by decide +kernel) (by decide +kernel)
theorem wd_793 : Cond.code yJ8_newLength_cabcc cJ8_newLength_cabcc 4 ((some .int)) ∈ zv_U := zv_in (n := 793) (by decide +kernel) (by decide +kernel)
theorem wd_794 : Cond.methodLink RJ8 194 yJ9_max_7cf53 ∈ zv_U := zv_in (n := 794) (by decide +kernel) (by decide +kernel)
theorem wd_795 : Cond.constant RJ8 200 (2147483639) ∈ zv_U := zv_in (n := 795) (by decide +kernel) (by decide +kernel)
theorem wd_796 : Cond.methodLink RJ8 201 yJ8_hugeLength_7cf53 ∈ zv_U := zv_in (n := 796) (by decide +kernel) (by decide +kernel)
theorem wd_797 : Cond.static yJ8_hugeLength_7cf53 ∈ zv_U := zv_in (n := 797) (by decide +kernel) (by decide +kernel)
theorem wd_798 : Cond.code yJ8_hugeLength_7cf53 cJ8_hugeLength_7cf53 3 ((some .int)) ∈ zv_U := zv_in (n := 798) (by decide +kernel) (by decide +kernel)
theorem wd_799 : Cond.methodLink RJx4a65c 66 yJ7_copyOf_1904c ∈ zv_U := zv_in (n := 799) (by decide +kernel) (by decide +kernel)
theorem wd_800 : Cond.static yJ7_copyOf_1904c ∈ zv_U := zv_in (n := 800) (by decide +kernel) (by decide +kernel)
theorem wd_801 : Cond.code yJ7_copyOf_1904c cJ7_copyOf_1904c 2 ((some (.array (.object "java/lang/Object")))) ∈ zv_U := zv_in (n := 801) (by decide +kernel) (by decide +kernel)
theorem wd_802 : Cond.methodLink RJ7 86 ⟨"java/lang/Object", "getClass", "()Ljava/lang/Class;"⟩ ∈ zv_U := zv_in (n := 802) (by decide +kernel) (by decide +kernel)
theorem wd_803 : Cond.instanceMethod ⟨"java/lang/Object", "getClass", "()Ljava/lang/Class;"⟩ ∈ zv_U := zv_in (n := 803) (by decide +kernel) (by decide +kernel)
theorem wd_821 : Cond.native ⟨"java/lang/Object", "getClass", "()Ljava/lang/Class;"⟩ ∈ zv_U := zv_in (n := 821) (by decide +kernel) (by decide +kernel)
theorem wd_822 : Cond.methodLink RJ7 300 yJ7_copyOf_6403c ∈ zv_U := zv_in (n := 822) (by decide +kernel) (by decide +kernel)
theorem wd_823 : Cond.static yJ7_copyOf_6403c ∈ zv_U := zv_in (n := 823) (by decide +kernel) (by decide +kernel)
theorem wd_824 : Cond.code yJ7_copyOf_6403c cJ7_copyOf_6403c 4 ((some (.array (.object "java/lang/Object")))) ∈ zv_U := zv_in (n := 824) (by decide +kernel) (by decide +kernel)
theorem wd_825 : Cond.classLink RJ7 110 "[Ljava/lang/Object;" ∈ zv_U := zv_in (n := 825) (by decide +kernel) (by decide +kernel)
theorem wd_827 : Cond.classLink RJ7 2 "java/lang/Object" ∈ zv_U := zv_in (n := 827) (by decide +kernel) (by decide +kernel)
theorem wd_828 : Cond.methodLink RJx4a65c 79 yJ9_max_7cf53 ∈ zv_U := zv_in (n := 828) (by decide +kernel) (by decide +kernel)
theorem wd_829 : Cond.classLink RJx4a65c 7 "java/lang/Object" ∈ zv_U := zv_in (n := 829) (by decide +kernel) (by decide +kernel)
theorem wd_839 : Cond.methodLink RX8 161 yJx4a65c_get_915e3 ∈ zv_U := zv_in (n := 839) (by decide +kernel) (by decide +kernel)
theorem wd_840 : Cond.methodLink RX8 165 yX4_perform ∈ zv_U := zv_in (n := 840) (by decide +kernel) (by decide +kernel)
theorem wd_841 : Cond.instanceMethod yX4_perform ∈ zv_U := zv_in (n := 841) (by decide +kernel) (by decide +kernel)
theorem wd_842 : Cond.selects RX4 yX4_perform yX4_perform ∈ zv_U := zv_in (n := 842) (by decide +kernel) (by decide +kernel)
theorem wd_843 : Cond.code yX4_perform cX4_perform 8 ((some .int)) ∈ zv_U := zv_in (n := 843) (by decide +kernel) (by decide +kernel)
theorem wd_844 : Cond.methodLink RX4 50 yX2_empty ∈ zv_U := zv_in (n := 844) (by decide +kernel) (by decide +kernel)
theorem wd_845 : Cond.instanceMethod yX2_empty ∈ zv_U := zv_in (n := 845) (by decide +kernel) (by decide +kernel)
theorem wd_846 : Cond.selects RX2 yX2_empty yX2_empty ∈ zv_U := zv_in (n := 846) (by decide +kernel) (by decide +kernel)
theorem wd_847 : Cond.code yX2_empty cX2_empty 1 (none) ∈ zv_U := zv_in (n := 847) (by decide +kernel) (by decide +kernel)
theorem wd_848 : Cond.methodLink RX4 69 yX4_beginFirst ∈ zv_U := zv_in (n := 848) (by decide +kernel) (by decide +kernel)
theorem wd_850 : Cond.instanceMethod yX4_beginFirst ∈ zv_U := zv_in (n := 850) (by decide +kernel) (by decide +kernel)
theorem wd_851 : Cond.code yX4_beginFirst cX4_beginFirst 14 (none) ∈ zv_U := zv_in (n := 851) (by decide +kernel) (by decide +kernel)
theorem wd_852 : Cond.methodLink RX4 84 yX1_begin ∈ zv_U := zv_in (n := 852) (by decide +kernel) (by decide +kernel)
theorem wd_853 : Cond.instanceMethod yX1_begin ∈ zv_U := zv_in (n := 853) (by decide +kernel) (by decide +kernel)
theorem wd_854 : Cond.selects RX1 yX1_begin yX1_begin ∈ zv_U := zv_in (n := 854) (by decide +kernel) (by decide +kernel)
theorem wd_855 : Cond.code yX1_begin cX1_begin 2 (none) ∈ zv_U := zv_in (n := 855) (by decide +kernel) (by decide +kernel)
theorem wd_856 : Cond.methodLink RX1 30 yJ7_fill_fda19 ∈ zv_U := zv_in (n := 856) (by decide +kernel) (by decide +kernel)
theorem wd_857 : Cond.static yJ7_fill_fda19 ∈ zv_U := zv_in (n := 857) (by decide +kernel) (by decide +kernel)
theorem wd_858 : Cond.code yJ7_fill_fda19 cJ7_fill_fda19 5 (none) ∈ zv_U := zv_in (n := 858) (by decide +kernel) (by decide +kernel)
theorem wd_859 : Cond.methodLink RJ7 13 yJ7_rangeCheck_23922 ∈ zv_U := zv_in (n := 859) (by decide +kernel) (by decide +kernel)
theorem wd_860 : Cond.static yJ7_rangeCheck_23922 ∈ zv_U := zv_in (n := 860) (by decide +kernel) (by decide +kernel)
theorem wd_861 : Cond.code yJ7_rangeCheck_23922 cJ7_rangeCheck_23922 3 (none) ∈ zv_U := zv_in (n := 861) (by decide +kernel) (by decide +kernel)
theorem wd_1099 : Cond.methodLink RX4 90 yX6_kindOfArgument ∈ zv_U := zv_in (n := 1099) (by decide +kernel) (by decide +kernel)
theorem wd_1100 : Cond.methodLink RX4 94 yX1_setNumber ∈ zv_U := zv_in (n := 1100) (by decide +kernel) (by decide +kernel)
theorem wd_1101 : Cond.instanceMethod yX1_setNumber ∈ zv_U := zv_in (n := 1101) (by decide +kernel) (by decide +kernel)
theorem wd_1102 : Cond.selects RX1 yX1_setNumber yX1_setNumber ∈ zv_U := zv_in (n := 1102) (by decide +kernel) (by decide +kernel)
theorem wd_1103 : Cond.code yX1_setNumber cX1_setNumber 4 (none) ∈ zv_U := zv_in (n := 1103) (by decide +kernel) (by decide +kernel)
theorem wd_1104 : Cond.methodLink RX4 73 yX4_step ∈ zv_U := zv_in (n := 1104) (by decide +kernel) (by decide +kernel)
theorem wd_1106 : Cond.instanceMethod yX4_step ∈ zv_U := zv_in (n := 1106) (by decide +kernel) (by decide +kernel)
theorem wd_1107 : Cond.code yX4_step cX4_step 2 ((some .int)) ∈ zv_U := zv_in (n := 1107) (by decide +kernel) (by decide +kernel)
theorem wd_1108 : Cond.methodLink RX4 98 yX1_opcode ∈ zv_U := zv_in (n := 1108) (by decide +kernel) (by decide +kernel)
theorem wd_1109 : Cond.instanceMethod yX1_opcode ∈ zv_U := zv_in (n := 1109) (by decide +kernel) (by decide +kernel)
theorem wd_1110 : Cond.selects RX1 yX1_opcode yX1_opcode ∈ zv_U := zv_in (n := 1110) (by decide +kernel) (by decide +kernel)
theorem wd_1111 : Cond.code yX1_opcode cX1_opcode 1 ((some .int)) ∈ zv_U := zv_in (n := 1111) (by decide +kernel) (by decide +kernel)
theorem wd_1112 : Cond.methodLink RX1 36 yX6_at ∈ zv_U := zv_in (n := 1112) (by decide +kernel) (by decide +kernel)
theorem wd_1113 : Cond.methodLink RX4 103 yX4_push ∈ zv_U := zv_in (n := 1113) (by decide +kernel) (by decide +kernel)
theorem wd_1115 : Cond.instanceMethod yX4_push ∈ zv_U := zv_in (n := 1115) (by decide +kernel) (by decide +kernel)
theorem wd_1116 : Cond.code yX4_push cX4_push 2 ((some .int)) ∈ zv_U := zv_in (n := 1116) (by decide +kernel) (by decide +kernel)
theorem wd_1117 : Cond.methodLink RX4 164 yX4_goOn ∈ zv_U := zv_in (n := 1117) (by decide +kernel) (by decide +kernel)
theorem wd_1119 : Cond.instanceMethod yX4_goOn ∈ zv_U := zv_in (n := 1119) (by decide +kernel) (by decide +kernel)
theorem wd_1120 : Cond.code yX4_goOn cX4_goOn 2 ((some .int)) ∈ zv_U := zv_in (n := 1120) (by decide +kernel) (by decide +kernel)
theorem wd_1121 : Cond.methodLink RX4 167 yX1_pushReference ∈ zv_U := zv_in (n := 1121) (by decide +kernel) (by decide +kernel)
theorem wd_1122 : Cond.instanceMethod yX1_pushReference ∈ zv_U := zv_in (n := 1122) (by decide +kernel) (by decide +kernel)
theorem wd_1123 : Cond.selects RX1 yX1_pushReference yX1_pushReference ∈ zv_U := zv_in (n := 1123) (by decide +kernel) (by decide +kernel)
theorem wd_1124 : Cond.code yX1_pushReference cX1_pushReference 2 (none) ∈ zv_U := zv_in (n := 1124) (by decide +kernel) (by decide +kernel)
theorem wd_1125 : Cond.methodLink RX4 170 yX1_pushNumber ∈ zv_U := zv_in (n := 1125) (by decide +kernel) (by decide +kernel)
theorem wd_1126 : Cond.instanceMethod yX1_pushNumber ∈ zv_U := zv_in (n := 1126) (by decide +kernel) (by decide +kernel)
theorem wd_1127 : Cond.selects RX1 yX1_pushNumber yX1_pushNumber ∈ zv_U := zv_in (n := 1127) (by decide +kernel) (by decide +kernel)
theorem wd_1128 : Cond.code yX1_pushNumber cX1_pushNumber 3 (none) ∈ zv_U := zv_in (n := 1128) (by decide +kernel) (by decide +kernel)
theorem wd_1129 : Cond.methodLink RX1 45 yX1_setNumber ∈ zv_U := zv_in (n := 1129) (by decide +kernel) (by decide +kernel)
theorem wd_1130 : Cond.methodLink RX4 142 yX1_operand ∈ zv_U := zv_in (n := 1130) (by decide +kernel) (by decide +kernel)
theorem wd_1131 : Cond.instanceMethod yX1_operand ∈ zv_U := zv_in (n := 1131) (by decide +kernel) (by decide +kernel)
theorem wd_1132 : Cond.selects RX1 yX1_operand yX1_operand ∈ zv_U := zv_in (n := 1132) (by decide +kernel) (by decide +kernel)
theorem wd_1133 : Cond.code yX1_operand cX1_operand 2 ((some .int)) ∈ zv_U := zv_in (n := 1133) (by decide +kernel) (by decide +kernel)
theorem wd_1134 : Cond.methodLink RX4 174 yX1_pair ∈ zv_U := zv_in (n := 1134) (by decide +kernel) (by decide +kernel)
theorem wd_1135 : Cond.instanceMethod yX1_pair ∈ zv_U := zv_in (n := 1135) (by decide +kernel) (by decide +kernel)
theorem wd_1136 : Cond.selects RX1 yX1_pair yX1_pair ∈ zv_U := zv_in (n := 1136) (by decide +kernel) (by decide +kernel)
theorem wd_1137 : Cond.code yX1_pair cX1_pair 1 ((some .int)) ∈ zv_U := zv_in (n := 1137) (by decide +kernel) (by decide +kernel)
theorem wd_1138 : Cond.methodLink RX1 42 yX6_pairAt ∈ zv_U := zv_in (n := 1138) (by decide +kernel) (by decide +kernel)
theorem wd_1139 : Cond.methodLink RX4 177 yX1_pushLocal ∈ zv_U := zv_in (n := 1139) (by decide +kernel) (by decide +kernel)
theorem wd_1140 : Cond.instanceMethod yX1_pushLocal ∈ zv_U := zv_in (n := 1140) (by decide +kernel) (by decide +kernel)
theorem wd_1141 : Cond.selects RX1 yX1_pushLocal yX1_pushLocal ∈ zv_U := zv_in (n := 1141) (by decide +kernel) (by decide +kernel)
theorem wd_1142 : Cond.code yX1_pushLocal cX1_pushLocal 2 (none) ∈ zv_U := zv_in (n := 1142) (by decide +kernel) (by decide +kernel)
theorem wd_1143 : Cond.methodLink RX1 49 yX1_copySlot ∈ zv_U := zv_in (n := 1143) (by decide +kernel) (by decide +kernel)
theorem wd_1145 : Cond.instanceMethod yX1_copySlot ∈ zv_U := zv_in (n := 1145) (by decide +kernel) (by decide +kernel)
theorem wd_1146 : Cond.code yX1_copySlot cX1_copySlot 4 (none) ∈ zv_U := zv_in (n := 1146) (by decide +kernel) (by decide +kernel)
theorem wd_1147 : Cond.methodLink RX4 106 yX4_loadElement ∈ zv_U := zv_in (n := 1147) (by decide +kernel) (by decide +kernel)
theorem wd_1149 : Cond.instanceMethod yX4_loadElement ∈ zv_U := zv_in (n := 1149) (by decide +kernel) (by decide +kernel)
theorem wd_1150 : Cond.code yX4_loadElement cX4_loadElement 7 ((some .int)) ∈ zv_U := zv_in (n := 1150) (by decide +kernel) (by decide +kernel)
theorem wd_1151 : Cond.methodLink RX4 183 yX1_reference ∈ zv_U := zv_in (n := 1151) (by decide +kernel) (by decide +kernel)
theorem wd_1152 : Cond.instanceMethod yX1_reference ∈ zv_U := zv_in (n := 1152) (by decide +kernel) (by decide +kernel)
theorem wd_1153 : Cond.selects RX1 yX1_reference yX1_reference ∈ zv_U := zv_in (n := 1153) (by decide +kernel) (by decide +kernel)
theorem wd_1154 : Cond.code yX1_reference cX1_reference 2 ((some .int)) ∈ zv_U := zv_in (n := 1154) (by decide +kernel) (by decide +kernel)
theorem wd_1155 : Cond.methodLink RX4 186 yX1_number ∈ zv_U := zv_in (n := 1155) (by decide +kernel) (by decide +kernel)
theorem wd_1156 : Cond.instanceMethod yX1_number ∈ zv_U := zv_in (n := 1156) (by decide +kernel) (by decide +kernel)
theorem wd_1157 : Cond.selects RX1 yX1_number yX1_number ∈ zv_U := zv_in (n := 1157) (by decide +kernel) (by decide +kernel)
theorem wd_1158 : Cond.code yX1_number cX1_number 2 ((some .long)) ∈ zv_U := zv_in (n := 1158) (by decide +kernel) (by decide +kernel)
theorem wd_1159 : Cond.methodLink RX4 190 yX4_faultOfElement ∈ zv_U := zv_in (n := 1159) (by decide +kernel) (by decide +kernel)
theorem wd_1161 : Cond.instanceMethod yX4_faultOfElement ∈ zv_U := zv_in (n := 1161) (by decide +kernel) (by decide +kernel)
theorem wd_1162 : Cond.code yX4_faultOfElement cX4_faultOfElement 4 ((some .int)) ∈ zv_U := zv_in (n := 1162) (by decide +kernel) (by decide +kernel)
theorem wd_1163 : Cond.methodLink RX4 205 yX2_tag ∈ zv_U := zv_in (n := 1163) (by decide +kernel) (by decide +kernel)
theorem wd_1164 : Cond.instanceMethod yX2_tag ∈ zv_U := zv_in (n := 1164) (by decide +kernel) (by decide +kernel)
theorem wd_1165 : Cond.selects RX2 yX2_tag yX2_tag ∈ zv_U := zv_in (n := 1165) (by decide +kernel) (by decide +kernel)
theorem wd_1166 : Cond.code yX2_tag cX2_tag 2 ((some .int)) ∈ zv_U := zv_in (n := 1166) (by decide +kernel) (by decide +kernel)
theorem wd_1167 : Cond.methodLink RX4 208 yX4_isForSort ∈ zv_U := zv_in (n := 1167) (by decide +kernel) (by decide +kernel)
theorem wd_1168 : Cond.static yX4_isForSort ∈ zv_U := zv_in (n := 1168) (by decide +kernel) (by decide +kernel)
theorem wd_1169 : Cond.code yX4_isForSort cX4_isForSort 2 ((some .boolean)) ∈ zv_U := zv_in (n := 1169) (by decide +kernel) (by decide +kernel)
theorem wd_1170 : Cond.methodLink RX4 212 yX2_length ∈ zv_U := zv_in (n := 1170) (by decide +kernel) (by decide +kernel)
theorem wd_1171 : Cond.instanceMethod yX2_length ∈ zv_U := zv_in (n := 1171) (by decide +kernel) (by decide +kernel)
theorem wd_1172 : Cond.selects RX2 yX2_length yX2_length ∈ zv_U := zv_in (n := 1172) (by decide +kernel) (by decide +kernel)
theorem wd_1173 : Cond.code yX2_length cX2_length 2 ((some .int)) ∈ zv_U := zv_in (n := 1173) (by decide +kernel) (by decide +kernel)
theorem wd_1174 : Cond.methodLink RX4 194 yX2_element ∈ zv_U := zv_in (n := 1174) (by decide +kernel) (by decide +kernel)
theorem wd_1175 : Cond.instanceMethod yX2_element ∈ zv_U := zv_in (n := 1175) (by decide +kernel) (by decide +kernel)
theorem wd_1176 : Cond.selects RX2 yX2_element yX2_element ∈ zv_U := zv_in (n := 1176) (by decide +kernel) (by decide +kernel)
theorem wd_1177 : Cond.code yX2_element cX2_element 4 ((some .long)) ∈ zv_U := zv_in (n := 1177) (by decide +kernel) (by decide +kernel)
theorem wd_1178 : Cond.methodLink RX2 62 yX2_tag ∈ zv_U := zv_in (n := 1178) (by decide +kernel) (by decide +kernel)
theorem wd_1179 : Cond.constantLong RX2 95 (4294967295) ∈ zv_U := zv_in (n := 1179) (by decide +kernel) (by decide +kernel)
theorem wd_1180 : Cond.methodLink RX4 198 yX1_drop ∈ zv_U := zv_in (n := 1180) (by decide +kernel) (by decide +kernel)
theorem wd_1181 : Cond.instanceMethod yX1_drop ∈ zv_U := zv_in (n := 1181) (by decide +kernel) (by decide +kernel)
theorem wd_1182 : Cond.selects RX1 yX1_drop yX1_drop ∈ zv_U := zv_in (n := 1182) (by decide +kernel) (by decide +kernel)
theorem wd_1183 : Cond.code yX1_drop cX1_drop 2 (none) ∈ zv_U := zv_in (n := 1183) (by decide +kernel) (by decide +kernel)
theorem wd_1184 : Cond.methodLink RX4 109 yX4_storeLocal ∈ zv_U := zv_in (n := 1184) (by decide +kernel) (by decide +kernel)
theorem wd_1186 : Cond.instanceMethod yX4_storeLocal ∈ zv_U := zv_in (n := 1186) (by decide +kernel) (by decide +kernel)
theorem wd_1187 : Cond.code yX4_storeLocal cX4_storeLocal 1 ((some .int)) ∈ zv_U := zv_in (n := 1187) (by decide +kernel) (by decide +kernel)
theorem wd_1188 : Cond.methodLink RX4 180 yX1_popLocal ∈ zv_U := zv_in (n := 1188) (by decide +kernel) (by decide +kernel)
theorem wd_1189 : Cond.instanceMethod yX1_popLocal ∈ zv_U := zv_in (n := 1189) (by decide +kernel) (by decide +kernel)
theorem wd_1190 : Cond.selects RX1 yX1_popLocal yX1_popLocal ∈ zv_U := zv_in (n := 1190) (by decide +kernel) (by decide +kernel)
theorem wd_1191 : Cond.code yX1_popLocal cX1_popLocal 2 (none) ∈ zv_U := zv_in (n := 1191) (by decide +kernel) (by decide +kernel)
theorem wd_1192 : Cond.methodLink RX4 112 yX4_storeElement ∈ zv_U := zv_in (n := 1192) (by decide +kernel) (by decide +kernel)
theorem wd_1194 : Cond.instanceMethod yX4_storeElement ∈ zv_U := zv_in (n := 1194) (by decide +kernel) (by decide +kernel)
theorem wd_1195 : Cond.code yX4_storeElement cX4_storeElement 5 ((some .int)) ∈ zv_U := zv_in (n := 1195) (by decide +kernel) (by decide +kernel)
theorem wd_1196 : Cond.methodLink RX4 201 yX2_setElement ∈ zv_U := zv_in (n := 1196) (by decide +kernel) (by decide +kernel)
theorem wd_1197 : Cond.instanceMethod yX2_setElement ∈ zv_U := zv_in (n := 1197) (by decide +kernel) (by decide +kernel)
theorem wd_1198 : Cond.selects RX2 yX2_setElement yX2_setElement ∈ zv_U := zv_in (n := 1198) (by decide +kernel) (by decide +kernel)
theorem wd_1199 : Cond.code yX2_setElement cX2_setElement 6 (none) ∈ zv_U := zv_in (n := 1199) (by decide +kernel) (by decide +kernel)
theorem wd_1200 : Cond.methodLink RX2 97 yX2_setBits ∈ zv_U := zv_in (n := 1200) (by decide +kernel) (by decide +kernel)
theorem wd_1202 : Cond.instanceMethod yX2_setBits ∈ zv_U := zv_in (n := 1202) (by decide +kernel) (by decide +kernel)
theorem wd_1203 : Cond.code yX2_setBits cX2_setBits 5 (none) ∈ zv_U := zv_in (n := 1203) (by decide +kernel) (by decide +kernel)
theorem wd_1204 : Cond.constant RX2 101 (65535) ∈ zv_U := zv_in (n := 1204) (by decide +kernel) (by decide +kernel)
theorem wd_1205 : Cond.methodLink RX4 115 yX4_shuffle ∈ zv_U := zv_in (n := 1205) (by decide +kernel) (by decide +kernel)
theorem wd_1207 : Cond.instanceMethod yX4_shuffle ∈ zv_U := zv_in (n := 1207) (by decide +kernel) (by decide +kernel)
theorem wd_1208 : Cond.code yX4_shuffle cX4_shuffle 2 ((some .int)) ∈ zv_U := zv_in (n := 1208) (by decide +kernel) (by decide +kernel)
theorem wd_1209 : Cond.methodLink RX4 215 yX1_duplicate ∈ zv_U := zv_in (n := 1209) (by decide +kernel) (by decide +kernel)
theorem wd_1210 : Cond.instanceMethod yX1_duplicate ∈ zv_U := zv_in (n := 1210) (by decide +kernel) (by decide +kernel)
theorem wd_1211 : Cond.selects RX1 yX1_duplicate yX1_duplicate ∈ zv_U := zv_in (n := 1211) (by decide +kernel) (by decide +kernel)
theorem wd_1212 : Cond.code yX1_duplicate cX1_duplicate 1 (none) ∈ zv_U := zv_in (n := 1212) (by decide +kernel) (by decide +kernel)
theorem wd_1213 : Cond.methodLink RX4 218 yX1_exchange ∈ zv_U := zv_in (n := 1213) (by decide +kernel) (by decide +kernel)
theorem wd_1214 : Cond.instanceMethod yX1_exchange ∈ zv_U := zv_in (n := 1214) (by decide +kernel) (by decide +kernel)
theorem wd_1215 : Cond.selects RX1 yX1_exchange yX1_exchange ∈ zv_U := zv_in (n := 1215) (by decide +kernel) (by decide +kernel)
theorem wd_1216 : Cond.code yX1_exchange cX1_exchange 4 (none) ∈ zv_U := zv_in (n := 1216) (by decide +kernel) (by decide +kernel)
theorem wd_1217 : Cond.methodLink RX4 118 yX4_reckon ∈ zv_U := zv_in (n := 1217) (by decide +kernel) (by decide +kernel)
theorem wd_1219 : Cond.instanceMethod yX4_reckon ∈ zv_U := zv_in (n := 1219) (by decide +kernel) (by decide +kernel)
theorem wd_1220 : Cond.code yX4_reckon cX4_reckon 11 ((some .int)) ∈ zv_U := zv_in (n := 1220) (by decide +kernel) (by decide +kernel)
theorem wd_1221 : Cond.methodLink RX4 221 yX4_moved ∈ zv_U := zv_in (n := 1221) (by decide +kernel) (by decide +kernel)
theorem wd_1222 : Cond.static yX4_moved ∈ zv_U := zv_in (n := 1222) (by decide +kernel) (by decide +kernel)
theorem wd_1223 : Cond.code yX4_moved cX4_moved 7 ((some .long)) ∈ zv_U := zv_in (n := 1223) (by decide +kernel) (by decide +kernel)
theorem wd_1224 : Cond.constantLong RX4 229 (4294967295) ∈ zv_U := zv_in (n := 1224) (by decide +kernel) (by decide +kernel)
theorem wd_1225 : Cond.methodLink RX4 225 yX4_combined ∈ zv_U := zv_in (n := 1225) (by decide +kernel) (by decide +kernel)
theorem wd_1226 : Cond.static yX4_combined ∈ zv_U := zv_in (n := 1226) (by decide +kernel) (by decide +kernel)
theorem wd_1227 : Cond.code yX4_combined cX4_combined 5 ((some .long)) ∈ zv_U := zv_in (n := 1227) (by decide +kernel) (by decide +kernel)
theorem wd_1228 : Cond.methodLink RX4 121 yX4_convert ∈ zv_U := zv_in (n := 1228) (by decide +kernel) (by decide +kernel)
theorem wd_1230 : Cond.instanceMethod yX4_convert ∈ zv_U := zv_in (n := 1230) (by decide +kernel) (by decide +kernel)
theorem wd_1231 : Cond.code yX4_convert cX4_convert 5 ((some .int)) ∈ zv_U := zv_in (n := 1231) (by decide +kernel) (by decide +kernel)
theorem wd_1232 : Cond.methodLink RX4 231 yX1_increase ∈ zv_U := zv_in (n := 1232) (by decide +kernel) (by decide +kernel)
theorem wd_1233 : Cond.instanceMethod yX1_increase ∈ zv_U := zv_in (n := 1233) (by decide +kernel) (by decide +kernel)
theorem wd_1234 : Cond.selects RX1 yX1_increase yX1_increase ∈ zv_U := zv_in (n := 1234) (by decide +kernel) (by decide +kernel)
theorem wd_1235 : Cond.code yX1_increase cX1_increase 3 (none) ∈ zv_U := zv_in (n := 1235) (by decide +kernel) (by decide +kernel)
theorem wd_1236 : Cond.methodLink RX4 235 yJ13_compare_74951 ∈ zv_U := zv_in (n := 1236) (by decide +kernel) (by decide +kernel)
theorem wd_1237 : Cond.static yJ13_compare_74951 ∈ zv_U := zv_in (n := 1237) (by decide +kernel) (by decide +kernel)
theorem wd_1238 : Cond.code yJ13_compare_74951 cJ13_compare_74951 4 ((some .int)) ∈ zv_U := zv_in (n := 1238) (by decide +kernel) (by decide +kernel)
theorem wd_1239 : Cond.methodLink RX4 241 yX4_converted ∈ zv_U := zv_in (n := 1239) (by decide +kernel) (by decide +kernel)
theorem wd_1240 : Cond.static yX4_converted ∈ zv_U := zv_in (n := 1240) (by decide +kernel) (by decide +kernel)
theorem wd_1241 : Cond.code yX4_converted cX4_converted 3 ((some .long)) ∈ zv_U := zv_in (n := 1241) (by decide +kernel) (by decide +kernel)
theorem wd_1242 : Cond.methodLink RX4 124 yX4_branch ∈ zv_U := zv_in (n := 1242) (by decide +kernel) (by decide +kernel)
theorem wd_1244 : Cond.instanceMethod yX4_branch ∈ zv_U := zv_in (n := 1244) (by decide +kernel) (by decide +kernel)
theorem wd_1245 : Cond.code yX4_branch cX4_branch 4 ((some .int)) ∈ zv_U := zv_in (n := 1245) (by decide +kernel) (by decide +kernel)
theorem wd_1246 : Cond.methodLink RX4 245 yX4_holds ∈ zv_U := zv_in (n := 1246) (by decide +kernel) (by decide +kernel)
theorem wd_1247 : Cond.static yX4_holds ∈ zv_U := zv_in (n := 1247) (by decide +kernel) (by decide +kernel)
theorem wd_1248 : Cond.code yX4_holds cX4_holds 5 ((some .boolean)) ∈ zv_U := zv_in (n := 1248) (by decide +kernel) (by decide +kernel)
theorem wd_1249 : Cond.methodLink RX4 127 yX4_leave ∈ zv_U := zv_in (n := 1249) (by decide +kernel) (by decide +kernel)
theorem wd_1251 : Cond.instanceMethod yX4_leave ∈ zv_U := zv_in (n := 1251) (by decide +kernel) (by decide +kernel)
theorem wd_1252 : Cond.code yX4_leave cX4_leave 3 ((some .int)) ∈ zv_U := zv_in (n := 1252) (by decide +kernel) (by decide +kernel)
theorem wd_1253 : Cond.methodLink RX4 130 yX4_readField ∈ zv_U := zv_in (n := 1253) (by decide +kernel) (by decide +kernel)
theorem wd_1255 : Cond.instanceMethod yX4_readField ∈ zv_U := zv_in (n := 1255) (by decide +kernel) (by decide +kernel)
theorem wd_1256 : Cond.code yX4_readField cX4_readField 6 ((some .int)) ∈ zv_U := zv_in (n := 1256) (by decide +kernel) (by decide +kernel)
theorem wd_1257 : Cond.methodLink RX4 259 yX4_faultOfObject ∈ zv_U := zv_in (n := 1257) (by decide +kernel) (by decide +kernel)
theorem wd_1259 : Cond.instanceMethod yX4_faultOfObject ∈ zv_U := zv_in (n := 1259) (by decide +kernel) (by decide +kernel)
theorem wd_1260 : Cond.code yX4_faultOfObject cX4_faultOfObject 3 ((some .int)) ∈ zv_U := zv_in (n := 1260) (by decide +kernel) (by decide +kernel)
theorem wd_1261 : Cond.methodLink RX4 274 yX4_isOf ∈ zv_U := zv_in (n := 1261) (by decide +kernel) (by decide +kernel)
theorem wd_1263 : Cond.instanceMethod yX4_isOf ∈ zv_U := zv_in (n := 1263) (by decide +kernel) (by decide +kernel)
theorem wd_1264 : Cond.code yX4_isOf cX4_isOf 3 ((some .boolean)) ∈ zv_U := zv_in (n := 1264) (by decide +kernel) (by decide +kernel)
theorem wd_1265 : Cond.methodLink RX4 277 yX2_classes ∈ zv_U := zv_in (n := 1265) (by decide +kernel) (by decide +kernel)
theorem wd_1266 : Cond.instanceMethod yX2_classes ∈ zv_U := zv_in (n := 1266) (by decide +kernel) (by decide +kernel)
theorem wd_1267 : Cond.selects RX2 yX2_classes yX2_classes ∈ zv_U := zv_in (n := 1267) (by decide +kernel) (by decide +kernel)
theorem wd_1268 : Cond.code yX2_classes cX2_classes 2 ((some .int)) ∈ zv_U := zv_in (n := 1268) (by decide +kernel) (by decide +kernel)
theorem wd_1269 : Cond.methodLink RX2 88 yX2_isArray ∈ zv_U := zv_in (n := 1269) (by decide +kernel) (by decide +kernel)
theorem wd_1270 : Cond.instanceMethod yX2_isArray ∈ zv_U := zv_in (n := 1270) (by decide +kernel) (by decide +kernel)
theorem wd_1271 : Cond.selects RX2 yX2_isArray yX2_isArray ∈ zv_U := zv_in (n := 1271) (by decide +kernel) (by decide +kernel)
theorem wd_1272 : Cond.code yX2_isArray cX2_isArray 2 ((some .boolean)) ∈ zv_U := zv_in (n := 1272) (by decide +kernel) (by decide +kernel)
theorem wd_1273 : Cond.methodLink RX4 262 yX2_field ∈ zv_U := zv_in (n := 1273) (by decide +kernel) (by decide +kernel)
theorem wd_1274 : Cond.instanceMethod yX2_field ∈ zv_U := zv_in (n := 1274) (by decide +kernel) (by decide +kernel)
theorem wd_1275 : Cond.selects RX2 yX2_field yX2_field ∈ zv_U := zv_in (n := 1275) (by decide +kernel) (by decide +kernel)
theorem wd_1276 : Cond.code yX2_field cX2_field 3 ((some .int)) ∈ zv_U := zv_in (n := 1276) (by decide +kernel) (by decide +kernel)
theorem wd_1277 : Cond.methodLink RX4 265 yX7_kindOfField ∈ zv_U := zv_in (n := 1277) (by decide +kernel) (by decide +kernel)
theorem wd_1278 : Cond.methodLink RX4 133 yX4_writeField ∈ zv_U := zv_in (n := 1278) (by decide +kernel) (by decide +kernel)
theorem wd_1280 : Cond.instanceMethod yX4_writeField ∈ zv_U := zv_in (n := 1280) (by decide +kernel) (by decide +kernel)
theorem wd_1281 : Cond.code yX4_writeField cX4_writeField 6 ((some .int)) ∈ zv_U := zv_in (n := 1281) (by decide +kernel) (by decide +kernel)
theorem wd_1282 : Cond.methodLink RX4 270 yX2_setField ∈ zv_U := zv_in (n := 1282) (by decide +kernel) (by decide +kernel)
theorem wd_1283 : Cond.instanceMethod yX2_setField ∈ zv_U := zv_in (n := 1283) (by decide +kernel) (by decide +kernel)
theorem wd_1284 : Cond.selects RX2 yX2_setField yX2_setField ∈ zv_U := zv_in (n := 1284) (by decide +kernel) (by decide +kernel)
theorem wd_1285 : Cond.code yX2_setField cX2_setField 4 (none) ∈ zv_U := zv_in (n := 1285) (by decide +kernel) (by decide +kernel)
theorem wd_1286 : Cond.methodLink RX4 136 yX4_call ∈ zv_U := zv_in (n := 1286) (by decide +kernel) (by decide +kernel)
theorem wd_1288 : Cond.instanceMethod yX4_call ∈ zv_U := zv_in (n := 1288) (by decide +kernel) (by decide +kernel)
theorem wd_1289 : Cond.code yX4_call cX4_call 3 ((some .int)) ∈ zv_U := zv_in (n := 1289) (by decide +kernel) (by decide +kernel)
theorem wd_1290 : Cond.methodLink RX4 249 yJx4a65c_get_915e3 ∈ zv_U := zv_in (n := 1290) (by decide +kernel) (by decide +kernel)
theorem wd_1291 : Cond.methodLink RX4 255 yX1_takeArguments ∈ zv_U := zv_in (n := 1291) (by decide +kernel) (by decide +kernel)
theorem wd_1292 : Cond.instanceMethod yX1_takeArguments ∈ zv_U := zv_in (n := 1292) (by decide +kernel) (by decide +kernel)
theorem wd_1293 : Cond.selects RX1 yX1_takeArguments yX1_takeArguments ∈ zv_U := zv_in (n := 1293) (by decide +kernel) (by decide +kernel)
theorem wd_1294 : Cond.code yX1_takeArguments cX1_takeArguments 4 (none) ∈ zv_U := zv_in (n := 1294) (by decide +kernel) (by decide +kernel)
theorem wd_1295 : Cond.methodLink RX1 56 yX1_drop ∈ zv_U := zv_in (n := 1295) (by decide +kernel) (by decide +kernel)
theorem wd_1296 : Cond.methodLink RX4 139 yX4_makeObject ∈ zv_U := zv_in (n := 1296) (by decide +kernel) (by decide +kernel)
theorem wd_1298 : Cond.instanceMethod yX4_makeObject ∈ zv_U := zv_in (n := 1298) (by decide +kernel) (by decide +kernel)
theorem wd_1299 : Cond.code yX4_makeObject cX4_makeObject 3 ((some .int)) ∈ zv_U := zv_in (n := 1299) (by decide +kernel) (by decide +kernel)
theorem wd_1300 : Cond.methodLink RX4 280 yX2_wordsOfObject ∈ zv_U := zv_in (n := 1300) (by decide +kernel) (by decide +kernel)
theorem wd_1301 : Cond.instanceMethod yX2_wordsOfObject ∈ zv_U := zv_in (n := 1301) (by decide +kernel) (by decide +kernel)
theorem wd_1302 : Cond.selects RX2 yX2_wordsOfObject yX2_wordsOfObject ∈ zv_U := zv_in (n := 1302) (by decide +kernel) (by decide +kernel)
theorem wd_1303 : Cond.code yX2_wordsOfObject cX2_wordsOfObject 2 ((some .int)) ∈ zv_U := zv_in (n := 1303) (by decide +kernel) (by decide +kernel)
theorem wd_1304 : Cond.methodLink RX4 283 yX4_make ∈ zv_U := zv_in (n := 1304) (by decide +kernel) (by decide +kernel)
theorem wd_1306 : Cond.instanceMethod yX4_make ∈ zv_U := zv_in (n := 1306) (by decide +kernel) (by decide +kernel)
theorem wd_1307 : Cond.code yX4_make cX4_make 7 ((some .int)) ∈ zv_U := zv_in (n := 1307) (by decide +kernel) (by decide +kernel)
theorem wd_1308 : Cond.methodLink RX4 290 yX2_beginSearch ∈ zv_U := zv_in (n := 1308) (by decide +kernel) (by decide +kernel)
theorem wd_1309 : Cond.instanceMethod yX2_beginSearch ∈ zv_U := zv_in (n := 1309) (by decide +kernel) (by decide +kernel)
theorem wd_1310 : Cond.selects RX2 yX2_beginSearch yX2_beginSearch ∈ zv_U := zv_in (n := 1310) (by decide +kernel) (by decide +kernel)
theorem wd_1311 : Cond.code yX2_beginSearch cX2_beginSearch 1 (none) ∈ zv_U := zv_in (n := 1311) (by decide +kernel) (by decide +kernel)
theorem wd_1312 : Cond.methodLink RX4 293 yX1_showReferences ∈ zv_U := zv_in (n := 1312) (by decide +kernel) (by decide +kernel)
theorem wd_1313 : Cond.instanceMethod yX1_showReferences ∈ zv_U := zv_in (n := 1313) (by decide +kernel) (by decide +kernel)
theorem wd_1314 : Cond.selects RX1 yX1_showReferences yX1_showReferences ∈ zv_U := zv_in (n := 1314) (by decide +kernel) (by decide +kernel)
theorem wd_1315 : Cond.code yX1_showReferences cX1_showReferences 3 (none) ∈ zv_U := zv_in (n := 1315) (by decide +kernel) (by decide +kernel)
theorem wd_1316 : Cond.methodLink RX1 63 yX2_reach ∈ zv_U := zv_in (n := 1316) (by decide +kernel) (by decide +kernel)
theorem wd_1317 : Cond.instanceMethod yX2_reach ∈ zv_U := zv_in (n := 1317) (by decide +kernel) (by decide +kernel)
theorem wd_1318 : Cond.selects RX2 yX2_reach yX2_reach ∈ zv_U := zv_in (n := 1318) (by decide +kernel) (by decide +kernel)
theorem wd_1319 : Cond.code yX2_reach cX2_reach 2 (none) ∈ zv_U := zv_in (n := 1319) (by decide +kernel) (by decide +kernel)
theorem wd_1320 : Cond.methodLink RX4 297 yX2_reachedWords ∈ zv_U := zv_in (n := 1320) (by decide +kernel) (by decide +kernel)
theorem wd_1321 : Cond.instanceMethod yX2_reachedWords ∈ zv_U := zv_in (n := 1321) (by decide +kernel) (by decide +kernel)
theorem wd_1322 : Cond.selects RX2 yX2_reachedWords yX2_reachedWords ∈ zv_U := zv_in (n := 1322) (by decide +kernel) (by decide +kernel)
theorem wd_1323 : Cond.code yX2_reachedWords cX2_reachedWords 3 ((some .int)) ∈ zv_U := zv_in (n := 1323) (by decide +kernel) (by decide +kernel)
theorem wd_1324 : Cond.methodLink RX2 58 yX2_reachWhatHas ∈ zv_U := zv_in (n := 1324) (by decide +kernel) (by decide +kernel)
theorem wd_1326 : Cond.instanceMethod yX2_reachWhatHas ∈ zv_U := zv_in (n := 1326) (by decide +kernel) (by decide +kernel)
theorem wd_1327 : Cond.code yX2_reachWhatHas cX2_reachWhatHas 6 (none) ∈ zv_U := zv_in (n := 1327) (by decide +kernel) (by decide +kernel)
theorem wd_1328 : Cond.methodLink RX2 66 yX7_kindOfField ∈ zv_U := zv_in (n := 1328) (by decide +kernel) (by decide +kernel)
theorem wd_1329 : Cond.methodLink RX2 70 yX2_reach ∈ zv_U := zv_in (n := 1329) (by decide +kernel) (by decide +kernel)
theorem wd_1330 : Cond.methodLink RX4 300 yJ9_max_7cf53 ∈ zv_U := zv_in (n := 1330) (by decide +kernel) (by decide +kernel)
theorem wd_1331 : Cond.methodLink RX4 305 yX2_add ∈ zv_U := zv_in (n := 1331) (by decide +kernel) (by decide +kernel)
theorem wd_1332 : Cond.instanceMethod yX2_add ∈ zv_U := zv_in (n := 1332) (by decide +kernel) (by decide +kernel)
theorem wd_1333 : Cond.selects RX2 yX2_add yX2_add ∈ zv_U := zv_in (n := 1333) (by decide +kernel) (by decide +kernel)
theorem wd_1334 : Cond.code yX2_add cX2_add 5 ((some .int)) ∈ zv_U := zv_in (n := 1334) (by decide +kernel) (by decide +kernel)
theorem wd_1335 : Cond.methodLink RX2 73 yX2_sweep ∈ zv_U := zv_in (n := 1335) (by decide +kernel) (by decide +kernel)
theorem wd_1337 : Cond.instanceMethod yX2_sweep ∈ zv_U := zv_in (n := 1337) (by decide +kernel) (by decide +kernel)
theorem wd_1338 : Cond.code yX2_sweep cX2_sweep 5 (none) ∈ zv_U := zv_in (n := 1338) (by decide +kernel) (by decide +kernel)
theorem wd_1339 : Cond.methodLink RX2 82 ⟨"java/lang/System", "arraycopy", "(Ljava/lang/Object;ILjava/lang/Object;II)V"⟩ ∈ zv_U := zv_in (n := 1339) (by decide +kernel) (by decide +kernel)
theorem wd_1340 : Cond.methodLink RX2 76 yJ7_fill_fda19 ∈ zv_U := zv_in (n := 1340) (by decide +kernel) (by decide +kernel)
theorem wd_1341 : Cond.methodLink RX4 145 yX4_makeArray ∈ zv_U := zv_in (n := 1341) (by decide +kernel) (by decide +kernel)
theorem wd_1343 : Cond.instanceMethod yX4_makeArray ∈ zv_U := zv_in (n := 1343) (by decide +kernel) (by decide +kernel)
theorem wd_1344 : Cond.code yX4_makeArray cX4_makeArray 5 ((some .int)) ∈ zv_U := zv_in (n := 1344) (by decide +kernel) (by decide +kernel)
theorem wd_1345 : Cond.methodLink RX4 287 yX2_wordsOfArray ∈ zv_U := zv_in (n := 1345) (by decide +kernel) (by decide +kernel)
theorem wd_1346 : Cond.static yX2_wordsOfArray ∈ zv_U := zv_in (n := 1346) (by decide +kernel) (by decide +kernel)
theorem wd_1347 : Cond.code yX2_wordsOfArray cX2_wordsOfArray 3 ((some .long)) ∈ zv_U := zv_in (n := 1347) (by decide +kernel) (by decide +kernel)
theorem wd_1348 : Cond.constantLong RX2 34 (2) ∈ zv_U := zv_in (n := 1348) (by decide +kernel) (by decide +kernel)
theorem wd_1349 : Cond.constantLong RX2 36 (3) ∈ zv_U := zv_in (n := 1349) (by decide +kernel) (by decide +kernel)
theorem wd_1350 : Cond.constantLong RX2 38 (4) ∈ zv_U := zv_in (n := 1350) (by decide +kernel) (by decide +kernel)
theorem wd_1351 : Cond.methodLink RX4 149 yX4_tellLength ∈ zv_U := zv_in (n := 1351) (by decide +kernel) (by decide +kernel)
theorem wd_1353 : Cond.instanceMethod yX4_tellLength ∈ zv_U := zv_in (n := 1353) (by decide +kernel) (by decide +kernel)
theorem wd_1354 : Cond.code yX4_tellLength cX4_tellLength 2 ((some .int)) ∈ zv_U := zv_in (n := 1354) (by decide +kernel) (by decide +kernel)
theorem wd_1355 : Cond.methodLink RX4 308 yX2_isArray ∈ zv_U := zv_in (n := 1355) (by decide +kernel) (by decide +kernel)
theorem wd_1356 : Cond.methodLink RX4 152 yX4_throwTop ∈ zv_U := zv_in (n := 1356) (by decide +kernel) (by decide +kernel)
theorem wd_1358 : Cond.instanceMethod yX4_throwTop ∈ zv_U := zv_in (n := 1358) (by decide +kernel) (by decide +kernel)
theorem wd_1359 : Cond.code yX4_throwTop cX4_throwTop 2 ((some .int)) ∈ zv_U := zv_in (n := 1359) (by decide +kernel) (by decide +kernel)
theorem wd_1360 : Cond.methodLink RX4 312 yX4_unwind ∈ zv_U := zv_in (n := 1360) (by decide +kernel) (by decide +kernel)
theorem wd_1362 : Cond.instanceMethod yX4_unwind ∈ zv_U := zv_in (n := 1362) (by decide +kernel) (by decide +kernel)
theorem wd_1363 : Cond.code yX4_unwind cX4_unwind 5 (none) ∈ zv_U := zv_in (n := 1363) (by decide +kernel) (by decide +kernel)
theorem wd_1364 : Cond.methodLink RX4 315 yX1_routine ∈ zv_U := zv_in (n := 1364) (by decide +kernel) (by decide +kernel)
theorem wd_1365 : Cond.instanceMethod yX1_routine ∈ zv_U := zv_in (n := 1365) (by decide +kernel) (by decide +kernel)
theorem wd_1366 : Cond.selects RX1 yX1_routine yX1_routine ∈ zv_U := zv_in (n := 1366) (by decide +kernel) (by decide +kernel)
theorem wd_1367 : Cond.code yX1_routine cX1_routine 1 ((some (.object "GuestFrames$Routine"))) ∈ zv_U := zv_in (n := 1367) (by decide +kernel) (by decide +kernel)
theorem wd_1368 : Cond.methodLink RX4 319 yX6_placeToCatch ∈ zv_U := zv_in (n := 1368) (by decide +kernel) (by decide +kernel)
theorem wd_1369 : Cond.instanceMethod yX6_placeToCatch ∈ zv_U := zv_in (n := 1369) (by decide +kernel) (by decide +kernel)
theorem wd_1370 : Cond.selects RX6 yX6_placeToCatch yX6_placeToCatch ∈ zv_U := zv_in (n := 1370) (by decide +kernel) (by decide +kernel)
theorem wd_1371 : Cond.code yX6_placeToCatch cX6_placeToCatch 4 ((some .int)) ∈ zv_U := zv_in (n := 1371) (by decide +kernel) (by decide +kernel)
theorem wd_1372 : Cond.methodLink RX6 39 yX6_guards ∈ zv_U := zv_in (n := 1372) (by decide +kernel) (by decide +kernel)
theorem wd_1373 : Cond.methodLink RX4 322 yX1_catchAt ∈ zv_U := zv_in (n := 1373) (by decide +kernel) (by decide +kernel)
theorem wd_1374 : Cond.instanceMethod yX1_catchAt ∈ zv_U := zv_in (n := 1374) (by decide +kernel) (by decide +kernel)
theorem wd_1375 : Cond.selects RX1 yX1_catchAt yX1_catchAt ∈ zv_U := zv_in (n := 1375) (by decide +kernel) (by decide +kernel)
theorem wd_1376 : Cond.code yX1_catchAt cX1_catchAt 3 (none) ∈ zv_U := zv_in (n := 1376) (by decide +kernel) (by decide +kernel)
theorem wd_1377 : Cond.methodLink RX1 60 yX1_pushReference ∈ zv_U := zv_in (n := 1377) (by decide +kernel) (by decide +kernel)
theorem wd_1378 : Cond.methodLink RX4 155 yX4_cast ∈ zv_U := zv_in (n := 1378) (by decide +kernel) (by decide +kernel)
theorem wd_1380 : Cond.instanceMethod yX4_cast ∈ zv_U := zv_in (n := 1380) (by decide +kernel) (by decide +kernel)
theorem wd_1381 : Cond.code yX4_cast cX4_cast 2 ((some .int)) ∈ zv_U := zv_in (n := 1381) (by decide +kernel) (by decide +kernel)
theorem wd_1382 : Cond.methodLink RX4 158 yX4_tellWhetherOf ∈ zv_U := zv_in (n := 1382) (by decide +kernel) (by decide +kernel)
theorem wd_1384 : Cond.instanceMethod yX4_tellWhetherOf ∈ zv_U := zv_in (n := 1384) (by decide +kernel) (by decide +kernel)
theorem wd_1385 : Cond.code yX4_tellWhetherOf cX4_tellWhetherOf 3 ((some .int)) ∈ zv_U := zv_in (n := 1385) (by decide +kernel) (by decide +kernel)
theorem wd_1386 : Cond.methodLink RX4 77 yX4_raise ∈ zv_U := zv_in (n := 1386) (by decide +kernel) (by decide +kernel)
theorem wd_1388 : Cond.instanceMethod yX4_raise ∈ zv_U := zv_in (n := 1388) (by decide +kernel) (by decide +kernel)
theorem wd_1389 : Cond.code yX4_raise cX4_raise 3 (none) ∈ zv_U := zv_in (n := 1389) (by decide +kernel) (by decide +kernel)
theorem wd_1807 : Cond.selects "[Ljava/lang/Object;" ⟨"java/lang/Object", "getClass", "()Ljava/lang/Class;"⟩ ⟨"java/lang/Object", "getClass", "()Ljava/lang/Class;"⟩ ∈ zv_U := zv_in (n := 1807) (by decide +kernel) (by decide +kernel)
theorem ck_0 : zv_ck 0 RX0 TX0 4 tyX0 := ⟨rfl, zv_inL _ [169, 171, 173, 175] (by decide +kernel) (by decide +kernel), tyX0_ok, nmX0⟩
theorem ck_1 : zv_ck 1 RX1 TX1 5 tyX1 := ⟨rfl, zv_inL _ [354, 356, 358, 360, 362] (by decide +kernel) (by decide +kernel), tyX1_ok, nmX1⟩
theorem ck_2 : zv_ck 2 RX2 TX2 11 tyX2 := ⟨rfl, zv_inL _ [278, 280, 282, 284, 286, 288, 290, 292, 294, 296, 298] (by decide +kernel) (by decide +kernel), tyX2_ok, nmX2⟩
theorem ck_3 : zv_ck 3 RX3 TX3 12 tyX3 := ⟨rfl, zv_inL _ [223, 225, 227, 229, 231, 233, 235, 237, 239, 241, 243, 245] (by decide +kernel) (by decide +kernel), tyX3_ok, nmX3⟩
theorem ck_4 : zv_ck 4 RX4 TX4 12 tyX4 := ⟨rfl, zv_inL _ [382, 384, 386, 388, 390, 392, 394, 396, 398, 400, 402, 404] (by decide +kernel) (by decide +kernel), tyX4_ok, nmX4⟩
theorem ck_5 : zv_ck 5 RJx4a65c TJx4a65c 3 tyJx4a65c := ⟨rfl, zv_inL _ [202, 198, 200] (by decide +kernel) (by decide +kernel), tyJx4a65c_ok, nmJx4a65c⟩
theorem ck_6 : zv_ck 6 RX6 TX6 7 tyX6 := ⟨rfl, zv_inL _ [328, 330, 332, 334, 336, 338, 340] (by decide +kernel) (by decide +kernel), tyX6_ok, nmX6⟩
theorem ck_7 : zv_ck 7 RX7 TX7 4 tyX7 := ⟨rfl, zv_inL _ [147, 149, 151, 153] (by decide +kernel) (by decide +kernel), tyX7_ok, nmX7⟩
theorem ck_8 : zv_ck 8 RX8 TX8 5 tyX8 := ⟨rfl, zv_inL _ [412, 414, 416, 418, 420] (by decide +kernel) (by decide +kernel), tyX8_ok, nmX8⟩
def zd_0 : List Value := [.null, .null, .int 0, .int 0]
theorem df_0 : ∀ j, j < 4 → defaultValue (tyX0 j) = vp_V zd_0 j := by decide +kernel
def zd_1 : List Value := [.null, .null, .int 0, .null, .int 0]
theorem df_1 : ∀ j, j < 5 → defaultValue (tyX1 j) = vp_V zd_1 j := by decide +kernel
def zd_2 : List Value := [.null, .null, .null, .null, .null, .null, .null, .int 0, .int 0, .int 0, .int 0]
theorem df_2 : ∀ j, j < 11 → defaultValue (tyX2 j) = vp_V zd_2 j := by decide +kernel
def zd_3 : List Value := [.null, .null, .null, .null, .null, .null, .null, .int 0, .null, .int 0, .int 0, .int 0]
theorem df_3 : ∀ j, j < 12 → defaultValue (tyX3 j) = vp_V zd_3 j := by decide +kernel
def zd_4 : List Value := [.null, .null, .null, .int 0, .null, .null, .int 0, .int 0, .long 0, .int 0, .int 0, .int 0]
theorem df_4 : ∀ j, j < 12 → defaultValue (tyX4 j) = vp_V zd_4 j := by decide +kernel
def zd_5 : List Value := [.int 0, .null, .int 0]
theorem df_5 : ∀ j, j < 3 → defaultValue (tyJx4a65c j) = vp_V zd_5 j := by decide +kernel
def zd_6 : List Value := [.null, .null, .int 0, .int 0, .int 0, .int 0, .int 0]
theorem df_6 : ∀ j, j < 7 → defaultValue (tyX6 j) = vp_V zd_6 j := by decide +kernel
def zd_7 : List Value := [.null, .null, .null, .int 0]
theorem df_7 : ∀ j, j < 4 → defaultValue (tyX7 j) = vp_V zd_7 j := by decide +kernel
theorem fl_164 : zv_fl RX0 17 0 1 (.array .int) true := ⟨RX0, TX0, 4, tyX0, "GuestFrames$Draft", ck_0, by decide, rfl, rfl, (fun _ => rfl), wd_164, Or.inl rfl⟩
theorem fl_165 : zv_fl RX0 27 0 2 (.int) false := ⟨RX0, TX0, 4, tyX0, "GuestFrames$Draft", ck_0, by decide, rfl, rfl, (fun q => nomatch q), wd_165, Or.inl rfl⟩
theorem fl_167 : zv_fl RX0 31 0 3 (.int) false := ⟨RX0, TX0, 4, tyX0, "GuestFrames$Draft", ck_0, by decide, rfl, rfl, (fun q => nomatch q), wd_167, Or.inl rfl⟩
theorem fl_163 : zv_fl RX0 9 0 0 (.array .byte) true := ⟨RX0, TX0, 4, tyX0, "GuestFrames$Draft", ck_0, by decide, rfl, rfl, (fun _ => rfl), wd_163, Or.inl rfl⟩
theorem fl_348 : zv_fl RX1 11 1 0 (.array .long) true := ⟨RX1, TX1, 5, tyX1, "GuestFrames$Frame", ck_1, by decide, rfl, rfl, (fun _ => rfl), wd_348, Or.inl rfl⟩
theorem fl_349 : zv_fl RX1 15 1 1 (.array .int) true := ⟨RX1, TX1, 5, tyX1, "GuestFrames$Frame", ck_1, by decide, rfl, rfl, (fun _ => rfl), wd_349, Or.inl rfl⟩
theorem fl_350 : zv_fl RX1 19 1 2 (.int) false := ⟨RX1, TX1, 5, tyX1, "GuestFrames$Frame", ck_1, by decide, rfl, rfl, (fun q => nomatch q), wd_350, Or.inl rfl⟩
theorem fl_351 : zv_fl RX1 23 1 3 (.object "GuestFrames$Routine") false := ⟨RX1, TX1, 5, tyX1, "GuestFrames$Frame", ck_1, by decide, rfl, rfl, (fun q => nomatch q), wd_351, Or.inl rfl⟩
theorem fl_352 : zv_fl RX1 27 1 4 (.int) false := ⟨RX1, TX1, 5, tyX1, "GuestFrames$Frame", ck_1, by decide, rfl, rfl, (fun q => nomatch q), wd_352, Or.inl rfl⟩
theorem fl_318 : zv_fl RX1 53 6 2 (.int) true := ⟨RX6, TX6, 7, tyX6, "GuestFrames$Routine", ck_6, by decide, rfl, rfl, (fun _ => rfl), wd_318, Or.inl rfl⟩
theorem fl_268 : zv_fl RX2 15 2 1 (.array .int) true := ⟨RX2, TX2, 11, tyX2, "GuestFrames$Heap", ck_2, by decide, rfl, rfl, (fun _ => rfl), wd_268, Or.inl rfl⟩
theorem fl_269 : zv_fl RX2 19 2 2 (.array .int) true := ⟨RX2, TX2, 11, tyX2, "GuestFrames$Heap", ck_2, by decide, rfl, rfl, (fun _ => rfl), wd_269, Or.inl rfl⟩
theorem fl_270 : zv_fl RX2 22 2 3 (.array .int) true := ⟨RX2, TX2, 11, tyX2, "GuestFrames$Heap", ck_2, by decide, rfl, rfl, (fun _ => rfl), wd_270, Or.inl rfl⟩
theorem fl_271 : zv_fl RX2 25 2 4 (.array .int) true := ⟨RX2, TX2, 11, tyX2, "GuestFrames$Heap", ck_2, by decide, rfl, rfl, (fun _ => rfl), wd_271, Or.inl rfl⟩
theorem fl_272 : zv_fl RX2 28 2 5 (.array .int) true := ⟨RX2, TX2, 11, tyX2, "GuestFrames$Heap", ck_2, by decide, rfl, rfl, (fun _ => rfl), wd_272, Or.inl rfl⟩
theorem fl_273 : zv_fl RX2 31 2 6 (.array .int) true := ⟨RX2, TX2, 11, tyX2, "GuestFrames$Heap", ck_2, by decide, rfl, rfl, (fun _ => rfl), wd_273, Or.inl rfl⟩
theorem fl_141 : zv_fl RX2 40 7 1 (.array .int) true := ⟨RX7, TX7, 4, tyX7, "GuestFrames$Types", ck_7, by decide, rfl, rfl, (fun _ => rfl), wd_141, Or.inl rfl⟩
theorem fl_274 : zv_fl RX2 45 2 7 (.int) false := ⟨RX2, TX2, 11, tyX2, "GuestFrames$Heap", ck_2, by decide, rfl, rfl, (fun q => nomatch q), wd_274, Or.inl rfl⟩
theorem fl_275 : zv_fl RX2 49 2 8 (.int) false := ⟨RX2, TX2, 11, tyX2, "GuestFrames$Heap", ck_2, by decide, rfl, rfl, (fun q => nomatch q), wd_275, Or.inl rfl⟩
theorem fl_276 : zv_fl RX2 52 2 9 (.int) false := ⟨RX2, TX2, 11, tyX2, "GuestFrames$Heap", ck_2, by decide, rfl, rfl, (fun q => nomatch q), wd_276, Or.inl rfl⟩
theorem fl_277 : zv_fl RX2 55 2 10 (.int) false := ⟨RX2, TX2, 11, tyX2, "GuestFrames$Heap", ck_2, by decide, rfl, rfl, (fun q => nomatch q), wd_277, Or.inl rfl⟩
theorem fl_267 : zv_fl RX2 9 2 0 (.object "GuestFrames$Types") true := ⟨RX2, TX2, 11, tyX2, "GuestFrames$Heap", ck_2, by decide, rfl, rfl, (fun _ => rfl), wd_267, Or.inl rfl⟩
theorem fl_139 : zv_fl RX2 92 7 0 (.array .int) true := ⟨RX7, TX7, 4, tyX7, "GuestFrames$Types", ck_7, by decide, rfl, rfl, (fun _ => rfl), wd_139, Or.inl rfl⟩
theorem fl_315 : zv_fl RX3 115 6 1 (.array .int) true := ⟨RX6, TX6, 7, tyX6, "GuestFrames$Routine", ck_6, by decide, rfl, rfl, (fun _ => rfl), wd_315, Or.inl rfl⟩
theorem fl_325 : zv_fl RX3 122 6 5 (.int) true := ⟨RX6, TX6, 7, tyX6, "GuestFrames$Routine", ck_6, by decide, rfl, rfl, (fun _ => rfl), wd_325, Or.inl rfl⟩
theorem fl_327 : zv_fl RX3 148 6 6 (.int) true := ⟨RX6, TX6, 7, tyX6, "GuestFrames$Routine", ck_6, by decide, rfl, rfl, (fun _ => rfl), wd_327, Or.inl rfl⟩
theorem fl_214 : zv_fl RX3 15 3 3 (.array .boolean) true := ⟨RX3, TX3, 12, tyX3, "GuestFrames$Judge", ck_3, by decide, rfl, rfl, (fun _ => rfl), wd_214, Or.inl rfl⟩
theorem fl_323 : zv_fl RX3 165 6 4 (.int) true := ⟨RX6, TX6, 7, tyX6, "GuestFrames$Routine", ck_6, by decide, rfl, rfl, (fun _ => rfl), wd_323, Or.inl rfl⟩
theorem fl_143 : zv_fl RX3 166 7 1 (.array .int) true := ⟨RX7, TX7, 4, tyX7, "GuestFrames$Types", ck_7, by decide, rfl, rfl, (fun _ => rfl), wd_143, Or.inl rfl⟩
theorem fl_215 : zv_fl RX3 18 3 4 (.array .int) true := ⟨RX3, TX3, 12, tyX3, "GuestFrames$Judge", ck_3, by decide, rfl, rfl, (fun _ => rfl), wd_215, Or.inl rfl⟩
theorem fl_319 : zv_fl RX3 181 6 2 (.int) true := ⟨RX6, TX6, 7, tyX6, "GuestFrames$Routine", ck_6, by decide, rfl, rfl, (fun _ => rfl), wd_319, Or.inl rfl⟩
theorem fl_216 : zv_fl RX3 22 3 5 (.array .int) true := ⟨RX3, TX3, 12, tyX3, "GuestFrames$Judge", ck_3, by decide, rfl, rfl, (fun _ => rfl), wd_216, Or.inl rfl⟩
theorem fl_217 : zv_fl RX3 25 3 6 (.array .int) true := ⟨RX3, TX3, 12, tyX3, "GuestFrames$Judge", ck_3, by decide, rfl, rfl, (fun _ => rfl), wd_217, Or.inl rfl⟩
theorem fl_211 : zv_fl RX3 28 3 0 (.object "GuestFrames$Types") true := ⟨RX3, TX3, 12, tyX3, "GuestFrames$Judge", ck_3, by decide, rfl, rfl, (fun _ => rfl), wd_211, Or.inl rfl⟩
theorem fl_212 : zv_fl RX3 32 3 1 (.object "java/util/ArrayList") true := ⟨RX3, TX3, 12, tyX3, "GuestFrames$Judge", ck_3, by decide, rfl, rfl, (fun _ => rfl), wd_212, Or.inl rfl⟩
theorem fl_219 : zv_fl RX3 36 3 8 (.object "GuestFrames$Routine") false := ⟨RX3, TX3, 12, tyX3, "GuestFrames$Judge", ck_3, by decide, rfl, rfl, (fun q => nomatch q), wd_219, Or.inl rfl⟩
theorem fl_220 : zv_fl RX3 40 3 9 (.boolean) false := ⟨RX3, TX3, 12, tyX3, "GuestFrames$Judge", ck_3, by decide, rfl, rfl, (fun q => nomatch q), wd_220, Or.inl rfl⟩
theorem fl_218 : zv_fl RX3 44 3 7 (.int) false := ⟨RX3, TX3, 12, tyX3, "GuestFrames$Judge", ck_3, by decide, rfl, rfl, (fun q => nomatch q), wd_218, Or.inl rfl⟩
theorem fl_321 : zv_fl RX3 48 6 3 (.int) true := ⟨RX6, TX6, 7, tyX6, "GuestFrames$Routine", ck_6, by decide, rfl, rfl, (fun _ => rfl), wd_321, Or.inl rfl⟩
theorem fl_313 : zv_fl RX3 73 6 0 (.array .byte) true := ⟨RX6, TX6, 7, tyX6, "GuestFrames$Routine", ck_6, by decide, rfl, rfl, (fun _ => rfl), wd_313, Or.inl rfl⟩
theorem fl_221 : zv_fl RX3 81 3 10 (.int) false := ⟨RX3, TX3, 12, tyX3, "GuestFrames$Judge", ck_3, by decide, rfl, rfl, (fun q => nomatch q), wd_221, Or.inl rfl⟩
theorem fl_222 : zv_fl RX3 84 3 11 (.int) false := ⟨RX3, TX3, 12, tyX3, "GuestFrames$Judge", ck_3, by decide, rfl, rfl, (fun q => nomatch q), wd_222, Or.inl rfl⟩
theorem fl_213 : zv_fl RX3 9 3 2 (.array .boolean) true := ⟨RX3, TX3, 12, tyX3, "GuestFrames$Judge", ck_3, by decide, rfl, rfl, (fun _ => rfl), wd_213, Or.inl rfl⟩
theorem fl_367 : zv_fl RX4 15 4 1 (.object "java/util/ArrayList") true := ⟨RX4, TX4, 12, tyX4, "GuestFrames$Machine", ck_4, by decide, rfl, rfl, (fun _ => rfl), wd_367, Or.inl rfl⟩
theorem fl_353 : zv_fl RX4 161 1 4 (.int) false := ⟨RX1, TX1, 5, tyX1, "GuestFrames$Frame", ck_1, by decide, rfl, rfl, (fun q => nomatch q), wd_353, Or.inl rfl⟩
theorem fl_369 : zv_fl RX4 19 4 3 (.int) true := ⟨RX4, TX4, 12, tyX4, "GuestFrames$Machine", ck_4, by decide, rfl, rfl, (fun _ => rfl), wd_369, Or.inl rfl⟩
theorem fl_368 : zv_fl RX4 28 4 2 (.object "GuestFrames$Heap") true := ⟨RX4, TX4, 12, tyX4, "GuestFrames$Machine", ck_4, by decide, rfl, rfl, (fun _ => rfl), wd_368, Or.inl rfl⟩
theorem fl_370 : zv_fl RX4 34 4 4 (.array (.object "GuestFrames$Frame")) true := ⟨RX4, TX4, 12, tyX4, "GuestFrames$Machine", ck_4, by decide, rfl, rfl, (fun _ => rfl), wd_370, Or.inl rfl⟩
theorem fl_371 : zv_fl RX4 46 4 5 (.object "GuestFrames$Frame") false := ⟨RX4, TX4, 12, tyX4, "GuestFrames$Machine", ck_4, by decide, rfl, rfl, (fun q => nomatch q), wd_371, Or.inl rfl⟩
theorem fl_374 : zv_fl RX4 53 4 8 (.long) false := ⟨RX4, TX4, 12, tyX4, "GuestFrames$Machine", ck_4, by decide, rfl, rfl, (fun q => nomatch q), wd_374, Or.inl rfl⟩
theorem fl_376 : zv_fl RX4 57 4 9 (.int) false := ⟨RX4, TX4, 12, tyX4, "GuestFrames$Machine", ck_4, by decide, rfl, rfl, (fun q => nomatch q), wd_376, Or.inl rfl⟩
theorem fl_378 : zv_fl RX4 60 4 10 (.int) false := ⟨RX4, TX4, 12, tyX4, "GuestFrames$Machine", ck_4, by decide, rfl, rfl, (fun q => nomatch q), wd_378, Or.inl rfl⟩
theorem fl_380 : zv_fl RX4 63 4 11 (.int) false := ⟨RX4, TX4, 12, tyX4, "GuestFrames$Machine", ck_4, by decide, rfl, rfl, (fun q => nomatch q), wd_380, Or.inl rfl⟩
theorem fl_373 : zv_fl RX4 66 4 7 (.int) false := ⟨RX4, TX4, 12, tyX4, "GuestFrames$Machine", ck_4, by decide, rfl, rfl, (fun q => nomatch q), wd_373, Or.inl rfl⟩
theorem fl_372 : zv_fl RX4 81 4 6 (.int) false := ⟨RX4, TX4, 12, tyX4, "GuestFrames$Machine", ck_4, by decide, rfl, rfl, (fun q => nomatch q), wd_372, Or.inl rfl⟩
theorem fl_317 : zv_fl RX4 87 6 2 (.int) true := ⟨RX6, TX6, 7, tyX6, "GuestFrames$Routine", ck_6, by decide, rfl, rfl, (fun _ => rfl), wd_317, Or.inl rfl⟩
theorem fl_366 : zv_fl RX4 9 4 0 (.object "GuestFrames$Types") true := ⟨RX4, TX4, 12, tyX4, "GuestFrames$Machine", ck_4, by decide, rfl, rfl, (fun _ => rfl), wd_366, Or.inl rfl⟩
theorem fl_314 : zv_fl RX6 15 6 1 (.array .int) true := ⟨RX6, TX6, 7, tyX6, "GuestFrames$Routine", ck_6, by decide, rfl, rfl, (fun _ => rfl), wd_314, Or.inl rfl⟩
theorem fl_316 : zv_fl RX6 23 6 2 (.int) true := ⟨RX6, TX6, 7, tyX6, "GuestFrames$Routine", ck_6, by decide, rfl, rfl, (fun _ => rfl), wd_316, Or.inl rfl⟩
theorem fl_320 : zv_fl RX6 27 6 3 (.int) true := ⟨RX6, TX6, 7, tyX6, "GuestFrames$Routine", ck_6, by decide, rfl, rfl, (fun _ => rfl), wd_320, Or.inl rfl⟩
theorem fl_322 : zv_fl RX6 30 6 4 (.int) true := ⟨RX6, TX6, 7, tyX6, "GuestFrames$Routine", ck_6, by decide, rfl, rfl, (fun _ => rfl), wd_322, Or.inl rfl⟩
theorem fl_324 : zv_fl RX6 33 6 5 (.int) true := ⟨RX6, TX6, 7, tyX6, "GuestFrames$Routine", ck_6, by decide, rfl, rfl, (fun _ => rfl), wd_324, Or.inl rfl⟩
theorem fl_326 : zv_fl RX6 36 6 6 (.int) true := ⟨RX6, TX6, 7, tyX6, "GuestFrames$Routine", ck_6, by decide, rfl, rfl, (fun _ => rfl), wd_326, Or.inl rfl⟩
theorem fl_312 : zv_fl RX6 9 6 0 (.array .byte) true := ⟨RX6, TX6, 7, tyX6, "GuestFrames$Routine", ck_6, by decide, rfl, rfl, (fun _ => rfl), wd_312, Or.inl rfl⟩
theorem fl_140 : zv_fl RX7 15 7 1 (.array .int) true := ⟨RX7, TX7, 4, tyX7, "GuestFrames$Types", ck_7, by decide, rfl, rfl, (fun _ => rfl), wd_140, Or.inl rfl⟩
theorem fl_144 : zv_fl RX7 18 7 2 (.array .int) true := ⟨RX7, TX7, 4, tyX7, "GuestFrames$Types", ck_7, by decide, rfl, rfl, (fun _ => rfl), wd_144, Or.inl rfl⟩
theorem fl_145 : zv_fl RX7 21 7 3 (.int) false := ⟨RX7, TX7, 4, tyX7, "GuestFrames$Types", ck_7, by decide, rfl, rfl, (fun q => nomatch q), wd_145, Or.inl rfl⟩
theorem fl_138 : zv_fl RX7 9 7 0 (.array .int) true := ⟨RX7, TX7, 4, tyX7, "GuestFrames$Types", ck_7, by decide, rfl, rfl, (fun _ => rfl), wd_138, Or.inl rfl⟩
theorem fl_407 : zv_fl RX8 10 8 0 (.object "GuestFrames$Types") true := ⟨RX8, TX8, 5, tyX8, "GuestFrames", ck_8, by decide, rfl, rfl, (fun _ => rfl), wd_407, Or.inl rfl⟩
theorem fl_168 : zv_fl RX8 107 0 3 (.int) false := ⟨RX0, TX0, 4, tyX0, "GuestFrames$Draft", ck_0, by decide, rfl, rfl, (fun q => nomatch q), wd_168, Or.inl rfl⟩
theorem fl_375 : zv_fl RX8 169 4 8 (.long) false := ⟨RX4, TX4, 12, tyX4, "GuestFrames$Machine", ck_4, by decide, rfl, rfl, (fun q => nomatch q), wd_375, Or.inl rfl⟩
theorem fl_377 : zv_fl RX8 173 4 9 (.int) false := ⟨RX4, TX4, 12, tyX4, "GuestFrames$Machine", ck_4, by decide, rfl, rfl, (fun q => nomatch q), wd_377, Or.inl rfl⟩
theorem fl_379 : zv_fl RX8 176 4 10 (.int) false := ⟨RX4, TX4, 12, tyX4, "GuestFrames$Machine", ck_4, by decide, rfl, rfl, (fun q => nomatch q), wd_379, Or.inl rfl⟩
theorem fl_381 : zv_fl RX8 179 4 11 (.int) false := ⟨RX4, TX4, 12, tyX4, "GuestFrames$Machine", ck_4, by decide, rfl, rfl, (fun q => nomatch q), wd_381, Or.inl rfl⟩
theorem fl_408 : zv_fl RX8 19 8 1 (.object "GuestFrames$Draft") true := ⟨RX8, TX8, 5, tyX8, "GuestFrames", ck_8, by decide, rfl, rfl, (fun _ => rfl), wd_408, Or.inl rfl⟩
theorem fl_409 : zv_fl RX8 26 8 2 (.object "java/util/ArrayList") true := ⟨RX8, TX8, 5, tyX8, "GuestFrames", ck_8, by decide, rfl, rfl, (fun _ => rfl), wd_409, Or.inl rfl⟩
theorem fl_410 : zv_fl RX8 35 8 3 (.object "GuestFrames$Judge") true := ⟨RX8, TX8, 5, tyX8, "GuestFrames", ck_8, by decide, rfl, rfl, (fun _ => rfl), wd_410, Or.inl rfl⟩
theorem fl_411 : zv_fl RX8 53 8 4 (.object "GuestFrames$Machine") true := ⟨RX8, TX8, 5, tyX8, "GuestFrames", ck_8, by decide, rfl, rfl, (fun _ => rfl), wd_411, Or.inl rfl⟩
theorem fl_166 : zv_fl RX8 64 0 2 (.int) false := ⟨RX0, TX0, 4, tyX0, "GuestFrames$Draft", ck_0, by decide, rfl, rfl, (fun q => nomatch q), wd_166, Or.inl rfl⟩
theorem fl_142 : zv_fl RX8 86 7 1 (.array .int) true := ⟨RX7, TX7, 4, tyX7, "GuestFrames$Types", ck_7, by decide, rfl, rfl, (fun _ => rfl), wd_142, Or.inl rfl⟩
theorem fl_146 : zv_fl RX8 92 7 3 (.int) false := ⟨RX7, TX7, 4, tyX7, "GuestFrames$Types", ck_7, by decide, rfl, rfl, (fun q => nomatch q), wd_146, Or.inl rfl⟩
theorem fl_195 : zv_fl RJxc12de 7 5 0 (.int) false := ⟨RJx4a65c, TJx4a65c, 3, tyJx4a65c, "java/util/AbstractList", ck_5, by decide, rfl, rfl, (fun q => nomatch q), wd_195, Or.inl rfl⟩
theorem fl_194 : zv_fl RJx4a65c 48 5 2 (.int) false := ⟨RJx4a65c, TJx4a65c, 3, tyJx4a65c, "java/util/ArrayList", ck_5, by decide, rfl, rfl, (fun q => nomatch q), wd_194, Or.inl rfl⟩
theorem fl_196 : zv_fl RJx4a65c 63 5 0 (.int) false := ⟨RJx4a65c, TJx4a65c, 3, tyJx4a65c, "java/util/ArrayList", ck_5, by decide, rfl, rfl, (fun q => nomatch q), wd_196, Or.inr wd_197⟩
theorem fl_193 : zv_fl RJx4a65c 9 5 1 (.array (.object "java/lang/Object")) false := ⟨RJx4a65c, TJx4a65c, 3, tyJx4a65c, "java/util/ArrayList", ck_5, by decide, rfl, rfl, (fun q => nomatch q), wd_193, Or.inl rfl⟩
theorem mw_J13_compare_74951 : zv_mw yJ13_compare_74951 cJ13_compare_74951 4 ((some .int)) 2 := ⟨wd_1238, wd_123, by decide +kernel, by decide⟩
theorem mw_J15_checkIndex_7cf53 : zv_mw yJ15_checkIndex_7cf53 cJ15_checkIndex_7cf53 2 ((some .int)) 2 := ⟨wd_749, wd_113, by decide +kernel, by decide⟩
theorem mw_J3_checkIndex_8e157 : zv_mw yJ3_checkIndex_8e157 cJ3_checkIndex_8e157 3 ((some .int)) 3 := ⟨wd_752, wd_114, by decide +kernel, by decide⟩
theorem mw_J7_copyOf_1904c : zv_mw yJ7_copyOf_1904c cJ7_copyOf_1904c 2 ((some (.array (.object "java/lang/Object")))) 2 := ⟨wd_801, wd_110, by decide +kernel, by decide⟩
theorem mw_J7_copyOf_59c91 : zv_mw yJ7_copyOf_59c91 cJ7_copyOf_59c91 3 ((some (.array .int))) 2 := ⟨wd_623, wd_110, by decide +kernel, by decide⟩
theorem mw_J7_copyOf_6403c : zv_mw yJ7_copyOf_6403c cJ7_copyOf_6403c 4 ((some (.array (.object "java/lang/Object")))) 3 := ⟨wd_824, wd_110, by decide +kernel, by decide⟩
theorem mw_J7_copyOf_9075b : zv_mw yJ7_copyOf_9075b cJ7_copyOf_9075b 3 ((some (.array .byte))) 2 := ⟨wd_605, wd_110, by decide +kernel, by decide⟩
theorem mw_J7_fill_fda19 : zv_mw yJ7_fill_fda19 cJ7_fill_fda19 5 (none) 4 := ⟨wd_858, wd_110, by decide +kernel, by decide⟩
theorem mw_J7_rangeCheck_23922 : zv_mw yJ7_rangeCheck_23922 cJ7_rangeCheck_23922 3 (none) 3 := ⟨wd_861, wd_110, by decide +kernel, by decide⟩
theorem mw_J8_hugeLength_7cf53 : zv_mw yJ8_hugeLength_7cf53 cJ8_hugeLength_7cf53 3 ((some .int)) 2 := ⟨wd_798, wd_115, by decide +kernel, by decide⟩
theorem mw_J8_newLength_cabcc : zv_mw yJ8_newLength_cabcc cJ8_newLength_cabcc 4 ((some .int)) 3 := ⟨wd_793, wd_115, by decide +kernel, by decide⟩
theorem mw_J9_max_7cf53 : zv_mw yJ9_max_7cf53 cJ9_max_7cf53 2 ((some .int)) 2 := ⟨wd_256, wd_99, by decide +kernel, by decide⟩
theorem mw_J9_min_7cf53 : zv_mw yJ9_min_7cf53 cJ9_min_7cf53 2 ((some .int)) 2 := ⟨wd_253, wd_99, by decide +kernel, by decide⟩
theorem mw_Jx4a65c_add_72be8 : zv_mw yJx4a65c_add_72be8 cJx4a65c_add_72be8 4 (none) 3 := ⟨wd_782, wd_96, by decide +kernel, by decide⟩
theorem mw_Jx4a65c_add_9ea2d : zv_mw yJx4a65c_add_9ea2d cJx4a65c_add_9ea2d 2 ((some .boolean)) 1 := ⟨wd_778, wd_96, by decide +kernel, by decide⟩
theorem mw_Jx4a65c_elementData_915e3 : zv_mw yJx4a65c_elementData_915e3 cJx4a65c_elementData_915e3 2 ((some (.object "java/lang/Object"))) 1 := ⟨wd_756, wd_96, by decide +kernel, by decide⟩
theorem mw_Jx4a65c_get_915e3 : zv_mw yJx4a65c_get_915e3 cJx4a65c_get_915e3 2 ((some (.object "java/lang/Object"))) 1 := ⟨wd_746, wd_96, by decide +kernel, by decide⟩
theorem mw_Jx4a65c_grow_92f84 : zv_mw yJx4a65c_grow_92f84 cJx4a65c_grow_92f84 4 ((some (.array (.object "java/lang/Object")))) 1 := ⟨wd_790, wd_96, by decide +kernel, by decide⟩
theorem mw_Jx4a65c_grow_d5877 : zv_mw yJx4a65c_grow_d5877 cJx4a65c_grow_d5877 1 ((some (.array (.object "java/lang/Object")))) 0 := ⟨wd_786, wd_96, by decide +kernel, by decide⟩
theorem mw_Jx4a65c_init_da8c8 : zv_mw yJx4a65c_init_da8c8 cJx4a65c_init_da8c8 1 (none) 0 := ⟨wd_183, wd_96, by decide +kernel, by decide⟩
theorem mw_Jx4a65c_size_8abf5 : zv_mw yJx4a65c_size_8abf5 cJx4a65c_size_8abf5 1 ((some .int)) 0 := ⟨wd_596, wd_96, by decide +kernel, by decide⟩
theorem mw_Jxa1e45_init_da8c8 : zv_mw yJxa1e45_init_da8c8 cJxa1e45_init_da8c8 1 (none) 0 := ⟨wd_189, wd_94, by decide +kernel, by decide⟩
theorem mw_Jxc12de_init_da8c8 : zv_mw yJxc12de_init_da8c8 cJxc12de_init_da8c8 1 (none) 0 := ⟨wd_186, wd_95, by decide +kernel, by decide⟩
theorem mw_X0_append : zv_mw yX0_append cX0_append 5 (none) 2 := ⟨wd_530, wd_93, by decide +kernel, by decide⟩
theorem mw_X0_appendHandler : zv_mw yX0_appendHandler cX0_appendHandler 6 (none) 4 := ⟨wd_580, wd_93, by decide +kernel, by decide⟩
theorem mw_X0_code : zv_mw yX0_code cX0_code 1 ((some (.array .byte))) 0 := ⟨wd_602, wd_93, by decide +kernel, by decide⟩
theorem mw_X0_empty : zv_mw yX0_empty cX0_empty 1 (none) 0 := ⟨wd_633, wd_93, by decide +kernel, by decide⟩
theorem mw_X0_handlerRows : zv_mw yX0_handlerRows cX0_handlerRows 1 ((some (.array .int))) 0 := ⟨wd_620, wd_93, by decide +kernel, by decide⟩
theorem mw_X0_init : zv_mw yX0_init cX0_init 1 (none) 0 := ⟨wd_161, wd_93, by decide +kernel, by decide⟩
theorem mw_X1_begin : zv_mw yX1_begin cX1_begin 2 (none) 1 := ⟨wd_855, wd_102, by decide +kernel, by decide⟩
theorem mw_X1_catchAt : zv_mw yX1_catchAt cX1_catchAt 3 (none) 2 := ⟨wd_1376, wd_102, by decide +kernel, by decide⟩
theorem mw_X1_copySlot : zv_mw yX1_copySlot cX1_copySlot 4 (none) 3 := ⟨wd_1146, wd_102, by decide +kernel, by decide⟩
theorem mw_X1_drop : zv_mw yX1_drop cX1_drop 2 (none) 1 := ⟨wd_1183, wd_102, by decide +kernel, by decide⟩
theorem mw_X1_duplicate : zv_mw yX1_duplicate cX1_duplicate 1 (none) 0 := ⟨wd_1212, wd_102, by decide +kernel, by decide⟩
theorem mw_X1_exchange : zv_mw yX1_exchange cX1_exchange 4 (none) 0 := ⟨wd_1216, wd_102, by decide +kernel, by decide⟩
theorem mw_X1_increase : zv_mw yX1_increase cX1_increase 3 (none) 2 := ⟨wd_1235, wd_102, by decide +kernel, by decide⟩
theorem mw_X1_init : zv_mw yX1_init cX1_init 2 (none) 1 := ⟨wd_346, wd_102, by decide +kernel, by decide⟩
theorem mw_X1_number : zv_mw yX1_number cX1_number 2 ((some .long)) 1 := ⟨wd_1158, wd_102, by decide +kernel, by decide⟩
theorem mw_X1_opcode : zv_mw yX1_opcode cX1_opcode 1 ((some .int)) 0 := ⟨wd_1111, wd_102, by decide +kernel, by decide⟩
theorem mw_X1_operand : zv_mw yX1_operand cX1_operand 2 ((some .int)) 1 := ⟨wd_1133, wd_102, by decide +kernel, by decide⟩
theorem mw_X1_pair : zv_mw yX1_pair cX1_pair 1 ((some .int)) 0 := ⟨wd_1137, wd_102, by decide +kernel, by decide⟩
theorem mw_X1_popLocal : zv_mw yX1_popLocal cX1_popLocal 2 (none) 1 := ⟨wd_1191, wd_102, by decide +kernel, by decide⟩
theorem mw_X1_pushLocal : zv_mw yX1_pushLocal cX1_pushLocal 2 (none) 1 := ⟨wd_1142, wd_102, by decide +kernel, by decide⟩
theorem mw_X1_pushNumber : zv_mw yX1_pushNumber cX1_pushNumber 3 (none) 1 := ⟨wd_1128, wd_102, by decide +kernel, by decide⟩
theorem mw_X1_pushReference : zv_mw yX1_pushReference cX1_pushReference 2 (none) 1 := ⟨wd_1124, wd_102, by decide +kernel, by decide⟩
theorem mw_X1_reference : zv_mw yX1_reference cX1_reference 2 ((some .int)) 1 := ⟨wd_1154, wd_102, by decide +kernel, by decide⟩
theorem mw_X1_routine : zv_mw yX1_routine cX1_routine 1 ((some (.object "GuestFrames$Routine"))) 0 := ⟨wd_1367, wd_102, by decide +kernel, by decide⟩
theorem mw_X1_setNumber : zv_mw yX1_setNumber cX1_setNumber 4 (none) 2 := ⟨wd_1103, wd_102, by decide +kernel, by decide⟩
theorem mw_X1_showReferences : zv_mw yX1_showReferences cX1_showReferences 3 (none) 1 := ⟨wd_1315, wd_102, by decide +kernel, by decide⟩
theorem mw_X1_takeArguments : zv_mw yX1_takeArguments cX1_takeArguments 4 (none) 1 := ⟨wd_1294, wd_102, by decide +kernel, by decide⟩
theorem mw_X2_add : zv_mw yX2_add cX2_add 5 ((some .int)) 3 := ⟨wd_1334, wd_100, by decide +kernel, by decide⟩
theorem mw_X2_beginSearch : zv_mw yX2_beginSearch cX2_beginSearch 1 (none) 0 := ⟨wd_1311, wd_100, by decide +kernel, by decide⟩
theorem mw_X2_classes : zv_mw yX2_classes cX2_classes 2 ((some .int)) 1 := ⟨wd_1268, wd_100, by decide +kernel, by decide⟩
theorem mw_X2_element : zv_mw yX2_element cX2_element 4 ((some .long)) 2 := ⟨wd_1177, wd_100, by decide +kernel, by decide⟩
theorem mw_X2_empty : zv_mw yX2_empty cX2_empty 1 (none) 0 := ⟨wd_847, wd_100, by decide +kernel, by decide⟩
theorem mw_X2_field : zv_mw yX2_field cX2_field 3 ((some .int)) 2 := ⟨wd_1276, wd_100, by decide +kernel, by decide⟩
theorem mw_X2_init : zv_mw yX2_init cX2_init 5 (none) 2 := ⟨wd_265, wd_100, by decide +kernel, by decide⟩
theorem mw_X2_isArray : zv_mw yX2_isArray cX2_isArray 2 ((some .boolean)) 1 := ⟨wd_1272, wd_100, by decide +kernel, by decide⟩
theorem mw_X2_length : zv_mw yX2_length cX2_length 2 ((some .int)) 1 := ⟨wd_1173, wd_100, by decide +kernel, by decide⟩
theorem mw_X2_reach : zv_mw yX2_reach cX2_reach 2 (none) 1 := ⟨wd_1319, wd_100, by decide +kernel, by decide⟩
theorem mw_X2_reachWhatHas : zv_mw yX2_reachWhatHas cX2_reachWhatHas 6 (none) 1 := ⟨wd_1327, wd_100, by decide +kernel, by decide⟩
theorem mw_X2_reachedWords : zv_mw yX2_reachedWords cX2_reachedWords 3 ((some .int)) 0 := ⟨wd_1323, wd_100, by decide +kernel, by decide⟩
theorem mw_X2_setBits : zv_mw yX2_setBits cX2_setBits 5 (none) 4 := ⟨wd_1203, wd_100, by decide +kernel, by decide⟩
theorem mw_X2_setElement : zv_mw yX2_setElement cX2_setElement 6 (none) 3 := ⟨wd_1199, wd_100, by decide +kernel, by decide⟩
theorem mw_X2_setField : zv_mw yX2_setField cX2_setField 4 (none) 3 := ⟨wd_1285, wd_100, by decide +kernel, by decide⟩
theorem mw_X2_sweep : zv_mw yX2_sweep cX2_sweep 5 (none) 0 := ⟨wd_1338, wd_100, by decide +kernel, by decide⟩
theorem mw_X2_tag : zv_mw yX2_tag cX2_tag 2 ((some .int)) 1 := ⟨wd_1166, wd_100, by decide +kernel, by decide⟩
theorem mw_X2_wordsOfArray : zv_mw yX2_wordsOfArray cX2_wordsOfArray 3 ((some .long)) 2 := ⟨wd_1347, wd_100, by decide +kernel, by decide⟩
theorem mw_X2_wordsOfObject : zv_mw yX2_wordsOfObject cX2_wordsOfObject 2 ((some .int)) 1 := ⟨wd_1303, wd_100, by decide +kernel, by decide⟩
theorem mw_X3_await : zv_mw yX3_await cX3_await 2 (none) 1 := ⟨wd_649, wd_97, by decide +kernel, by decide⟩
theorem mw_X3_commonKinds : zv_mw yX3_commonKinds cX3_commonKinds 4 ((some .int)) 2 := ⟨wd_652, wd_97, by decide +kernel, by decide⟩
theorem mw_X3_duplicate : zv_mw yX3_duplicate cX3_duplicate 2 (none) 0 := ⟨wd_720, wd_97, by decide +kernel, by decide⟩
theorem mw_X3_exchange : zv_mw yX3_exchange cX3_exchange 3 (none) 0 := ⟨wd_728, wd_97, by decide +kernel, by decide⟩
theorem mw_X3_fieldKind : zv_mw yX3_fieldKind cX3_fieldKind 5 ((some .int)) 1 := ⟨wd_732, wd_97, by decide +kernel, by decide⟩
theorem mw_X3_findsGood : zv_mw yX3_findsGood cX3_findsGood 4 ((some .boolean)) 1 := ⟨wd_637, wd_97, by decide +kernel, by decide⟩
theorem mw_X3_give : zv_mw yX3_give cX3_give 2 (none) 1 := ⟨wd_724, wd_97, by decide +kernel, by decide⟩
theorem mw_X3_heed : zv_mw yX3_heed cX3_heed 4 (none) 3 := ⟨wd_701, wd_97, by decide +kernel, by decide⟩
theorem mw_X3_init : zv_mw yX3_init cX3_init 3 (none) 2 := ⟨wd_209, wd_97, by decide +kernel, by decide⟩
theorem mw_X3_isSortOfNumbers : zv_mw yX3_isSortOfNumbers cX3_isSortOfNumbers 1 ((some .boolean)) 1 := ⟨wd_764, wd_97, by decide +kernel, by decide⟩
theorem mw_X3_lead : zv_mw yX3_lead cX3_lead 5 (none) 3 := ⟨wd_641, wd_97, by decide +kernel, by decide⟩
theorem mw_X3_leadToHandlers : zv_mw yX3_leadToHandlers cX3_leadToHandlers 4 (none) 1 := ⟨wd_686, wd_97, by decide +kernel, by decide⟩
theorem mw_X3_look : zv_mw yX3_look cX3_look 5 (none) 1 := ⟨wd_657, wd_97, by decide +kernel, by decide⟩
theorem mw_X3_passCall : zv_mw yX3_passCall cX3_passCall 4 (none) 1 := ⟨wd_741, wd_97, by decide +kernel, by decide⟩
theorem mw_X3_readLocal : zv_mw yX3_readLocal cX3_readLocal 3 (none) 2 := ⟨wd_708, wd_97, by decide +kernel, by decide⟩
theorem mw_X3_require : zv_mw yX3_require cX3_require 2 (none) 1 := ⟨wd_645, wd_97, by decide +kernel, by decide⟩
theorem mw_X3_setLocal : zv_mw yX3_setLocal cX3_setLocal 3 (none) 2 := ⟨wd_712, wd_97, by decide +kernel, by decide⟩
theorem mw_X3_take : zv_mw yX3_take cX3_take 3 (none) 1 := ⟨wd_697, wd_97, by decide +kernel, by decide⟩
theorem mw_X3_takeNarrow : zv_mw yX3_takeNarrow cX3_takeNarrow 2 ((some .int)) 0 := ⟨wd_716, wd_97, by decide +kernel, by decide⟩
theorem mw_X4_beginFirst : zv_mw yX4_beginFirst cX4_beginFirst 14 (none) 3 := ⟨wd_851, wd_98, by decide +kernel, by decide⟩
theorem mw_X4_branch : zv_mw yX4_branch cX4_branch 4 ((some .int)) 1 := ⟨wd_1245, wd_98, by decide +kernel, by decide⟩
theorem mw_X4_call : zv_mw yX4_call cX4_call 3 ((some .int)) 0 := ⟨wd_1289, wd_98, by decide +kernel, by decide⟩
theorem mw_X4_cast : zv_mw yX4_cast cX4_cast 2 ((some .int)) 0 := ⟨wd_1381, wd_98, by decide +kernel, by decide⟩
theorem mw_X4_combined : zv_mw yX4_combined cX4_combined 5 ((some .long)) 3 := ⟨wd_1227, wd_98, by decide +kernel, by decide⟩
theorem mw_X4_convert : zv_mw yX4_convert cX4_convert 5 ((some .int)) 1 := ⟨wd_1231, wd_98, by decide +kernel, by decide⟩
theorem mw_X4_converted : zv_mw yX4_converted cX4_converted 3 ((some .long)) 2 := ⟨wd_1241, wd_98, by decide +kernel, by decide⟩
theorem mw_X4_faultOfElement : zv_mw yX4_faultOfElement cX4_faultOfElement 4 ((some .int)) 3 := ⟨wd_1162, wd_98, by decide +kernel, by decide⟩
theorem mw_X4_faultOfObject : zv_mw yX4_faultOfObject cX4_faultOfObject 3 ((some .int)) 2 := ⟨wd_1260, wd_98, by decide +kernel, by decide⟩
theorem mw_X4_goOn : zv_mw yX4_goOn cX4_goOn 2 ((some .int)) 1 := ⟨wd_1120, wd_98, by decide +kernel, by decide⟩
theorem mw_X4_holds : zv_mw yX4_holds cX4_holds 5 ((some .boolean)) 3 := ⟨wd_1248, wd_98, by decide +kernel, by decide⟩
theorem mw_X4_init : zv_mw yX4_init cX4_init 6 (none) 3 := ⟨wd_259, wd_98, by decide +kernel, by decide⟩
theorem mw_X4_isForSort : zv_mw yX4_isForSort cX4_isForSort 2 ((some .boolean)) 2 := ⟨wd_1169, wd_98, by decide +kernel, by decide⟩
theorem mw_X4_isOf : zv_mw yX4_isOf cX4_isOf 3 ((some .boolean)) 2 := ⟨wd_1264, wd_98, by decide +kernel, by decide⟩
theorem mw_X4_leave : zv_mw yX4_leave cX4_leave 3 ((some .int)) 1 := ⟨wd_1252, wd_98, by decide +kernel, by decide⟩
theorem mw_X4_loadElement : zv_mw yX4_loadElement cX4_loadElement 7 ((some .int)) 1 := ⟨wd_1150, wd_98, by decide +kernel, by decide⟩
theorem mw_X4_make : zv_mw yX4_make cX4_make 7 ((some .int)) 3 := ⟨wd_1307, wd_98, by decide +kernel, by decide⟩
theorem mw_X4_makeArray : zv_mw yX4_makeArray cX4_makeArray 5 ((some .int)) 2 := ⟨wd_1344, wd_98, by decide +kernel, by decide⟩
theorem mw_X4_makeObject : zv_mw yX4_makeObject cX4_makeObject 3 ((some .int)) 0 := ⟨wd_1299, wd_98, by decide +kernel, by decide⟩
theorem mw_X4_moved : zv_mw yX4_moved cX4_moved 7 ((some .long)) 4 := ⟨wd_1223, wd_98, by decide +kernel, by decide⟩
theorem mw_X4_perform : zv_mw yX4_perform cX4_perform 8 ((some .int)) 4 := ⟨wd_843, wd_98, by decide +kernel, by decide⟩
theorem mw_X4_push : zv_mw yX4_push cX4_push 2 ((some .int)) 1 := ⟨wd_1116, wd_98, by decide +kernel, by decide⟩
theorem mw_X4_raise : zv_mw yX4_raise cX4_raise 3 (none) 1 := ⟨wd_1389, wd_98, by decide +kernel, by decide⟩
theorem mw_X4_readField : zv_mw yX4_readField cX4_readField 6 ((some .int)) 0 := ⟨wd_1256, wd_98, by decide +kernel, by decide⟩
theorem mw_X4_reckon : zv_mw yX4_reckon cX4_reckon 11 ((some .int)) 1 := ⟨wd_1220, wd_98, by decide +kernel, by decide⟩
theorem mw_X4_shuffle : zv_mw yX4_shuffle cX4_shuffle 2 ((some .int)) 1 := ⟨wd_1208, wd_98, by decide +kernel, by decide⟩
theorem mw_X4_step : zv_mw yX4_step cX4_step 2 ((some .int)) 0 := ⟨wd_1107, wd_98, by decide +kernel, by decide⟩
theorem mw_X4_storeElement : zv_mw yX4_storeElement cX4_storeElement 5 ((some .int)) 1 := ⟨wd_1195, wd_98, by decide +kernel, by decide⟩
theorem mw_X4_storeLocal : zv_mw yX4_storeLocal cX4_storeLocal 1 ((some .int)) 0 := ⟨wd_1187, wd_98, by decide +kernel, by decide⟩
theorem mw_X4_tellLength : zv_mw yX4_tellLength cX4_tellLength 2 ((some .int)) 0 := ⟨wd_1354, wd_98, by decide +kernel, by decide⟩
theorem mw_X4_tellWhetherOf : zv_mw yX4_tellWhetherOf cX4_tellWhetherOf 3 ((some .int)) 0 := ⟨wd_1385, wd_98, by decide +kernel, by decide⟩
theorem mw_X4_throwTop : zv_mw yX4_throwTop cX4_throwTop 2 ((some .int)) 0 := ⟨wd_1359, wd_98, by decide +kernel, by decide⟩
theorem mw_X4_unwind : zv_mw yX4_unwind cX4_unwind 5 (none) 1 := ⟨wd_1363, wd_98, by decide +kernel, by decide⟩
theorem mw_X4_writeField : zv_mw yX4_writeField cX4_writeField 6 ((some .int)) 0 := ⟨wd_1281, wd_98, by decide +kernel, by decide⟩
theorem mw_X5_bytes : zv_mw yX5_bytes cX5_bytes 1 ((some .int)) 1 := ⟨wd_682, wd_112, by decide +kernel, by decide⟩
theorem mw_X5_goesOn : zv_mw yX5_goesOn cX5_goesOn 1 ((some .boolean)) 1 := ⟨wd_774, wd_112, by decide +kernel, by decide⟩
theorem mw_X5_jumps : zv_mw yX5_jumps cX5_jumps 1 ((some .boolean)) 1 := ⟨wd_767, wd_112, by decide +kernel, by decide⟩
theorem mw_X5_leaves : zv_mw yX5_leaves cX5_leaves 1 ((some .int)) 1 := ⟨wd_704, wd_112, by decide +kernel, by decide⟩
theorem mw_X5_pack : zv_mw yX5_pack cX5_pack 3 ((some .int)) 3 := ⟨wd_670, wd_112, by decide +kernel, by decide⟩
theorem mw_X5_shape : zv_mw yX5_shape cX5_shape 1 ((some .int)) 1 := ⟨wd_664, wd_112, by decide +kernel, by decide⟩
theorem mw_X5_shapeOfHeapUse : zv_mw yX5_shapeOfHeapUse cX5_shapeOfHeapUse 1 ((some .int)) 1 := ⟨wd_679, wd_112, by decide +kernel, by decide⟩
theorem mw_X5_shapeOfMove : zv_mw yX5_shapeOfMove cX5_shapeOfMove 1 ((some .int)) 1 := ⟨wd_667, wd_112, by decide +kernel, by decide⟩
theorem mw_X5_shapeOfReckoning : zv_mw yX5_shapeOfReckoning cX5_shapeOfReckoning 1 ((some .int)) 1 := ⟨wd_673, wd_112, by decide +kernel, by decide⟩
theorem mw_X5_shapeOfWay : zv_mw yX5_shapeOfWay cX5_shapeOfWay 1 ((some .int)) 1 := ⟨wd_676, wd_112, by decide +kernel, by decide⟩
theorem mw_X5_takes : zv_mw yX5_takes cX5_takes 1 ((some .int)) 1 := ⟨wd_693, wd_112, by decide +kernel, by decide⟩
theorem mw_X6_at : zv_mw yX6_at cX6_at 2 ((some .int)) 1 := ⟨wd_661, wd_101, by decide +kernel, by decide⟩
theorem mw_X6_guards : zv_mw yX6_guards cX6_guards 3 ((some .boolean)) 2 := ⟨wd_690, wd_101, by decide +kernel, by decide⟩
theorem mw_X6_init : zv_mw yX6_init cX6_init 7 (none) 6 := ⟨wd_307, wd_101, by decide +kernel, by decide⟩
theorem mw_X6_kindOfArgument : zv_mw yX6_kindOfArgument cX6_kindOfArgument 2 ((some .int)) 1 := ⟨wd_761, wd_101, by decide +kernel, by decide⟩
theorem mw_X6_pairAt : zv_mw yX6_pairAt cX6_pairAt 2 ((some .int)) 1 := ⟨wd_771, wd_101, by decide +kernel, by decide⟩
theorem mw_X6_placeToCatch : zv_mw yX6_placeToCatch cX6_placeToCatch 4 ((some .int)) 2 := ⟨wd_1371, wd_101, by decide +kernel, by decide⟩
theorem mw_X7_add : zv_mw yX7_add cX7_add 6 ((some .int)) 3 := ⟨wd_565, wd_92, by decide +kernel, by decide⟩
theorem mw_X7_has : zv_mw yX7_has cX7_has 2 ((some .boolean)) 1 := ⟨wd_543, wd_92, by decide +kernel, by decide⟩
theorem mw_X7_init : zv_mw yX7_init cX7_init 2 (none) 0 := ⟨wd_136, wd_92, by decide +kernel, by decide⟩
theorem mw_X7_kindOfField : zv_mw yX7_kindOfField cX7_kindOfField 3 ((some .int)) 2 := ⟨wd_737, wd_92, by decide +kernel, by decide⟩
theorem mw_X8_argumentsIn : zv_mw yX8_argumentsIn cX8_argumentsIn 2 ((some .int)) 1 := ⟨wd_311, wd_91, by decide +kernel, by decide⟩
