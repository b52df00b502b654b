theorem dX9_doFetch_31 : decode cX9_doFetch 31 = .ok (.invokevirtual 328, 3) := by decide +kernel
theorem dX9_doFetch_34 : decode cX9_doFetch 34 = .ok (.return_, 1) := by decide +kernel
theorem dX9_doFetch_35 : decode cX9_doFetch 35 = .ok (.aload_n 0, 1) := by decide +kernel
theorem dX9_doFetch_36 : decode cX9_doFetch 36 = .ok (.invokevirtual 284, 3) := by decide +kernel
theorem dX9_doFetch_39 : decode cX9_doFetch 39 = .ok (.pop2, 1) := by decide +kernel
theorem dX9_doFetch_40 : decode cX9_doFetch 40 = .ok (.aload_n 0, 1) := by decide +kernel
theorem dX9_doFetch_41 : decode cX9_doFetch 41 = .ok (.invokevirtual 284, 3) := by decide +kernel
theorem dX9_doFetch_44 : decode cX9_doFetch 44 = .ok (.pop2, 1) := by decide +kernel
theorem dX9_doFetch_45 : decode cX9_doFetch 45 = .ok (.aload_n 0, 1) := by decide +kernel
theorem dX9_doFetch_46 : decode cX9_doFetch 46 = .ok (.iload_n 1, 1) := by decide +kernel
theorem dX9_doFetch_47 : decode cX9_doFetch 47 = .ok (.invokestatic 185, 3) := by decide +kernel
theorem dX9_doFetch_50 : decode cX9_doFetch 50 = .ok (.aload_n 0, 1) := by decide +kernel
theorem dX9_doFetch_51 : decode cX9_doFetch 51 = .ok (.getfield 92, 3) := by decide +kernel
theorem dX9_doFetch_54 : decode cX9_doFetch 54 = .ok (.aload_n 0, 1) := by decide +kernel
theorem dX9_doFetch_55 : decode cX9_doFetch 55 = .ok (.getfield 86, 3) := by decide +kernel
theorem dX9_doFetch_58 : decode cX9_doFetch 58 = .ok (.lload 4, 2) := by decide +kernel
theorem dX9_doFetch_60 : decode cX9_doFetch 60 = .ok (.l2i, 1) := by decide +kernel
theorem dX9_doFetch_61 : decode cX9_doFetch 61 = .ok (.iconst 1, 1) := by decide +kernel
theorem dX9_doFetch_62 : decode cX9_doFetch 62 = .ok (.isub, 1) := by decide +kernel
theorem dX9_doFetch_63 : decode cX9_doFetch 63 = .ok (.iaload, 1) := by decide +kernel
theorem dX9_doFetch_64 : decode cX9_doFetch 64 = .ok (.lload_n 2, 1) := by decide +kernel
theorem dX9_doFetch_65 : decode cX9_doFetch 65 = .ok (.l2i, 1) := by decide +kernel
theorem dX9_doFetch_66 : decode cX9_doFetch 66 = .ok (.iadd, 1) := by decide +kernel
theorem dX9_doFetch_67 : decode cX9_doFetch 67 = .ok (.laload, 1) := by decide +kernel
theorem dX9_doFetch_68 : decode cX9_doFetch 68 = .ok (.invokevirtual 274, 3) := by decide +kernel
theorem dX9_doFetch_71 : decode cX9_doFetch 71 = .ok (.return_, 1) := by decide +kernel
theorem dX9_doLoad_0 : decode cX9_doLoad 0 = .ok (.iload_n 2, 1) := by decide +kernel
theorem dX9_doLoad_1 : decode cX9_doLoad 1 = .ok (.iconst 1, 1) := by decide +kernel
theorem dX9_doLoad_2 : decode cX9_doLoad 2 = .ok (.if_icmp .ne 12, 3) := by decide +kernel
theorem dX9_doLoad_5 : decode cX9_doLoad 5 = .ok (.aload_n 0, 1) := by decide +kernel
theorem dX9_doLoad_6 : decode cX9_doLoad 6 = .ok (.iconst 3, 1) := by decide +kernel
theorem dX9_doLoad_7 : decode cX9_doLoad 7 = .ok (.lconst 0, 1) := by decide +kernel
theorem dX9_doLoad_8 : decode cX9_doLoad 8 = .ok (.invokevirtual 274, 3) := by decide +kernel
theorem dX9_doLoad_11 : decode cX9_doLoad 11 = .ok (.goto 128, 3) := by decide +kernel
theorem dX9_doLoad_14 : decode cX9_doLoad 14 = .ok (.iload_n 2, 1) := by decide +kernel
theorem dX9_doLoad_15 : decode cX9_doLoad 15 = .ok (.iconst 1, 1) := by decide +kernel
theorem dX9_doLoad_16 : decode cX9_doLoad 16 = .ok (.if_icmp .le 21, 3) := by decide +kernel
theorem dX9_doLoad_19 : decode cX9_doLoad 19 = .ok (.iload_n 2, 1) := by decide +kernel
theorem dX9_doLoad_20 : decode cX9_doLoad 20 = .ok (.bipush 9, 2) := by decide +kernel
theorem dX9_doLoad_22 : decode cX9_doLoad 22 = .ok (.if_icmp .ge 15, 3) := by decide +kernel
theorem dX9_doLoad_25 : decode cX9_doLoad 25 = .ok (.aload_n 0, 1) := by decide +kernel
theorem dX9_doLoad_26 : decode cX9_doLoad 26 = .ok (.iconst 1, 1) := by decide +kernel
theorem dX9_doLoad_27 : decode cX9_doLoad 27 = .ok (.iload_n 2, 1) := by decide +kernel
theorem dX9_doLoad_28 : decode cX9_doLoad 28 = .ok (.iconst 3, 1) := by decide +kernel
theorem dX9_doLoad_29 : decode cX9_doLoad 29 = .ok (.isub, 1) := by decide +kernel
theorem dX9_doLoad_30 : decode cX9_doLoad 30 = .ok (.i2l, 1) := by decide +kernel
theorem dX9_doLoad_31 : decode cX9_doLoad 31 = .ok (.invokevirtual 274, 3) := by decide +kernel
theorem dX9_doLoad_34 : decode cX9_doLoad 34 = .ok (.goto 105, 3) := by decide +kernel
theorem dX9_doLoad_37 : decode cX9_doLoad 37 = .ok (.iload_n 2, 1) := by decide +kernel
theorem dX9_doLoad_38 : decode cX9_doLoad 38 = .ok (.bipush 9, 2) := by decide +kernel
theorem dX9_doLoad_40 : decode cX9_doLoad 40 = .ok (.if_icmp .eq 9, 3) := by decide +kernel
theorem dX9_doLoad_43 : decode cX9_doLoad 43 = .ok (.iload_n 2, 1) := by decide +kernel
theorem dX9_doLoad_44 : decode cX9_doLoad 44 = .ok (.bipush 10, 2) := by decide +kernel
theorem dX9_doLoad_46 : decode cX9_doLoad 46 = .ok (.if_icmp .ne 16, 3) := by decide +kernel
theorem dX9_doLoad_49 : decode cX9_doLoad 49 = .ok (.aload_n 0, 1) := by decide +kernel
theorem dX9_doLoad_50 : decode cX9_doLoad 50 = .ok (.iconst 2, 1) := by decide +kernel
theorem dX9_doLoad_51 : decode cX9_doLoad 51 = .ok (.iload_n 2, 1) := by decide +kernel
theorem dX9_doLoad_52 : decode cX9_doLoad 52 = .ok (.bipush 9, 2) := by decide +kernel
theorem dX9_doLoad_54 : decode cX9_doLoad 54 = .ok (.isub, 1) := by decide +kernel
theorem dX9_doLoad_55 : decode cX9_doLoad 55 = .ok (.i2l, 1) := by decide +kernel
theorem dX9_doLoad_56 : decode cX9_doLoad 56 = .ok (.invokevirtual 274, 3) := by decide +kernel
theorem dX9_doLoad_59 : decode cX9_doLoad 59 = .ok (.goto 80, 3) := by decide +kernel
theorem dX9_doLoad_62 : decode cX9_doLoad 62 = .ok (.iload_n 2, 1) := by decide +kernel
theorem dX9_doLoad_63 : decode cX9_doLoad 63 = .ok (.bipush 16, 2) := by decide +kernel
theorem dX9_doLoad_65 : decode cX9_doLoad 65 = .ok (.if_icmp .ne 16, 3) := by decide +kernel
theorem dX9_doLoad_68 : decode cX9_doLoad 68 = .ok (.aload_n 0, 1) := by decide +kernel
theorem dX9_doLoad_69 : decode cX9_doLoad 69 = .ok (.iconst 1, 1) := by decide +kernel
theorem dX9_doLoad_70 : decode cX9_doLoad 70 = .ok (.iload_n 3, 1) := by decide +kernel
theorem dX9_doLoad_71 : decode cX9_doLoad 71 = .ok (.invokestatic 164, 3) := by decide +kernel
theorem dX9_doLoad_74 : decode cX9_doLoad 74 = .ok (.i2l, 1) := by decide +kernel
theorem dX9_doLoad_75 : decode cX9_doLoad 75 = .ok (.invokevirtual 274, 3) := by decide +kernel
theorem dX9_doLoad_78 : decode cX9_doLoad 78 = .ok (.goto 61, 3) := by decide +kernel
theorem dX9_doLoad_81 : decode cX9_doLoad 81 = .ok (.iload_n 2, 1) := by decide +kernel
theorem dX9_doLoad_82 : decode cX9_doLoad 82 = .ok (.bipush 17, 2) := by decide +kernel
theorem dX9_doLoad_84 : decode cX9_doLoad 84 = .ok (.if_icmp .ne 23, 3) := by decide +kernel
theorem dX9_doLoad_87 : decode cX9_doLoad 87 = .ok (.aload_n 0, 1) := by decide +kernel
theorem dX9_doLoad_88 : decode cX9_doLoad 88 = .ok (.iconst 1, 1) := by decide +kernel
theorem dX9_doLoad_89 : decode cX9_doLoad 89 = .ok (.iload_n 3, 1) := by decide +kernel
theorem dX9_doLoad_90 : decode cX9_doLoad 90 = .ok (.invokestatic 164, 3) := by decide +kernel
theorem dX9_doLoad_93 : decode cX9_doLoad 93 = .ok (.sipush 256, 3) := by decide +kernel
theorem dX9_doLoad_96 : decode cX9_doLoad 96 = .ok (.imul, 1) := by decide +kernel
theorem dX9_doLoad_97 : decode cX9_doLoad 97 = .ok (.iload 4, 2) := by decide +kernel
theorem dX9_doLoad_99 : decode cX9_doLoad 99 = .ok (.iadd, 1) := by decide +kernel
theorem dX9_doLoad_100 : decode cX9_doLoad 100 = .ok (.i2l, 1) := by decide +kernel
theorem dX9_doLoad_101 : decode cX9_doLoad 101 = .ok (.invokevirtual 274, 3) := by decide +kernel
theorem dX9_doLoad_104 : decode cX9_doLoad 104 = .ok (.goto 35, 3) := by decide +kernel
theorem dX9_doLoad_107 : decode cX9_doLoad 107 = .ok (.iload_n 2, 1) := by decide +kernel
theorem dX9_doLoad_108 : decode cX9_doLoad 108 = .ok (.bipush 17, 2) := by decide +kernel
theorem dX9_doLoad_110 : decode cX9_doLoad 110 = .ok (.if_icmp .le 29, 3) := by decide +kernel
theorem dX9_doLoad_113 : decode cX9_doLoad 113 = .ok (.aload_n 0, 1) := by decide +kernel
theorem dX9_doLoad_114 : decode cX9_doLoad 114 = .ok (.aload_n 0, 1) := by decide +kernel
theorem dX9_doLoad_115 : decode cX9_doLoad 115 = .ok (.getfield 111, 3) := by decide +kernel
theorem dX9_doLoad_118 : decode cX9_doLoad 118 = .ok (.bipush 16, 2) := by decide +kernel
theorem dX9_doLoad_120 : decode cX9_doLoad 120 = .ok (.iload_n 1, 1) := by decide +kernel
theorem dX9_doLoad_121 : decode cX9_doLoad 121 = .ok (.imul, 1) := by decide +kernel
theorem dX9_doLoad_122 : decode cX9_doLoad 122 = .ok (.iload_n 3, 1) := by decide +kernel
theorem dX9_doLoad_123 : decode cX9_doLoad 123 = .ok (.iadd, 1) := by decide +kernel
theorem dX9_doLoad_124 : decode cX9_doLoad 124 = .ok (.iaload, 1) := by decide +kernel
theorem dX9_doLoad_125 : decode cX9_doLoad 125 = .ok (.aload_n 0, 1) := by decide +kernel
theorem dX9_doLoad_126 : decode cX9_doLoad 126 = .ok (.getfield 108, 3) := by decide +kernel
theorem dX9_doLoad_129 : decode cX9_doLoad 129 = .ok (.bipush 16, 2) := by decide +kernel
theorem dX9_doLoad_131 : decode cX9_doLoad 131 = .ok (.iload_n 1, 1) := by decide +kernel
theorem dX9_doLoad_132 : decode cX9_doLoad 132 = .ok (.imul, 1) := by decide +kernel
theorem dX9_doLoad_133 : decode cX9_doLoad 133 = .ok (.iload_n 3, 1) := by decide +kernel
theorem dX9_doLoad_134 : decode cX9_doLoad 134 = .ok (.iadd, 1) := by decide +kernel
theorem dX9_doLoad_135 : decode cX9_doLoad 135 = .ok (.laload, 1) := by decide +kernel
theorem dX9_doLoad_136 : decode cX9_doLoad 136 = .ok (.invokevirtual 274, 3) := by decide +kernel
theorem dX9_doLoad_139 : decode cX9_doLoad 139 = .ok (.return_, 1) := by decide +kernel
theorem dX9_ofInts_0 : decode cX9_ofInts 0 = .ok (.iload_n 0, 1) := by decide +kernel
theorem dX9_ofInts_1 : decode cX9_ofInts 1 = .ok (.tableswitch 187 96 128 #[147, 187, 187, 187, 151, 187, 187, 187, 155, 187, 187, 187, 159, 187, 187, 187, 163, 187, 187, 187, 187, 187, 187, 187, 167, 187, 171, 187, 175, 187, 179, 187, 183], 147) := by decide +kernel
theorem dX9_ofInts_148 : decode cX9_ofInts 148 = .ok (.iload_n 1, 1) := by decide +kernel
theorem dX9_ofInts_149 : decode cX9_ofInts 149 = .ok (.iload_n 2, 1) := by decide +kernel
theorem dX9_ofInts_150 : decode cX9_ofInts 150 = .ok (.iadd, 1) := by decide +kernel
theorem dX9_ofInts_151 : decode cX9_ofInts 151 = .ok (.ireturn, 1) := by decide +kernel
theorem dX9_ofInts_152 : decode cX9_ofInts 152 = .ok (.iload_n 1, 1) := by decide +kernel
theorem dX9_ofInts_153 : decode cX9_ofInts 153 = .ok (.iload_n 2, 1) := by decide +kernel
theorem dX9_ofInts_154 : decode cX9_ofInts 154 = .ok (.isub, 1) := by decide +kernel
theorem dX9_ofInts_155 : decode cX9_ofInts 155 = .ok (.ireturn, 1) := by decide +kernel
theorem dX9_ofInts_156 : decode cX9_ofInts 156 = .ok (.iload_n 1, 1) := by decide +kernel
theorem dX9_ofInts_157 : decode cX9_ofInts 157 = .ok (.iload_n 2, 1) := by decide +kernel
theorem dX9_ofInts_158 : decode cX9_ofInts 158 = .ok (.imul, 1) := by decide +kernel
theorem dX9_ofInts_159 : decode cX9_ofInts 159 = .ok (.ireturn, 1) := by decide +kernel
theorem dX9_ofInts_160 : decode cX9_ofInts 160 = .ok (.iload_n 1, 1) := by decide +kernel
theorem dX9_ofInts_161 : decode cX9_ofInts 161 = .ok (.iload_n 2, 1) := by decide +kernel
theorem dX9_ofInts_162 : decode cX9_ofInts 162 = .ok (.idiv, 1) := by decide +kernel
theorem dX9_ofInts_163 : decode cX9_ofInts 163 = .ok (.ireturn, 1) := by decide +kernel
theorem dX9_ofInts_164 : decode cX9_ofInts 164 = .ok (.iload_n 1, 1) := by decide +kernel
theorem dX9_ofInts_165 : decode cX9_ofInts 165 = .ok (.iload_n 2, 1) := by decide +kernel
theorem dX9_ofInts_166 : decode cX9_ofInts 166 = .ok (.irem, 1) := by decide +kernel
theorem dX9_ofInts_167 : decode cX9_ofInts 167 = .ok (.ireturn, 1) := by decide +kernel
theorem dX9_ofInts_168 : decode cX9_ofInts 168 = .ok (.iload_n 1, 1) := by decide +kernel
theorem dX9_ofInts_169 : decode cX9_ofInts 169 = .ok (.iload_n 2, 1) := by decide +kernel
theorem dX9_ofInts_170 : decode cX9_ofInts 170 = .ok (.ishl, 1) := by decide +kernel
theorem dX9_ofInts_171 : decode cX9_ofInts 171 = .ok (.ireturn, 1) := by decide +kernel
theorem dX9_ofInts_172 : decode cX9_ofInts 172 = .ok (.iload_n 1, 1) := by decide +kernel
theorem dX9_ofInts_173 : decode cX9_ofInts 173 = .ok (.iload_n 2, 1) := by decide +kernel
theorem dX9_ofInts_174 : decode cX9_ofInts 174 = .ok (.ishr, 1) := by decide +kernel
theorem dX9_ofInts_175 : decode cX9_ofInts 175 = .ok (.ireturn, 1) := by decide +kernel
theorem dX9_ofInts_176 : decode cX9_ofInts 176 = .ok (.iload_n 1, 1) := by decide +kernel
theorem dX9_ofInts_177 : decode cX9_ofInts 177 = .ok (.iload_n 2, 1) := by decide +kernel
theorem dX9_ofInts_178 : decode cX9_ofInts 178 = .ok (.iushr, 1) := by decide +kernel
theorem dX9_ofInts_179 : decode cX9_ofInts 179 = .ok (.ireturn, 1) := by decide +kernel
theorem dX9_ofInts_180 : decode cX9_ofInts 180 = .ok (.iload_n 1, 1) := by decide +kernel
theorem dX9_ofInts_181 : decode cX9_ofInts 181 = .ok (.iload_n 2, 1) := by decide +kernel
theorem dX9_ofInts_182 : decode cX9_ofInts 182 = .ok (.iand, 1) := by decide +kernel
theorem dX9_ofInts_183 : decode cX9_ofInts 183 = .ok (.ireturn, 1) := by decide +kernel
theorem dX9_ofInts_184 : decode cX9_ofInts 184 = .ok (.iload_n 1, 1) := by decide +kernel
theorem dX9_ofInts_185 : decode cX9_ofInts 185 = .ok (.iload_n 2, 1) := by decide +kernel
theorem dX9_ofInts_186 : decode cX9_ofInts 186 = .ok (.ior, 1) := by decide +kernel
theorem dX9_ofInts_187 : decode cX9_ofInts 187 = .ok (.ireturn, 1) := by decide +kernel
theorem dX9_ofInts_188 : decode cX9_ofInts 188 = .ok (.iload_n 1, 1) := by decide +kernel
theorem dX9_ofInts_189 : decode cX9_ofInts 189 = .ok (.iload_n 2, 1) := by decide +kernel
theorem dX9_ofInts_190 : decode cX9_ofInts 190 = .ok (.ixor, 1) := by decide +kernel
theorem dX9_ofInts_191 : decode cX9_ofInts 191 = .ok (.ireturn, 1) := by decide +kernel
theorem dX9_ofLongs_0 : decode cX9_ofLongs 0 = .ok (.iload_n 0, 1) := by decide +kernel
theorem dX9_ofLongs_1 : decode cX9_ofLongs 1 = .ok (.tableswitch 190 97 129 #[147, 190, 190, 190, 151, 190, 190, 190, 155, 190, 190, 190, 159, 190, 190, 190, 163, 190, 190, 190, 190, 190, 190, 190, 167, 190, 172, 190, 177, 190, 182, 190, 186], 147) := by decide +kernel
theorem dX9_ofLongs_148 : decode cX9_ofLongs 148 = .ok (.lload_n 1, 1) := by decide +kernel
theorem dX9_ofLongs_149 : decode cX9_ofLongs 149 = .ok (.lload_n 3, 1) := by decide +kernel
theorem dX9_ofLongs_150 : decode cX9_ofLongs 150 = .ok (.ladd, 1) := by decide +kernel
theorem dX9_ofLongs_151 : decode cX9_ofLongs 151 = .ok (.lreturn, 1) := by decide +kernel
theorem dX9_ofLongs_152 : decode cX9_ofLongs 152 = .ok (.lload_n 1, 1) := by decide +kernel
theorem dX9_ofLongs_153 : decode cX9_ofLongs 153 = .ok (.lload_n 3, 1) := by decide +kernel
theorem dX9_ofLongs_154 : decode cX9_ofLongs 154 = .ok (.lsub, 1) := by decide +kernel
theorem dX9_ofLongs_155 : decode cX9_ofLongs 155 = .ok (.lreturn, 1) := by decide +kernel
theorem dX9_ofLongs_156 : decode cX9_ofLongs 156 = .ok (.lload_n 1, 1) := by decide +kernel
theorem dX9_ofLongs_157 : decode cX9_ofLongs 157 = .ok (.lload_n 3, 1) := by decide +kernel
theorem dX9_ofLongs_158 : decode cX9_ofLongs 158 = .ok (.lmul, 1) := by decide +kernel
theorem dX9_ofLongs_159 : decode cX9_ofLongs 159 = .ok (.lreturn, 1) := by decide +kernel
theorem dX9_ofLongs_160 : decode cX9_ofLongs 160 = .ok (.lload_n 1, 1) := by decide +kernel
theorem dX9_ofLongs_161 : decode cX9_ofLongs 161 = .ok (.lload_n 3, 1) := by decide +kernel
theorem dX9_ofLongs_162 : decode cX9_ofLongs 162 = .ok (.ldiv, 1) := by decide +kernel
theorem dX9_ofLongs_163 : decode cX9_ofLongs 163 = .ok (.lreturn, 1) := by decide +kernel
theorem dX9_ofLongs_164 : decode cX9_ofLongs 164 = .ok (.lload_n 1, 1) := by decide +kernel
theorem dX9_ofLongs_165 : decode cX9_ofLongs 165 = .ok (.lload_n 3, 1) := by decide +kernel
theorem dX9_ofLongs_166 : decode cX9_ofLongs 166 = .ok (.lrem, 1) := by decide +kernel
theorem dX9_ofLongs_167 : decode cX9_ofLongs 167 = .ok (.lreturn, 1) := by decide +kernel
theorem dX9_ofLongs_168 : decode cX9_ofLongs 168 = .ok (.lload_n 1, 1) := by decide +kernel
theorem dX9_ofLongs_169 : decode cX9_ofLongs 169 = .ok (.lload_n 3, 1) := by decide +kernel
theorem dX9_ofLongs_170 : decode cX9_ofLongs 170 = .ok (.l2i, 1) := by decide +kernel
theorem dX9_ofLongs_171 : decode cX9_ofLongs 171 = .ok (.lshl, 1) := by decide +kernel
theorem dX9_ofLongs_172 : decode cX9_ofLongs 172 = .ok (.lreturn, 1) := by decide +kernel
theorem dX9_ofLongs_173 : decode cX9_ofLongs 173 = .ok (.lload_n 1, 1) := by decide +kernel
theorem dX9_ofLongs_174 : decode cX9_ofLongs 174 = .ok (.lload_n 3, 1) := by decide +kernel
theorem dX9_ofLongs_175 : decode cX9_ofLongs 175 = .ok (.l2i, 1) := by decide +kernel
theorem dX9_ofLongs_176 : decode cX9_ofLongs 176 = .ok (.lshr, 1) := by decide +kernel
theorem dX9_ofLongs_177 : decode cX9_ofLongs 177 = .ok (.lreturn, 1) := by decide +kernel
theorem dX9_ofLongs_178 : decode cX9_ofLongs 178 = .ok (.lload_n 1, 1) := by decide +kernel
theorem dX9_ofLongs_179 : decode cX9_ofLongs 179 = .ok (.lload_n 3, 1) := by decide +kernel
theorem dX9_ofLongs_180 : decode cX9_ofLongs 180 = .ok (.l2i, 1) := by decide +kernel
theorem dX9_ofLongs_181 : decode cX9_ofLongs 181 = .ok (.lushr, 1) := by decide +kernel
theorem dX9_ofLongs_182 : decode cX9_ofLongs 182 = .ok (.lreturn, 1) := by decide +kernel
theorem dX9_ofLongs_183 : decode cX9_ofLongs 183 = .ok (.lload_n 1, 1) := by decide +kernel
theorem dX9_ofLongs_184 : decode cX9_ofLongs 184 = .ok (.lload_n 3, 1) := by decide +kernel
theorem dX9_ofLongs_185 : decode cX9_ofLongs 185 = .ok (.land, 1) := by decide +kernel
theorem dX9_ofLongs_186 : decode cX9_ofLongs 186 = .ok (.lreturn, 1) := by decide +kernel
theorem dX9_ofLongs_187 : decode cX9_ofLongs 187 = .ok (.lload_n 1, 1) := by decide +kernel
theorem dX9_ofLongs_188 : decode cX9_ofLongs 188 = .ok (.lload_n 3, 1) := by decide +kernel
theorem dX9_ofLongs_189 : decode cX9_ofLongs 189 = .ok (.lor, 1) := by decide +kernel
theorem dX9_ofLongs_190 : decode cX9_ofLongs 190 = .ok (.lreturn, 1) := by decide +kernel
theorem dX9_ofLongs_191 : decode cX9_ofLongs 191 = .ok (.lload_n 1, 1) := by decide +kernel
theorem dX9_ofLongs_192 : decode cX9_ofLongs 192 = .ok (.lload_n 3, 1) := by decide +kernel
theorem dX9_ofLongs_193 : decode cX9_ofLongs 193 = .ok (.lxor, 1) := by decide +kernel
theorem dX9_ofLongs_194 : decode cX9_ofLongs 194 = .ok (.lreturn, 1) := by decide +kernel
theorem dX9_doReckoning_0 : decode cX9_doReckoning 0 = .ok (.iload_n 2, 1) := by decide +kernel
theorem dX9_doReckoning_1 : decode cX9_doReckoning 1 = .ok (.sipush 132, 3) := by decide +kernel
theorem dX9_doReckoning_4 : decode cX9_doReckoning 4 = .ok (.if_icmp .ne 37, 3) := by decide +kernel
theorem dX9_doReckoning_7 : decode cX9_doReckoning 7 = .ok (.aload_n 0, 1) := by decide +kernel
theorem dX9_doReckoning_8 : decode cX9_doReckoning 8 = .ok (.getfield 108, 3) := by decide +kernel
theorem dX9_doReckoning_11 : decode cX9_doReckoning 11 = .ok (.bipush 16, 2) := by decide +kernel
theorem dX9_doReckoning_13 : decode cX9_doReckoning 13 = .ok (.iload_n 1, 1) := by decide +kernel
theorem dX9_doReckoning_14 : decode cX9_doReckoning 14 = .ok (.imul, 1) := by decide +kernel
theorem dX9_doReckoning_15 : decode cX9_doReckoning 15 = .ok (.iload_n 3, 1) := by decide +kernel
theorem dX9_doReckoning_16 : decode cX9_doReckoning 16 = .ok (.iadd, 1) := by decide +kernel
theorem dX9_doReckoning_17 : decode cX9_doReckoning 17 = .ok (.aload_n 0, 1) := by decide +kernel
theorem dX9_doReckoning_18 : decode cX9_doReckoning 18 = .ok (.getfield 108, 3) := by decide +kernel
theorem dX9_doReckoning_21 : decode cX9_doReckoning 21 = .ok (.bipush 16, 2) := by decide +kernel
theorem dX9_doReckoning_23 : decode cX9_doReckoning 23 = .ok (.iload_n 1, 1) := by decide +kernel
theorem dX9_doReckoning_24 : decode cX9_doReckoning 24 = .ok (.imul, 1) := by decide +kernel
theorem dX9_doReckoning_25 : decode cX9_doReckoning 25 = .ok (.iload_n 3, 1) := by decide +kernel
theorem dX9_doReckoning_26 : decode cX9_doReckoning 26 = .ok (.iadd, 1) := by decide +kernel
theorem dX9_doReckoning_27 : decode cX9_doReckoning 27 = .ok (.laload, 1) := by decide +kernel
theorem dX9_doReckoning_28 : decode cX9_doReckoning 28 = .ok (.iload 4, 2) := by decide +kernel
theorem dX9_doReckoning_30 : decode cX9_doReckoning 30 = .ok (.invokestatic 164, 3) := by decide +kernel
theorem dX9_doReckoning_33 : decode cX9_doReckoning 33 = .ok (.i2l, 1) := by decide +kernel
theorem dX9_doReckoning_34 : decode cX9_doReckoning 34 = .ok (.ladd, 1) := by decide +kernel
theorem dX9_doReckoning_35 : decode cX9_doReckoning 35 = .ok (.l2i, 1) := by decide +kernel
theorem dX9_doReckoning_36 : decode cX9_doReckoning 36 = .ok (.i2l, 1) := by decide +kernel
theorem dX9_doReckoning_37 : decode cX9_doReckoning 37 = .ok (.lastore, 1) := by decide +kernel
theorem dX9_doReckoning_38 : decode cX9_doReckoning 38 = .ok (.goto 314, 3) := by decide +kernel
theorem dX9_doReckoning_41 : decode cX9_doReckoning 41 = .ok (.iload_n 2, 1) := by decide +kernel
theorem dX9_doReckoning_42 : decode cX9_doReckoning 42 = .ok (.sipush 133, 3) := by decide +kernel
theorem dX9_doReckoning_45 : decode cX9_doReckoning 45 = .ok (.if_icmp .ne 15, 3) := by decide +kernel
theorem dX9_doReckoning_48 : decode cX9_doReckoning 48 = .ok (.aload_n 0, 1) := by decide +kernel
theorem dX9_doReckoning_49 : decode cX9_doReckoning 49 = .ok (.iconst 2, 1) := by decide +kernel
theorem dX9_doReckoning_50 : decode cX9_doReckoning 50 = .ok (.aload_n 0, 1) := by decide +kernel
theorem dX9_doReckoning_51 : decode cX9_doReckoning 51 = .ok (.invokevirtual 284, 3) := by decide +kernel
theorem dX9_doReckoning_54 : decode cX9_doReckoning 54 = .ok (.invokevirtual 274, 3) := by decide +kernel
theorem dX9_doReckoning_57 : decode cX9_doReckoning 57 = .ok (.goto 295, 3) := by decide +kernel
theorem dX9_doReckoning_60 : decode cX9_doReckoning 60 = .ok (.iload_n 2, 1) := by decide +kernel
theorem dX9_doReckoning_61 : decode cX9_doReckoning 61 = .ok (.sipush 136, 3) := by decide +kernel
theorem dX9_doReckoning_64 : decode cX9_doReckoning 64 = .ok (.if_icmp .ne 17, 3) := by decide +kernel
theorem dX9_doReckoning_67 : decode cX9_doReckoning 67 = .ok (.aload_n 0, 1) := by decide +kernel
theorem dX9_doReckoning_68 : decode cX9_doReckoning 68 = .ok (.iconst 1, 1) := by decide +kernel
theorem dX9_doReckoning_69 : decode cX9_doReckoning 69 = .ok (.aload_n 0, 1) := by decide +kernel
theorem dX9_doReckoning_70 : decode cX9_doReckoning 70 = .ok (.invokevirtual 284, 3) := by decide +kernel
theorem dX9_doReckoning_73 : decode cX9_doReckoning 73 = .ok (.l2i, 1) := by decide +kernel
theorem dX9_doReckoning_74 : decode cX9_doReckoning 74 = .ok (.i2l, 1) := by decide +kernel
theorem dX9_doReckoning_75 : decode cX9_doReckoning 75 = .ok (.invokevirtual 274, 3) := by decide +kernel
theorem dX9_doReckoning_78 : decode cX9_doReckoning 78 = .ok (.goto 274, 3) := by decide +kernel
theorem dX9_doReckoning_81 : decode cX9_doReckoning 81 = .ok (.iload_n 2, 1) := by decide +kernel
theorem dX9_doReckoning_82 : decode cX9_doReckoning 82 = .ok (.sipush 144, 3) := by decide +kernel
theorem dX9_doReckoning_85 : decode cX9_doReckoning 85 = .ok (.if_icmp .le 59, 3) := by decide +kernel
theorem dX9_doReckoning_88 : decode cX9_doReckoning 88 = .ok (.iload_n 2, 1) := by decide +kernel
theorem dX9_doReckoning_89 : decode cX9_doReckoning 89 = .ok (.sipush 148, 3) := by decide +kernel
theorem dX9_doReckoning_92 : decode cX9_doReckoning 92 = .ok (.if_icmp .ge 52, 3) := by decide +kernel
theorem dX9_doReckoning_95 : decode cX9_doReckoning 95 = .ok (.aload_n 0, 1) := by decide +kernel
theorem dX9_doReckoning_96 : decode cX9_doReckoning 96 = .ok (.invokevirtual 284, 3) := by decide +kernel
theorem dX9_doReckoning_99 : decode cX9_doReckoning 99 = .ok (.lstore 5, 2) := by decide +kernel
theorem dX9_doReckoning_101 : decode cX9_doReckoning 101 = .ok (.aload_n 0, 1) := by decide +kernel
theorem dX9_doReckoning_102 : decode cX9_doReckoning 102 = .ok (.iconst 1, 1) := by decide +kernel
theorem dX9_doReckoning_103 : decode cX9_doReckoning 103 = .ok (.iload_n 2, 1) := by decide +kernel
theorem dX9_doReckoning_104 : decode cX9_doReckoning 104 = .ok (.sipush 145, 3) := by decide +kernel
theorem dX9_doReckoning_107 : decode cX9_doReckoning 107 = .ok (.if_icmp .ne 11, 3) := by decide +kernel
theorem dX9_doReckoning_110 : decode cX9_doReckoning 110 = .ok (.lload 5, 2) := by decide +kernel
theorem dX9_doReckoning_112 : decode cX9_doReckoning 112 = .ok (.l2i, 1) := by decide +kernel
theorem dX9_doReckoning_113 : decode cX9_doReckoning 113 = .ok (.i2b, 1) := by decide +kernel
theorem dX9_doReckoning_114 : decode cX9_doReckoning 114 = .ok (.i2l, 1) := by decide +kernel
theorem dX9_doReckoning_115 : decode cX9_doReckoning 115 = .ok (.goto 23, 3) := by decide +kernel
theorem dX9_doReckoning_118 : decode cX9_doReckoning 118 = .ok (.iload_n 2, 1) := by decide +kernel
theorem dX9_doReckoning_119 : decode cX9_doReckoning 119 = .ok (.sipush 146, 3) := by decide +kernel
theorem dX9_doReckoning_122 : decode cX9_doReckoning 122 = .ok (.if_icmp .ne 11, 3) := by decide +kernel
theorem dX9_doReckoning_125 : decode cX9_doReckoning 125 = .ok (.lload 5, 2) := by decide +kernel
theorem dX9_doReckoning_127 : decode cX9_doReckoning 127 = .ok (.l2i, 1) := by decide +kernel
theorem dX9_doReckoning_128 : decode cX9_doReckoning 128 = .ok (.i2c, 1) := by decide +kernel
theorem dX9_doReckoning_129 : decode cX9_doReckoning 129 = .ok (.i2l, 1) := by decide +kernel
theorem dX9_doReckoning_130 : decode cX9_doReckoning 130 = .ok (.goto 8, 3) := by decide +kernel
theorem dX9_doReckoning_133 : decode cX9_doReckoning 133 = .ok (.lload 5, 2) := by decide +kernel
theorem dX9_doReckoning_135 : decode cX9_doReckoning 135 = .ok (.l2i, 1) := by decide +kernel
theorem dX9_doReckoning_136 : decode cX9_doReckoning 136 = .ok (.i2s, 1) := by decide +kernel
theorem dX9_doReckoning_137 : decode cX9_doReckoning 137 = .ok (.i2l, 1) := by decide +kernel
theorem dX9_doReckoning_138 : decode cX9_doReckoning 138 = .ok (.invokevirtual 274, 3) := by decide +kernel
theorem dX9_doReckoning_141 : decode cX9_doReckoning 141 = .ok (.goto 211, 3) := by decide +kernel
theorem dX9_doReckoning_144 : decode cX9_doReckoning 144 = .ok (.iload_n 2, 1) := by decide +kernel
theorem dX9_doReckoning_145 : decode cX9_doReckoning 145 = .ok (.sipush 148, 3) := by decide +kernel
theorem dX9_doReckoning_148 : decode cX9_doReckoning 148 = .ok (.if_icmp .ne 50, 3) := by decide +kernel
theorem dX9_doReckoning_151 : decode cX9_doReckoning 151 = .ok (.aload_n 0, 1) := by decide +kernel
theorem dX9_doReckoning_152 : decode cX9_doReckoning 152 = .ok (.invokevirtual 284, 3) := by decide +kernel
theorem dX9_doReckoning_155 : decode cX9_doReckoning 155 = .ok (.lstore 5, 2) := by decide +kernel
theorem dX9_doReckoning_157 : decode cX9_doReckoning 157 = .ok (.aload_n 0, 1) := by decide +kernel
theorem dX9_doReckoning_158 : decode cX9_doReckoning 158 = .ok (.invokevirtual 284, 3) := by decide +kernel
theorem dX9_doReckoning_161 : decode cX9_doReckoning 161 = .ok (.lstore 7, 2) := by decide +kernel
theorem dX9_doReckoning_163 : decode cX9_doReckoning 163 = .ok (.aload_n 0, 1) := by decide +kernel
theorem dX9_doReckoning_164 : decode cX9_doReckoning 164 = .ok (.iconst 1, 1) := by decide +kernel
theorem dX9_doReckoning_165 : decode cX9_doReckoning 165 = .ok (.lload 7, 2) := by decide +kernel
theorem dX9_doReckoning_167 : decode cX9_doReckoning 167 = .ok (.lload 5, 2) := by decide +kernel
theorem dX9_doReckoning_169 : decode cX9_doReckoning 169 = .ok (.lcmp, 1) := by decide +kernel
theorem dX9_doReckoning_170 : decode cX9_doReckoning 170 = .ok (.ifCond .ge 9, 3) := by decide +kernel
theorem dX9_doReckoning_173 : decode cX9_doReckoning 173 = .ok (.ldc2_w 331, 3) := by decide +kernel
theorem dX9_doReckoning_176 : decode cX9_doReckoning 176 = .ok (.goto 16, 3) := by decide +kernel
theorem dX9_doReckoning_179 : decode cX9_doReckoning 179 = .ok (.lload 7, 2) := by decide +kernel
theorem dX9_doReckoning_181 : decode cX9_doReckoning 181 = .ok (.lload 5, 2) := by decide +kernel
theorem dX9_doReckoning_183 : decode cX9_doReckoning 183 = .ok (.lcmp, 1) := by decide +kernel
theorem dX9_doReckoning_184 : decode cX9_doReckoning 184 = .ok (.ifCond .ne 7, 3) := by decide +kernel
theorem dX9_doReckoning_187 : decode cX9_doReckoning 187 = .ok (.lconst 0, 1) := by decide +kernel
theorem dX9_doReckoning_188 : decode cX9_doReckoning 188 = .ok (.goto 4, 3) := by decide +kernel
theorem dX9_doReckoning_191 : decode cX9_doReckoning 191 = .ok (.lconst 1, 1) := by decide +kernel
theorem dX9_doReckoning_192 : decode cX9_doReckoning 192 = .ok (.invokevirtual 274, 3) := by decide +kernel
theorem dX9_doReckoning_195 : decode cX9_doReckoning 195 = .ok (.goto 157, 3) := by decide +kernel
theorem dX9_doReckoning_198 : decode cX9_doReckoning 198 = .ok (.iload_n 2, 1) := by decide +kernel
theorem dX9_doReckoning_199 : decode cX9_doReckoning 199 = .ok (.bipush 116, 2) := by decide +kernel
theorem dX9_doReckoning_201 : decode cX9_doReckoning 201 = .ok (.if_icmp .eq 9, 3) := by decide +kernel
theorem dX9_doReckoning_204 : decode cX9_doReckoning 204 = .ok (.iload_n 2, 1) := by decide +kernel
theorem dX9_doReckoning_205 : decode cX9_doReckoning 205 = .ok (.bipush 117, 2) := by decide +kernel
theorem dX9_doReckoning_207 : decode cX9_doReckoning 207 = .ok (.if_icmp .ne 43, 3) := by decide +kernel
theorem dX9_doReckoning_210 : decode cX9_doReckoning 210 = .ok (.aload_n 0, 1) := by decide +kernel
theorem dX9_doReckoning_211 : decode cX9_doReckoning 211 = .ok (.invokevirtual 284, 3) := by decide +kernel
theorem dX9_doReckoning_214 : decode cX9_doReckoning 214 = .ok (.lneg, 1) := by decide +kernel
theorem dX9_doReckoning_215 : decode cX9_doReckoning 215 = .ok (.lstore 5, 2) := by decide +kernel
theorem dX9_doReckoning_217 : decode cX9_doReckoning 217 = .ok (.aload_n 0, 1) := by decide +kernel
theorem dX9_doReckoning_218 : decode cX9_doReckoning 218 = .ok (.iload_n 2, 1) := by decide +kernel
theorem dX9_doReckoning_219 : decode cX9_doReckoning 219 = .ok (.bipush 116, 2) := by decide +kernel
theorem dX9_doReckoning_221 : decode cX9_doReckoning 221 = .ok (.if_icmp .ne 7, 3) := by decide +kernel
theorem dX9_doReckoning_224 : decode cX9_doReckoning 224 = .ok (.iconst 1, 1) := by decide +kernel
theorem dX9_doReckoning_225 : decode cX9_doReckoning 225 = .ok (.goto 4, 3) := by decide +kernel
theorem dX9_doReckoning_228 : decode cX9_doReckoning 228 = .ok (.iconst 2, 1) := by decide +kernel
theorem dX9_doReckoning_229 : decode cX9_doReckoning 229 = .ok (.iload_n 2, 1) := by decide +kernel
theorem dX9_doReckoning_230 : decode cX9_doReckoning 230 = .ok (.bipush 116, 2) := by decide +kernel
theorem dX9_doReckoning_232 : decode cX9_doReckoning 232 = .ok (.if_icmp .ne 10, 3) := by decide +kernel
theorem dX9_doReckoning_235 : decode cX9_doReckoning 235 = .ok (.lload 5, 2) := by decide +kernel
theorem dX9_doReckoning_237 : decode cX9_doReckoning 237 = .ok (.l2i, 1) := by decide +kernel
theorem dX9_doReckoning_238 : decode cX9_doReckoning 238 = .ok (.i2l, 1) := by decide +kernel
theorem dX9_doReckoning_239 : decode cX9_doReckoning 239 = .ok (.goto 5, 3) := by decide +kernel
theorem dX9_doReckoning_242 : decode cX9_doReckoning 242 = .ok (.lload 5, 2) := by decide +kernel
theorem dX9_doReckoning_244 : decode cX9_doReckoning 244 = .ok (.invokevirtual 274, 3) := by decide +kernel
theorem dX9_doReckoning_247 : decode cX9_doReckoning 247 = .ok (.goto 105, 3) := by decide +kernel
theorem dX9_doReckoning_250 : decode cX9_doReckoning 250 = .ok (.iload_n 2, 1) := by decide +kernel
theorem dX9_doReckoning_251 : decode cX9_doReckoning 251 = .ok (.bipush 108, 2) := by decide +kernel
theorem dX9_doReckoning_253 : decode cX9_doReckoning 253 = .ok (.if_icmp .eq 21, 3) := by decide +kernel
theorem dX9_doReckoning_256 : decode cX9_doReckoning 256 = .ok (.iload_n 2, 1) := by decide +kernel
theorem dX9_doReckoning_257 : decode cX9_doReckoning 257 = .ok (.bipush 109, 2) := by decide +kernel
theorem dX9_doReckoning_259 : decode cX9_doReckoning 259 = .ok (.if_icmp .eq 15, 3) := by decide +kernel
theorem dX9_doReckoning_262 : decode cX9_doReckoning 262 = .ok (.iload_n 2, 1) := by decide +kernel
theorem dX9_doReckoning_263 : decode cX9_doReckoning 263 = .ok (.bipush 112, 2) := by decide +kernel
theorem dX9_doReckoning_265 : decode cX9_doReckoning 265 = .ok (.if_icmp .eq 9, 3) := by decide +kernel
theorem dX9_doReckoning_268 : decode cX9_doReckoning 268 = .ok (.iload_n 2, 1) := by decide +kernel
theorem dX9_doReckoning_269 : decode cX9_doReckoning 269 = .ok (.bipush 113, 2) := by decide +kernel
theorem dX9_doReckoning_271 : decode cX9_doReckoning 271 = .ok (.if_icmp .ne 7, 3) := by decide +kernel
theorem dX9_doReckoning_274 : decode cX9_doReckoning 274 = .ok (.iconst 1, 1) := by decide +kernel
theorem dX9_doReckoning_275 : decode cX9_doReckoning 275 = .ok (.goto 4, 3) := by decide +kernel
theorem dX9_doReckoning_278 : decode cX9_doReckoning 278 = .ok (.iconst 0, 1) := by decide +kernel
theorem dX9_doReckoning_279 : decode cX9_doReckoning 279 = .ok (.istore 5, 2) := by decide +kernel
theorem dX9_doReckoning_281 : decode cX9_doReckoning 281 = .ok (.iload 5, 2) := by decide +kernel
theorem dX9_doReckoning_283 : decode cX9_doReckoning 283 = .ok (.ifCond .eq 19, 3) := by decide +kernel
theorem dX9_doReckoning_286 : decode cX9_doReckoning 286 = .ok (.aload_n 0, 1) := by decide +kernel
theorem dX9_doReckoning_287 : decode cX9_doReckoning 287 = .ok (.iconst 0, 1) := by decide +kernel
theorem dX9_doReckoning_288 : decode cX9_doReckoning 288 = .ok (.invokevirtual 320, 3) := by decide +kernel
theorem dX9_doReckoning_291 : decode cX9_doReckoning 291 = .ok (.lconst 0, 1) := by decide +kernel
theorem dX9_doReckoning_292 : decode cX9_doReckoning 292 = .ok (.lcmp, 1) := by decide +kernel
theorem dX9_doReckoning_293 : decode cX9_doReckoning 293 = .ok (.ifCond .ne 9, 3) := by decide +kernel
theorem dX9_doReckoning_296 : decode cX9_doReckoning 296 = .ok (.aload_n 0, 1) := by decide +kernel
theorem dX9_doReckoning_297 : decode cX9_doReckoning 297 = .ok (.iconst 1, 1) := by decide +kernel
theorem dX9_doReckoning_298 : decode cX9_doReckoning 298 = .ok (.invokevirtual 328, 3) := by decide +kernel
theorem dX9_doReckoning_301 : decode cX9_doReckoning 301 = .ok (.return_, 1) := by decide +kernel
theorem dX9_doReckoning_302 : decode cX9_doReckoning 302 = .ok (.aload_n 0, 1) := by decide +kernel
theorem dX9_doReckoning_303 : decode cX9_doReckoning 303 = .ok (.invokevirtual 284, 3) := by decide +kernel
theorem dX9_doReckoning_306 : decode cX9_doReckoning 306 = .ok (.lstore 6, 2) := by decide +kernel
theorem dX9_doReckoning_308 : decode cX9_doReckoning 308 = .ok (.aload_n 0, 1) := by decide +kernel
theorem dX9_doReckoning_309 : decode cX9_doReckoning 309 = .ok (.invokevirtual 284, 3) := by decide +kernel
theorem dX9_doReckoning_312 : decode cX9_doReckoning 312 = .ok (.lstore 8, 2) := by decide +kernel
theorem dX9_doReckoning_314 : decode cX9_doReckoning 314 = .ok (.iload_n 2, 1) := by decide +kernel
theorem dX9_doReckoning_315 : decode cX9_doReckoning 315 = .ok (.iconst 2, 1) := by decide +kernel
theorem dX9_doReckoning_316 : decode cX9_doReckoning 316 = .ok (.irem, 1) := by decide +kernel
theorem dX9_doReckoning_317 : decode cX9_doReckoning 317 = .ok (.ifCond .ne 22, 3) := by decide +kernel
theorem dX9_doReckoning_320 : decode cX9_doReckoning 320 = .ok (.aload_n 0, 1) := by decide +kernel
theorem dX9_doReckoning_321 : decode cX9_doReckoning 321 = .ok (.iconst 1, 1) := by decide +kernel
theorem dX9_doReckoning_322 : decode cX9_doReckoning 322 = .ok (.iload_n 2, 1) := by decide +kernel
theorem dX9_doReckoning_323 : decode cX9_doReckoning 323 = .ok (.lload 8, 2) := by decide +kernel
theorem dX9_doReckoning_325 : decode cX9_doReckoning 325 = .ok (.l2i, 1) := by decide +kernel
theorem dX9_doReckoning_326 : decode cX9_doReckoning 326 = .ok (.lload 6, 2) := by decide +kernel
theorem dX9_doReckoning_328 : decode cX9_doReckoning 328 = .ok (.l2i, 1) := by decide +kernel
theorem dX9_doReckoning_329 : decode cX9_doReckoning 329 = .ok (.invokestatic 333, 3) := by decide +kernel
theorem dX9_doReckoning_332 : decode cX9_doReckoning 332 = .ok (.i2l, 1) := by decide +kernel
theorem dX9_doReckoning_333 : decode cX9_doReckoning 333 = .ok (.invokevirtual 274, 3) := by decide +kernel
theorem dX9_doReckoning_336 : decode cX9_doReckoning 336 = .ok (.goto 16, 3) := by decide +kernel
theorem dX9_doReckoning_339 : decode cX9_doReckoning 339 = .ok (.aload_n 0, 1) := by decide +kernel
theorem dX9_doReckoning_340 : decode cX9_doReckoning 340 = .ok (.iconst 2, 1) := by decide +kernel
theorem dX9_doReckoning_341 : decode cX9_doReckoning 341 = .ok (.iload_n 2, 1) := by decide +kernel
theorem dX9_doReckoning_342 : decode cX9_doReckoning 342 = .ok (.lload 8, 2) := by decide +kernel
theorem dX9_doReckoning_344 : decode cX9_doReckoning 344 = .ok (.lload 6, 2) := by decide +kernel
theorem dX9_doReckoning_346 : decode cX9_doReckoning 346 = .ok (.invokestatic 337, 3) := by decide +kernel
theorem dX9_doReckoning_349 : decode cX9_doReckoning 349 = .ok (.invokevirtual 274, 3) := by decide +kernel
theorem dX9_doReckoning_352 : decode cX9_doReckoning 352 = .ok (.return_, 1) := by decide +kernel
theorem dX9_doStack_0 : decode cX9_doStack 0 = .ok (.bipush 12, 2) := by decide +kernel
theorem dX9_doStack_2 : decode cX9_doStack 2 = .ok (.iload_n 1, 1) := by decide +kernel
theorem dX9_doStack_3 : decode cX9_doStack 3 = .ok (.imul, 1) := by decide +kernel
theorem dX9_doStack_4 : decode cX9_doStack 4 = .ok (.aload_n 0, 1) := by decide +kernel
theorem dX9_doStack_5 : decode cX9_doStack 5 = .ok (.getfield 105, 3) := by decide +kernel
theorem dX9_doStack_8 : decode cX9_doStack 8 = .ok (.iload_n 1, 1) := by decide +kernel
theorem dX9_doStack_9 : decode cX9_doStack 9 = .ok (.iaload, 1) := by decide +kernel
theorem dX9_doStack_10 : decode cX9_doStack 10 = .ok (.iadd, 1) := by decide +kernel
theorem dX9_doStack_11 : decode cX9_doStack 11 = .ok (.iconst 1, 1) := by decide +kernel
theorem dX9_doStack_12 : decode cX9_doStack 12 = .ok (.isub, 1) := by decide +kernel
theorem dX9_doStack_13 : decode cX9_doStack 13 = .ok (.istore_n 3, 1) := by decide +kernel
theorem dX9_doStack_14 : decode cX9_doStack 14 = .ok (.iload_n 2, 1) := by decide +kernel
theorem dX9_doStack_15 : decode cX9_doStack 15 = .ok (.bipush 89, 2) := by decide +kernel
theorem dX9_doStack_17 : decode cX9_doStack 17 = .ok (.if_icmp .ge 11, 3) := by decide +kernel
theorem dX9_doStack_20 : decode cX9_doStack 20 = .ok (.aload_n 0, 1) := by decide +kernel
theorem dX9_doStack_21 : decode cX9_doStack 21 = .ok (.invokevirtual 284, 3) := by decide +kernel
theorem dX9_doStack_24 : decode cX9_doStack 24 = .ok (.pop2, 1) := by decide +kernel
theorem dX9_doStack_25 : decode cX9_doStack 25 = .ok (.goto 92, 3) := by decide +kernel
theorem dX9_doStack_28 : decode cX9_doStack 28 = .ok (.iload_n 2, 1) := by decide +kernel
theorem dX9_doStack_29 : decode cX9_doStack 29 = .ok (.bipush 89, 2) := by decide +kernel
theorem dX9_doStack_31 : decode cX9_doStack 31 = .ok (.if_icmp .ne 22, 3) := by decide +kernel
theorem dX9_doStack_34 : decode cX9_doStack 34 = .ok (.aload_n 0, 1) := by decide +kernel
theorem dX9_doStack_35 : decode cX9_doStack 35 = .ok (.aload_n 0, 1) := by decide +kernel
theorem dX9_doStack_36 : decode cX9_doStack 36 = .ok (.getfield 117, 3) := by decide +kernel
theorem dX9_doStack_39 : decode cX9_doStack 39 = .ok (.iload_n 3, 1) := by decide +kernel
theorem dX9_doStack_40 : decode cX9_doStack 40 = .ok (.iaload, 1) := by decide +kernel
theorem dX9_doStack_41 : decode cX9_doStack 41 = .ok (.aload_n 0, 1) := by decide +kernel
theorem dX9_doStack_42 : decode cX9_doStack 42 = .ok (.getfield 114, 3) := by decide +kernel
theorem dX9_doStack_45 : decode cX9_doStack 45 = .ok (.iload_n 3, 1) := by decide +kernel
theorem dX9_doStack_46 : decode cX9_doStack 46 = .ok (.laload, 1) := by decide +kernel
theorem dX9_doStack_47 : decode cX9_doStack 47 = .ok (.invokevirtual 274, 3) := by decide +kernel
theorem dX9_doStack_50 : decode cX9_doStack 50 = .ok (.goto 67, 3) := by decide +kernel
theorem dX9_doStack_53 : decode cX9_doStack 53 = .ok (.aload_n 0, 1) := by decide +kernel
theorem dX9_doStack_54 : decode cX9_doStack 54 = .ok (.getfield 114, 3) := by decide +kernel
theorem dX9_doStack_57 : decode cX9_doStack 57 = .ok (.iload_n 3, 1) := by decide +kernel
theorem dX9_doStack_58 : decode cX9_doStack 58 = .ok (.laload, 1) := by decide +kernel
theorem dX9_doStack_59 : decode cX9_doStack 59 = .ok (.lstore 4, 2) := by decide +kernel
theorem dX9_doStack_61 : decode cX9_doStack 61 = .ok (.aload_n 0, 1) := by decide +kernel
theorem dX9_doStack_62 : decode cX9_doStack 62 = .ok (.getfield 117, 3) := by decide +kernel
theorem dX9_doStack_65 : decode cX9_doStack 65 = .ok (.iload_n 3, 1) := by decide +kernel
theorem dX9_doStack_66 : decode cX9_doStack 66 = .ok (.iaload, 1) := by decide +kernel
theorem dX9_doStack_67 : decode cX9_doStack 67 = .ok (.istore 6, 2) := by decide +kernel
theorem dX9_doStack_69 : decode cX9_doStack 69 = .ok (.aload_n 0, 1) := by decide +kernel
theorem dX9_doStack_70 : decode cX9_doStack 70 = .ok (.getfield 114, 3) := by decide +kernel
theorem dX9_doStack_73 : decode cX9_doStack 73 = .ok (.iload_n 3, 1) := by decide +kernel
theorem dX9_doStack_74 : decode cX9_doStack 74 = .ok (.aload_n 0, 1) := by decide +kernel
theorem dX9_doStack_75 : decode cX9_doStack 75 = .ok (.getfield 114, 3) := by decide +kernel
theorem dX9_doStack_78 : decode cX9_doStack 78 = .ok (.iload_n 3, 1) := by decide +kernel
theorem dX9_doStack_79 : decode cX9_doStack 79 = .ok (.iconst 1, 1) := by decide +kernel
theorem dX9_doStack_80 : decode cX9_doStack 80 = .ok (.isub, 1) := by decide +kernel
theorem dX9_doStack_81 : decode cX9_doStack 81 = .ok (.laload, 1) := by decide +kernel
theorem dX9_doStack_82 : decode cX9_doStack 82 = .ok (.lastore, 1) := by decide +kernel
theorem dX9_doStack_83 : decode cX9_doStack 83 = .ok (.aload_n 0, 1) := by decide +kernel
theorem dX9_doStack_84 : decode cX9_doStack 84 = .ok (.getfield 117, 3) := by decide +kernel
theorem dX9_doStack_87 : decode cX9_doStack 87 = .ok (.iload_n 3, 1) := by decide +kernel
theorem dX9_doStack_88 : decode cX9_doStack 88 = .ok (.aload_n 0, 1) := by decide +kernel
theorem dX9_doStack_89 : decode cX9_doStack 89 = .ok (.getfield 117, 3) := by decide +kernel
theorem dX9_doStack_92 : decode cX9_doStack 92 = .ok (.iload_n 3, 1) := by decide +kernel
theorem dX9_doStack_93 : decode cX9_doStack 93 = .ok (.iconst 1, 1) := by decide +kernel
theorem dX9_doStack_94 : decode cX9_doStack 94 = .ok (.isub, 1) := by decide +kernel
theorem dX9_doStack_95 : decode cX9_doStack 95 = .ok (.iaload, 1) := by decide +kernel
theorem dX9_doStack_96 : decode cX9_doStack 96 = .ok (.iastore, 1) := by decide +kernel
theorem dX9_doStack_97 : decode cX9_doStack 97 = .ok (.aload_n 0, 1) := by decide +kernel
theorem dX9_doStack_98 : decode cX9_doStack 98 = .ok (.getfield 114, 3) := by decide +kernel
theorem dX9_doStack_101 : decode cX9_doStack 101 = .ok (.iload_n 3, 1) := by decide +kernel
theorem dX9_doStack_102 : decode cX9_doStack 102 = .ok (.iconst 1, 1) := by decide +kernel
theorem dX9_doStack_103 : decode cX9_doStack 103 = .ok (.isub, 1) := by decide +kernel
theorem dX9_doStack_104 : decode cX9_doStack 104 = .ok (.lload 4, 2) := by decide +kernel
theorem dX9_doStack_106 : decode cX9_doStack 106 = .ok (.lastore, 1) := by decide +kernel
theorem dX9_doStack_107 : decode cX9_doStack 107 = .ok (.aload_n 0, 1) := by decide +kernel
theorem dX9_doStack_108 : decode cX9_doStack 108 = .ok (.getfield 117, 3) := by decide +kernel
theorem dX9_doStack_111 : decode cX9_doStack 111 = .ok (.iload_n 3, 1) := by decide +kernel
theorem dX9_doStack_112 : decode cX9_doStack 112 = .ok (.iconst 1, 1) := by decide +kernel
theorem dX9_doStack_113 : decode cX9_doStack 113 = .ok (.isub, 1) := by decide +kernel
theorem dX9_doStack_114 : decode cX9_doStack 114 = .ok (.iload 6, 2) := by decide +kernel
theorem dX9_doStack_116 : decode cX9_doStack 116 = .ok (.iastore, 1) := by decide +kernel
theorem dX9_doStack_117 : decode cX9_doStack 117 = .ok (.return_, 1) := by decide +kernel
theorem dX9_doStore_0 : decode cX9_doStore 0 = .ok (.aload_n 0, 1) := by decide +kernel
theorem dX9_doStore_1 : decode cX9_doStore 1 = .ok (.iconst 0, 1) := by decide +kernel
theorem dX9_doStore_2 : decode cX9_doStore 2 = .ok (.invokevirtual 320, 3) := by decide +kernel
theorem dX9_doStore_5 : decode cX9_doStore 5 = .ok (.lstore_n 2, 1) := by decide +kernel
theorem dX9_doStore_6 : decode cX9_doStore 6 = .ok (.aload_n 0, 1) := by decide +kernel
theorem dX9_doStore_7 : decode cX9_doStore 7 = .ok (.iconst 1, 1) := by decide +kernel
theorem dX9_doStore_8 : decode cX9_doStore 8 = .ok (.invokevirtual 320, 3) := by decide +kernel
theorem dX9_doStore_11 : decode cX9_doStore 11 = .ok (.lstore 4, 2) := by decide +kernel
theorem dX9_doStore_13 : decode cX9_doStore 13 = .ok (.aload_n 0, 1) := by decide +kernel
theorem dX9_doStore_14 : decode cX9_doStore 14 = .ok (.iconst 2, 1) := by decide +kernel
theorem dX9_doStore_15 : decode cX9_doStore 15 = .ok (.invokevirtual 320, 3) := by decide +kernel
theorem dX9_doStore_18 : decode cX9_doStore 18 = .ok (.lstore 6, 2) := by decide +kernel
theorem dX9_doStore_20 : decode cX9_doStore 20 = .ok (.aload_n 0, 1) := by decide +kernel
theorem dX9_doStore_21 : decode cX9_doStore 21 = .ok (.iload_n 1, 1) := by decide +kernel
theorem dX9_doStore_22 : decode cX9_doStore 22 = .ok (.lload 6, 2) := by decide +kernel
theorem dX9_doStore_24 : decode cX9_doStore 24 = .ok (.lload 4, 2) := by decide +kernel
theorem dX9_doStore_26 : decode cX9_doStore 26 = .ok (.invokevirtual 324, 3) := by decide +kernel
theorem dX9_doStore_29 : decode cX9_doStore 29 = .ok (.istore 8, 2) := by decide +kernel
theorem dX9_doStore_31 : decode cX9_doStore 31 = .ok (.iload 8, 2) := by decide +kernel
theorem dX9_doStore_33 : decode cX9_doStore 33 = .ok (.ifCond .le 10, 3) := by decide +kernel
theorem dX9_doStore_36 : decode cX9_doStore 36 = .ok (.aload_n 0, 1) := by decide +kernel
theorem dX9_doStore_37 : decode cX9_doStore 37 = .ok (.iload 8, 2) := by decide +kernel
theorem dX9_doStore_39 : decode cX9_doStore 39 = .ok (.invokevirtual 328, 3) := by decide +kernel
theorem dX9_doStore_42 : decode cX9_doStore 42 = .ok (.return_, 1) := by decide +kernel
theorem dX9_doStore_43 : decode cX9_doStore 43 = .ok (.aload_n 0, 1) := by decide +kernel
theorem dX9_doStore_44 : decode cX9_doStore 44 = .ok (.invokevirtual 284, 3) := by decide +kernel
theorem dX9_doStore_47 : decode cX9_doStore 47 = .ok (.pop2, 1) := by decide +kernel
theorem dX9_doStore_48 : decode cX9_doStore 48 = .ok (.aload_n 0, 1) := by decide +kernel
theorem dX9_doStore_49 : decode cX9_doStore 49 = .ok (.invokevirtual 284, 3) := by decide +kernel
theorem dX9_doStore_52 : decode cX9_doStore 52 = .ok (.pop2, 1) := by decide +kernel
theorem dX9_doStore_53 : decode cX9_doStore 53 = .ok (.aload_n 0, 1) := by decide +kernel
theorem dX9_doStore_54 : decode cX9_doStore 54 = .ok (.invokevirtual 284, 3) := by decide +kernel
theorem dX9_doStore_57 : decode cX9_doStore 57 = .ok (.pop2, 1) := by decide +kernel
theorem dX9_doStore_58 : decode cX9_doStore 58 = .ok (.lload 6, 2) := by decide +kernel
theorem dX9_doStore_60 : decode cX9_doStore 60 = .ok (.l2i, 1) := by decide +kernel
theorem dX9_doStore_61 : decode cX9_doStore 61 = .ok (.iconst 1, 1) := by decide +kernel
theorem dX9_doStore_62 : decode cX9_doStore 62 = .ok (.isub, 1) := by decide +kernel
theorem dX9_doStore_63 : decode cX9_doStore 63 = .ok (.istore 9, 2) := by decide +kernel
theorem dX9_doStore_65 : decode cX9_doStore 65 = .ok (.aload_n 0, 1) := by decide +kernel
theorem dX9_doStore_66 : decode cX9_doStore 66 = .ok (.getfield 80, 3) := by decide +kernel
theorem dX9_doStore_69 : decode cX9_doStore 69 = .ok (.iload 9, 2) := by decide +kernel
theorem dX9_doStore_71 : decode cX9_doStore 71 = .ok (.iaload, 1) := by decide +kernel
theorem dX9_doStore_72 : decode cX9_doStore 72 = .ok (.istore 10, 2) := by decide +kernel
theorem dX9_doStore_74 : decode cX9_doStore 74 = .ok (.aload_n 0, 1) := by decide +kernel
theorem dX9_doStore_75 : decode cX9_doStore 75 = .ok (.getfield 92, 3) := by decide +kernel
theorem dX9_doStore_78 : decode cX9_doStore 78 = .ok (.aload_n 0, 1) := by decide +kernel
theorem dX9_doStore_79 : decode cX9_doStore 79 = .ok (.getfield 86, 3) := by decide +kernel
theorem dX9_doStore_82 : decode cX9_doStore 82 = .ok (.iload 9, 2) := by decide +kernel
theorem dX9_doStore_84 : decode cX9_doStore 84 = .ok (.iaload, 1) := by decide +kernel
theorem dX9_doStore_85 : decode cX9_doStore 85 = .ok (.lload 4, 2) := by decide +kernel
theorem dX9_doStore_87 : decode cX9_doStore 87 = .ok (.l2i, 1) := by decide +kernel
theorem dX9_doStore_88 : decode cX9_doStore 88 = .ok (.iadd, 1) := by decide +kernel
theorem dX9_doStore_89 : decode cX9_doStore 89 = .ok (.iload 10, 2) := by decide +kernel
theorem dX9_doStore_91 : decode cX9_doStore 91 = .ok (.iconst 4, 1) := by decide +kernel
theorem dX9_doStore_92 : decode cX9_doStore 92 = .ok (.if_icmp .ne 9, 3) := by decide +kernel
theorem dX9_doStore_95 : decode cX9_doStore 95 = .ok (.lload_n 2, 1) := by decide +kernel
theorem dX9_doStore_96 : decode cX9_doStore 96 = .ok (.lconst 1, 1) := by decide +kernel
theorem dX9_doStore_97 : decode cX9_doStore 97 = .ok (.land, 1) := by decide +kernel
theorem dX9_doStore_98 : decode cX9_doStore 98 = .ok (.goto 45, 3) := by decide +kernel
theorem dX9_doStore_101 : decode cX9_doStore 101 = .ok (.iload 10, 2) := by decide +kernel
theorem dX9_doStore_103 : decode cX9_doStore 103 = .ok (.bipush 8, 2) := by decide +kernel
theorem dX9_doStore_105 : decode cX9_doStore 105 = .ok (.if_icmp .ne 10, 3) := by decide +kernel
theorem dX9_doStore_108 : decode cX9_doStore 108 = .ok (.lload_n 2, 1) := by decide +kernel
theorem dX9_doStore_109 : decode cX9_doStore 109 = .ok (.l2i, 1) := by decide +kernel
theorem dX9_doStore_110 : decode cX9_doStore 110 = .ok (.i2b, 1) := by decide +kernel
theorem dX9_doStore_111 : decode cX9_doStore 111 = .ok (.i2l, 1) := by decide +kernel
theorem dX9_doStore_112 : decode cX9_doStore 112 = .ok (.goto 31, 3) := by decide +kernel
theorem dX9_doStore_115 : decode cX9_doStore 115 = .ok (.iload 10, 2) := by decide +kernel
theorem dX9_doStore_117 : decode cX9_doStore 117 = .ok (.iconst 5, 1) := by decide +kernel
theorem dX9_doStore_118 : decode cX9_doStore 118 = .ok (.if_icmp .ne 10, 3) := by decide +kernel
theorem dX9_doStore_121 : decode cX9_doStore 121 = .ok (.lload_n 2, 1) := by decide +kernel
theorem dX9_doStore_122 : decode cX9_doStore 122 = .ok (.l2i, 1) := by decide +kernel
theorem dX9_doStore_123 : decode cX9_doStore 123 = .ok (.i2c, 1) := by decide +kernel
theorem dX9_doStore_124 : decode cX9_doStore 124 = .ok (.i2l, 1) := by decide +kernel
theorem dX9_doStore_125 : decode cX9_doStore 125 = .ok (.goto 18, 3) := by decide +kernel
theorem dX9_doStore_128 : decode cX9_doStore 128 = .ok (.iload 10, 2) := by decide +kernel
theorem dX9_doStore_130 : decode cX9_doStore 130 = .ok (.bipush 9, 2) := by decide +kernel
theorem dX9_doStore_132 : decode cX9_doStore 132 = .ok (.if_icmp .ne 10, 3) := by decide +kernel
theorem dX9_doStore_135 : decode cX9_doStore 135 = .ok (.lload_n 2, 1) := by decide +kernel
theorem dX9_doStore_136 : decode cX9_doStore 136 = .ok (.l2i, 1) := by decide +kernel
theorem dX9_doStore_137 : decode cX9_doStore 137 = .ok (.i2s, 1) := by decide +kernel
theorem dX9_doStore_138 : decode cX9_doStore 138 = .ok (.i2l, 1) := by decide +kernel
theorem dX9_doStore_139 : decode cX9_doStore 139 = .ok (.goto 4, 3) := by decide +kernel
theorem dX9_doStore_142 : decode cX9_doStore 142 = .ok (.lload_n 2, 1) := by decide +kernel
theorem dX9_doStore_143 : decode cX9_doStore 143 = .ok (.lastore, 1) := by decide +kernel
theorem dX9_doStore_144 : decode cX9_doStore 144 = .ok (.return_, 1) := by decide +kernel
theorem dX9_doField_0 : decode cX9_doField 0 = .ok (.aload_n 0, 1) := by decide +kernel
theorem dX9_doField_1 : decode cX9_doField 1 = .ok (.iload_n 1, 1) := by decide +kernel
theorem dX9_doField_2 : decode cX9_doField 2 = .ok (.sipush 181, 3) := by decide +kernel
theorem dX9_doField_5 : decode cX9_doField 5 = .ok (.if_icmp .ne 7, 3) := by decide +kernel
theorem dX9_doField_8 : decode cX9_doField 8 = .ok (.iconst 1, 1) := by decide +kernel
theorem dX9_doField_9 : decode cX9_doField 9 = .ok (.goto 4, 3) := by decide +kernel
theorem dX9_doField_12 : decode cX9_doField 12 = .ok (.iconst 0, 1) := by decide +kernel
theorem dX9_doField_13 : decode cX9_doField 13 = .ok (.invokevirtual 320, 3) := by decide +kernel
theorem dX9_doField_16 : decode cX9_doField 16 = .ok (.lstore 4, 2) := by decide +kernel
theorem dX9_doField_18 : decode cX9_doField 18 = .ok (.lload 4, 2) := by decide +kernel
theorem dX9_doField_20 : decode cX9_doField 20 = .ok (.l2i, 1) := by decide +kernel
theorem dX9_doField_21 : decode cX9_doField 21 = .ok (.iconst 1, 1) := by decide +kernel
theorem dX9_doField_22 : decode cX9_doField 22 = .ok (.isub, 1) := by decide +kernel
theorem dX9_doField_23 : decode cX9_doField 23 = .ok (.istore 6, 2) := by decide +kernel
theorem dX9_doField_25 : decode cX9_doField 25 = .ok (.lload 4, 2) := by decide +kernel
theorem dX9_doField_27 : decode cX9_doField 27 = .ok (.lconst 0, 1) := by decide +kernel
theorem dX9_doField_28 : decode cX9_doField 28 = .ok (.lcmp, 1) := by decide +kernel
theorem dX9_doField_29 : decode cX9_doField 29 = .ok (.ifCond .eq 17, 3) := by decide +kernel
theorem dX9_doField_32 : decode cX9_doField 32 = .ok (.aload_n 0, 1) := by decide +kernel
theorem dX9_doField_33 : decode cX9_doField 33 = .ok (.getfield 80, 3) := by decide +kernel
theorem dX9_doField_36 : decode cX9_doField 36 = .ok (.iload 6, 2) := by decide +kernel
theorem dX9_doField_38 : decode cX9_doField 38 = .ok (.iaload, 1) := by decide +kernel
theorem dX9_doField_39 : decode cX9_doField 39 = .ok (.ifCond .le 7, 3) := by decide +kernel
theorem dX9_doField_42 : decode cX9_doField 42 = .ok (.iconst 1, 1) := by decide +kernel
theorem dX9_doField_43 : decode cX9_doField 43 = .ok (.goto 4, 3) := by decide +kernel
theorem dX9_doField_46 : decode cX9_doField 46 = .ok (.iconst 0, 1) := by decide +kernel
theorem dX9_doField_47 : decode cX9_doField 47 = .ok (.istore 7, 2) := by decide +kernel
theorem dX9_doField_49 : decode cX9_doField 49 = .ok (.lload 4, 2) := by decide +kernel
theorem dX9_doField_51 : decode cX9_doField 51 = .ok (.lconst 0, 1) := by decide +kernel
theorem dX9_doField_52 : decode cX9_doField 52 = .ok (.lcmp, 1) := by decide +kernel
theorem dX9_doField_53 : decode cX9_doField 53 = .ok (.ifCond .ne 7, 3) := by decide +kernel
theorem dX9_doField_56 : decode cX9_doField 56 = .ok (.iconst 2, 1) := by decide +kernel
theorem dX9_doField_57 : decode cX9_doField 57 = .ok (.goto 43, 3) := by decide +kernel
theorem dX9_doField_60 : decode cX9_doField 60 = .ok (.iload_n 1, 1) := by decide +kernel
theorem dX9_doField_61 : decode cX9_doField 61 = .ok (.sipush 190, 3) := by decide +kernel
theorem dX9_doField_64 : decode cX9_doField 64 = .ok (.if_icmp .ne 16, 3) := by decide +kernel
theorem dX9_doField_67 : decode cX9_doField 67 = .ok (.iload 7, 2) := by decide +kernel
theorem dX9_doField_69 : decode cX9_doField 69 = .ok (.ifCond .eq 7, 3) := by decide +kernel
theorem dX9_doField_72 : decode cX9_doField 72 = .ok (.iconst 0, 1) := by decide +kernel
theorem dX9_doField_73 : decode cX9_doField 73 = .ok (.goto 27, 3) := by decide +kernel
theorem dX9_doField_76 : decode cX9_doField 76 = .ok (.iconst 5, 1) := by decide +kernel
theorem dX9_doField_77 : decode cX9_doField 77 = .ok (.goto 23, 3) := by decide +kernel
theorem dX9_doField_80 : decode cX9_doField 80 = .ok (.iload 7, 2) := by decide +kernel
theorem dX9_doField_82 : decode cX9_doField 82 = .ok (.ifCond .ne 13, 3) := by decide +kernel
theorem dX9_doField_85 : decode cX9_doField 85 = .ok (.aload_n 0, 1) := by decide +kernel
theorem dX9_doField_86 : decode cX9_doField 86 = .ok (.iload 6, 2) := by decide +kernel
theorem dX9_doField_88 : decode cX9_doField 88 = .ok (.iload_n 2, 1) := by decide +kernel
theorem dX9_doField_89 : decode cX9_doField 89 = .ok (.invokevirtual 270, 3) := by decide +kernel
theorem dX9_doField_92 : decode cX9_doField 92 = .ok (.ifCond .ne 7, 3) := by decide +kernel
theorem dX9_doField_95 : decode cX9_doField 95 = .ok (.iconst 5, 1) := by decide +kernel
theorem dX9_doField_96 : decode cX9_doField 96 = .ok (.goto 4, 3) := by decide +kernel
theorem dX9_doField_99 : decode cX9_doField 99 = .ok (.iconst 0, 1) := by decide +kernel
theorem dX9_doField_100 : decode cX9_doField 100 = .ok (.istore 8, 2) := by decide +kernel
theorem dX9_doField_102 : decode cX9_doField 102 = .ok (.iload 8, 2) := by decide +kernel
theorem dX9_doField_104 : decode cX9_doField 104 = .ok (.ifCond .le 10, 3) := by decide +kernel
theorem dX9_doField_107 : decode cX9_doField 107 = .ok (.aload_n 0, 1) := by decide +kernel
theorem dX9_doField_108 : decode cX9_doField 108 = .ok (.iload 8, 2) := by decide +kernel
theorem dX9_doField_110 : decode cX9_doField 110 = .ok (.invokevirtual 328, 3) := by decide +kernel
theorem dX9_doField_113 : decode cX9_doField 113 = .ok (.return_, 1) := by decide +kernel
theorem dX9_doField_114 : decode cX9_doField 114 = .ok (.iload_n 1, 1) := by decide +kernel
theorem dX9_doField_115 : decode cX9_doField 115 = .ok (.sipush 181, 3) := by decide +kernel
theorem dX9_doField_118 : decode cX9_doField 118 = .ok (.if_icmp .ne 10, 3) := by decide +kernel
theorem dX9_doField_121 : decode cX9_doField 121 = .ok (.aload_n 0, 1) := by decide +kernel
theorem dX9_doField_122 : decode cX9_doField 122 = .ok (.invokevirtual 284, 3) := by decide +kernel
theorem dX9_doField_125 : decode cX9_doField 125 = .ok (.goto 4, 3) := by decide +kernel
theorem dX9_doField_128 : decode cX9_doField 128 = .ok (.lconst 0, 1) := by decide +kernel
theorem dX9_doField_129 : decode cX9_doField 129 = .ok (.lstore 9, 2) := by decide +kernel
theorem dX9_doField_131 : decode cX9_doField 131 = .ok (.aload_n 0, 1) := by decide +kernel
theorem dX9_doField_132 : decode cX9_doField 132 = .ok (.invokevirtual 284, 3) := by decide +kernel
theorem dX9_doField_135 : decode cX9_doField 135 = .ok (.pop2, 1) := by decide +kernel
theorem dX9_doField_136 : decode cX9_doField 136 = .ok (.iload_n 1, 1) := by decide +kernel
theorem dX9_doField_137 : decode cX9_doField 137 = .ok (.sipush 190, 3) := by decide +kernel
theorem dX9_doField_140 : decode cX9_doField 140 = .ok (.if_icmp .ne 19, 3) := by decide +kernel
theorem dX9_doField_143 : decode cX9_doField 143 = .ok (.aload_n 0, 1) := by decide +kernel
theorem dX9_doField_144 : decode cX9_doField 144 = .ok (.iconst 1, 1) := by decide +kernel
theorem dX9_doField_145 : decode cX9_doField 145 = .ok (.aload_n 0, 1) := by decide +kernel
theorem dX9_doField_146 : decode cX9_doField 146 = .ok (.getfield 83, 3) := by decide +kernel
theorem dX9_doField_149 : decode cX9_doField 149 = .ok (.iload 6, 2) := by decide +kernel
theorem dX9_doField_151 : decode cX9_doField 151 = .ok (.iaload, 1) := by decide +kernel
theorem dX9_doField_152 : decode cX9_doField 152 = .ok (.i2l, 1) := by decide +kernel
theorem dX9_doField_153 : decode cX9_doField 153 = .ok (.invokevirtual 274, 3) := by decide +kernel
theorem dX9_doField_156 : decode cX9_doField 156 = .ok (.goto 58, 3) := by decide +kernel
theorem dX9_doField_159 : decode cX9_doField 159 = .ok (.iload_n 1, 1) := by decide +kernel
theorem dX9_doField_160 : decode cX9_doField 160 = .ok (.sipush 180, 3) := by decide +kernel
theorem dX9_doField_163 : decode cX9_doField 163 = .ok (.if_icmp .ne 35, 3) := by decide +kernel
theorem dX9_doField_166 : decode cX9_doField 166 = .ok (.aload_n 0, 1) := by decide +kernel
theorem dX9_doField_167 : decode cX9_doField 167 = .ok (.aload_n 0, 1) := by decide +kernel
theorem dX9_doField_168 : decode cX9_doField 168 = .ok (.getfield 16, 3) := by decide +kernel
theorem dX9_doField_171 : decode cX9_doField 171 = .ok (.bipush 8, 2) := by decide +kernel
theorem dX9_doField_173 : decode cX9_doField 173 = .ok (.iload_n 2, 1) := by decide +kernel
theorem dX9_doField_174 : decode cX9_doField 174 = .ok (.imul, 1) := by decide +kernel
theorem dX9_doField_175 : decode cX9_doField 175 = .ok (.iload_n 3, 1) := by decide +kernel
theorem dX9_doField_176 : decode cX9_doField 176 = .ok (.iadd, 1) := by decide +kernel
theorem dX9_doField_177 : decode cX9_doField 177 = .ok (.iaload, 1) := by decide +kernel
theorem dX9_doField_178 : decode cX9_doField 178 = .ok (.aload_n 0, 1) := by decide +kernel
theorem dX9_doField_179 : decode cX9_doField 179 = .ok (.getfield 92, 3) := by decide +kernel
theorem dX9_doField_182 : decode cX9_doField 182 = .ok (.aload_n 0, 1) := by decide +kernel
theorem dX9_doField_183 : decode cX9_doField 183 = .ok (.getfield 86, 3) := by decide +kernel
theorem dX9_doField_186 : decode cX9_doField 186 = .ok (.iload 6, 2) := by decide +kernel
theorem dX9_doField_188 : decode cX9_doField 188 = .ok (.iaload, 1) := by decide +kernel
theorem dX9_doField_189 : decode cX9_doField 189 = .ok (.iload_n 3, 1) := by decide +kernel
theorem dX9_doField_190 : decode cX9_doField 190 = .ok (.iadd, 1) := by decide +kernel
theorem dX9_doField_191 : decode cX9_doField 191 = .ok (.laload, 1) := by decide +kernel
theorem dX9_doField_192 : decode cX9_doField 192 = .ok (.invokevirtual 274, 3) := by decide +kernel
theorem dX9_doField_195 : decode cX9_doField 195 = .ok (.goto 19, 3) := by decide +kernel
theorem dX9_doField_198 : decode cX9_doField 198 = .ok (.aload_n 0, 1) := by decide +kernel
theorem dX9_doField_199 : decode cX9_doField 199 = .ok (.getfield 92, 3) := by decide +kernel
theorem dX9_doField_202 : decode cX9_doField 202 = .ok (.aload_n 0, 1) := by decide +kernel
theorem dX9_doField_203 : decode cX9_doField 203 = .ok (.getfield 86, 3) := by decide +kernel
theorem dX9_doField_206 : decode cX9_doField 206 = .ok (.iload 6, 2) := by decide +kernel
theorem dX9_doField_208 : decode cX9_doField 208 = .ok (.iaload, 1) := by decide +kernel
theorem dX9_doField_209 : decode cX9_doField 209 = .ok (.iload_n 3, 1) := by decide +kernel
theorem dX9_doField_210 : decode cX9_doField 210 = .ok (.iadd, 1) := by decide +kernel
theorem dX9_doField_211 : decode cX9_doField 211 = .ok (.lload 9, 2) := by decide +kernel
theorem dX9_doField_213 : decode cX9_doField 213 = .ok (.lastore, 1) := by decide +kernel
theorem dX9_doField_214 : decode cX9_doField 214 = .ok (.return_, 1) := by decide +kernel
theorem dX9_noRoom_0 : decode cX9_noRoom 0 = .ok (.aload_n 0, 1) := by decide +kernel
theorem dX9_noRoom_1 : decode cX9_noRoom 1 = .ok (.iconst 3, 1) := by decide +kernel
theorem dX9_noRoom_2 : decode cX9_noRoom 2 = .ok (.putfield 235, 3) := by decide +kernel
theorem dX9_noRoom_5 : decode cX9_noRoom 5 = .ok (.aload_n 0, 1) := by decide +kernel
theorem dX9_noRoom_6 : decode cX9_noRoom 6 = .ok (.iconst 1, 1) := by decide +kernel
theorem dX9_noRoom_7 : decode cX9_noRoom 7 = .ok (.putfield 238, 3) := by decide +kernel
theorem dX9_noRoom_10 : decode cX9_noRoom 10 = .ok (.lconst 0, 1) := by decide +kernel
theorem dX9_noRoom_11 : decode cX9_noRoom 11 = .ok (.lreturn, 1) := by decide +kernel
theorem dX9_doThing_0 : decode cX9_doThing 0 = .ok (.iload_n 1, 1) := by decide +kernel
theorem dX9_doThing_1 : decode cX9_doThing 1 = .ok (.sipush 187, 3) := by decide +kernel
theorem dX9_doThing_4 : decode cX9_doThing 4 = .ok (.if_icmp .ne 34, 3) := by decide +kernel
theorem dX9_doThing_7 : decode cX9_doThing 7 = .ok (.aload_n 0, 1) := by decide +kernel
theorem dX9_doThing_8 : decode cX9_doThing 8 = .ok (.iload_n 2, 1) := by decide +kernel
theorem dX9_doThing_9 : decode cX9_doThing 9 = .ok (.iconst 0, 1) := by decide +kernel
theorem dX9_doThing_10 : decode cX9_doThing 10 = .ok (.aload_n 0, 1) := by decide +kernel
theorem dX9_doThing_11 : decode cX9_doThing 11 = .ok (.getfield 13, 3) := by decide +kernel
theorem dX9_doThing_14 : decode cX9_doThing 14 = .ok (.iload_n 2, 1) := by decide +kernel
theorem dX9_doThing_15 : decode cX9_doThing 15 = .ok (.iaload, 1) := by decide +kernel
theorem dX9_doThing_16 : decode cX9_doThing 16 = .ok (.invokevirtual 263, 3) := by decide +kernel
theorem dX9_doThing_19 : decode cX9_doThing 19 = .ok (.lstore 4, 2) := by decide +kernel
theorem dX9_doThing_21 : decode cX9_doThing 21 = .ok (.aload_n 0, 1) := by decide +kernel
theorem dX9_doThing_22 : decode cX9_doThing 22 = .ok (.getfield 238, 3) := by decide +kernel
theorem dX9_doThing_25 : decode cX9_doThing 25 = .ok (.ifCond .ne 10, 3) := by decide +kernel
theorem dX9_doThing_28 : decode cX9_doThing 28 = .ok (.aload_n 0, 1) := by decide +kernel
theorem dX9_doThing_29 : decode cX9_doThing 29 = .ok (.iconst 3, 1) := by decide +kernel
theorem dX9_doThing_30 : decode cX9_doThing 30 = .ok (.lload 4, 2) := by decide +kernel
theorem dX9_doThing_32 : decode cX9_doThing 32 = .ok (.invokevirtual 274, 3) := by decide +kernel
theorem dX9_doThing_35 : decode cX9_doThing 35 = .ok (.goto 221, 3) := by decide +kernel
theorem dX9_doThing_38 : decode cX9_doThing 38 = .ok (.iload_n 1, 1) := by decide +kernel
theorem dX9_doThing_39 : decode cX9_doThing 39 = .ok (.sipush 188, 3) := by decide +kernel
theorem dX9_doThing_42 : decode cX9_doThing 42 = .ok (.if_icmp .eq 10, 3) := by decide +kernel
theorem dX9_doThing_45 : decode cX9_doThing 45 = .ok (.iload_n 1, 1) := by decide +kernel
theorem dX9_doThing_46 : decode cX9_doThing 46 = .ok (.sipush 189, 3) := by decide +kernel
theorem dX9_doThing_49 : decode cX9_doThing 49 = .ok (.if_icmp .ne 95, 3) := by decide +kernel
theorem dX9_doThing_52 : decode cX9_doThing 52 = .ok (.aload_n 0, 1) := by decide +kernel
theorem dX9_doThing_53 : decode cX9_doThing 53 = .ok (.iconst 0, 1) := by decide +kernel
theorem dX9_doThing_54 : decode cX9_doThing 54 = .ok (.invokevirtual 320, 3) := by decide +kernel
theorem dX9_doThing_57 : decode cX9_doThing 57 = .ok (.lstore 4, 2) := by decide +kernel
theorem dX9_doThing_59 : decode cX9_doThing 59 = .ok (.lload 4, 2) := by decide +kernel
theorem dX9_doThing_61 : decode cX9_doThing 61 = .ok (.lconst 0, 1) := by decide +kernel
theorem dX9_doThing_62 : decode cX9_doThing 62 = .ok (.lcmp, 1) := by decide +kernel
theorem dX9_doThing_63 : decode cX9_doThing 63 = .ok (.ifCond .ge 9, 3) := by decide +kernel
theorem dX9_doThing_66 : decode cX9_doThing 66 = .ok (.aload_n 0, 1) := by decide +kernel
theorem dX9_doThing_67 : decode cX9_doThing 67 = .ok (.iconst 4, 1) := by decide +kernel
theorem dX9_doThing_68 : decode cX9_doThing 68 = .ok (.invokevirtual 328, 3) := by decide +kernel
theorem dX9_doThing_71 : decode cX9_doThing 71 = .ok (.return_, 1) := by decide +kernel
theorem dX9_doThing_72 : decode cX9_doThing 72 = .ok (.iload_n 1, 1) := by decide +kernel
theorem dX9_doThing_73 : decode cX9_doThing 73 = .ok (.sipush 189, 3) := by decide +kernel
theorem dX9_doThing_76 : decode cX9_doThing 76 = .ok (.if_icmp .ne 8, 3) := by decide +kernel
theorem dX9_doThing_79 : decode cX9_doThing 79 = .ok (.bipush 12, 2) := by decide +kernel
theorem dX9_doThing_81 : decode cX9_doThing 81 = .ok (.goto 4, 3) := by decide +kernel
theorem dX9_doThing_84 : decode cX9_doThing 84 = .ok (.iload_n 2, 1) := by decide +kernel
theorem dX9_doThing_85 : decode cX9_doThing 85 = .ok (.istore 6, 2) := by decide +kernel
theorem dX9_doThing_87 : decode cX9_doThing 87 = .ok (.iload 6, 2) := by decide +kernel
theorem dX9_doThing_89 : decode cX9_doThing 89 = .ok (.lload 4, 2) := by decide +kernel
theorem dX9_doThing_91 : decode cX9_doThing 91 = .ok (.invokestatic 221, 3) := by decide +kernel
theorem dX9_doThing_94 : decode cX9_doThing 94 = .ok (.aload_n 0, 1) := by decide +kernel
theorem dX9_doThing_95 : decode cX9_doThing 95 = .ok (.getfield 120, 3) := by decide +kernel
theorem dX9_doThing_98 : decode cX9_doThing 98 = .ok (.i2l, 1) := by decide +kernel
theorem dX9_doThing_99 : decode cX9_doThing 99 = .ok (.lcmp, 1) := by decide +kernel
theorem dX9_doThing_100 : decode cX9_doThing 100 = .ok (.ifCond .le 10, 3) := by decide +kernel
theorem dX9_doThing_103 : decode cX9_doThing 103 = .ok (.aload_n 0, 1) := by decide +kernel
theorem dX9_doThing_104 : decode cX9_doThing 104 = .ok (.invokevirtual 345, 3) := by decide +kernel
theorem dX9_doThing_107 : decode cX9_doThing 107 = .ok (.goto 13, 3) := by decide +kernel
theorem dX9_doThing_110 : decode cX9_doThing 110 = .ok (.aload_n 0, 1) := by decide +kernel
theorem dX9_doThing_111 : decode cX9_doThing 111 = .ok (.iconst 0, 1) := by decide +kernel
theorem dX9_doThing_112 : decode cX9_doThing 112 = .ok (.iload 6, 2) := by decide +kernel
theorem dX9_doThing_114 : decode cX9_doThing 114 = .ok (.lload 4, 2) := by decide +kernel
theorem dX9_doThing_116 : decode cX9_doThing 116 = .ok (.l2i, 1) := by decide +kernel
theorem dX9_doThing_117 : decode cX9_doThing 117 = .ok (.invokevirtual 263, 3) := by decide +kernel
theorem dX9_doThing_120 : decode cX9_doThing 120 = .ok (.lstore 7, 2) := by decide +kernel
theorem dX9_doThing_122 : decode cX9_doThing 122 = .ok (.aload_n 0, 1) := by decide +kernel
theorem dX9_doThing_123 : decode cX9_doThing 123 = .ok (.getfield 238, 3) := by decide +kernel
theorem dX9_doThing_126 : decode cX9_doThing 126 = .ok (.ifCond .ne 15, 3) := by decide +kernel
theorem dX9_doThing_129 : decode cX9_doThing 129 = .ok (.aload_n 0, 1) := by decide +kernel
theorem dX9_doThing_130 : decode cX9_doThing 130 = .ok (.invokevirtual 284, 3) := by decide +kernel
theorem dX9_doThing_133 : decode cX9_doThing 133 = .ok (.pop2, 1) := by decide +kernel
theorem dX9_doThing_134 : decode cX9_doThing 134 = .ok (.aload_n 0, 1) := by decide +kernel
theorem dX9_doThing_135 : decode cX9_doThing 135 = .ok (.iconst 3, 1) := by decide +kernel
theorem dX9_doThing_136 : decode cX9_doThing 136 = .ok (.lload 7, 2) := by decide +kernel
theorem dX9_doThing_138 : decode cX9_doThing 138 = .ok (.invokevirtual 274, 3) := by decide +kernel
theorem dX9_doThing_141 : decode cX9_doThing 141 = .ok (.goto 115, 3) := by decide +kernel
theorem dX9_doThing_144 : decode cX9_doThing 144 = .ok (.iload_n 1, 1) := by decide +kernel
theorem dX9_doThing_145 : decode cX9_doThing 145 = .ok (.sipush 192, 3) := by decide +kernel
theorem dX9_doThing_148 : decode cX9_doThing 148 = .ok (.if_icmp .eq 10, 3) := by decide +kernel
theorem dX9_doThing_151 : decode cX9_doThing 151 = .ok (.iload_n 1, 1) := by decide +kernel
theorem dX9_doThing_152 : decode cX9_doThing 152 = .ok (.sipush 193, 3) := by decide +kernel
theorem dX9_doThing_155 : decode cX9_doThing 155 = .ok (.if_icmp .ne 94, 3) := by decide +kernel
theorem dX9_doThing_158 : decode cX9_doThing 158 = .ok (.aload_n 0, 1) := by decide +kernel
theorem dX9_doThing_159 : decode cX9_doThing 159 = .ok (.iconst 0, 1) := by decide +kernel
theorem dX9_doThing_160 : decode cX9_doThing 160 = .ok (.invokevirtual 320, 3) := by decide +kernel
theorem dX9_doThing_163 : decode cX9_doThing 163 = .ok (.lstore 4, 2) := by decide +kernel
theorem dX9_doThing_165 : decode cX9_doThing 165 = .ok (.lload 4, 2) := by decide +kernel
theorem dX9_doThing_167 : decode cX9_doThing 167 = .ok (.lconst 0, 1) := by decide +kernel
theorem dX9_doThing_168 : decode cX9_doThing 168 = .ok (.lcmp, 1) := by decide +kernel
theorem dX9_doThing_169 : decode cX9_doThing 169 = .ok (.ifCond .eq 20, 3) := by decide +kernel
theorem dX9_doThing_172 : decode cX9_doThing 172 = .ok (.aload_n 0, 1) := by decide +kernel
theorem dX9_doThing_173 : decode cX9_doThing 173 = .ok (.lload 4, 2) := by decide +kernel
theorem dX9_doThing_175 : decode cX9_doThing 175 = .ok (.l2i, 1) := by decide +kernel
theorem dX9_doThing_176 : decode cX9_doThing 176 = .ok (.iconst 1, 1) := by decide +kernel
theorem dX9_doThing_177 : decode cX9_doThing 177 = .ok (.isub, 1) := by decide +kernel
theorem dX9_doThing_178 : decode cX9_doThing 178 = .ok (.iload_n 2, 1) := by decide +kernel
theorem dX9_doThing_179 : decode cX9_doThing 179 = .ok (.invokevirtual 270, 3) := by decide +kernel
theorem dX9_doThing_182 : decode cX9_doThing 182 = .ok (.ifCond .eq 7, 3) := by decide +kernel
theorem dX9_doThing_185 : decode cX9_doThing 185 = .ok (.iconst 1, 1) := by decide +kernel
theorem dX9_doThing_186 : decode cX9_doThing 186 = .ok (.goto 4, 3) := by decide +kernel
theorem dX9_doThing_189 : decode cX9_doThing 189 = .ok (.iconst 0, 1) := by decide +kernel
theorem dX9_doThing_190 : decode cX9_doThing 190 = .ok (.istore 6, 2) := by decide +kernel
theorem dX9_doThing_192 : decode cX9_doThing 192 = .ok (.iload_n 1, 1) := by decide +kernel
theorem dX9_doThing_193 : decode cX9_doThing 193 = .ok (.sipush 192, 3) := by decide +kernel
theorem dX9_doThing_196 : decode cX9_doThing 196 = .ok (.if_icmp .ne 23, 3) := by decide +kernel
theorem dX9_doThing_199 : decode cX9_doThing 199 = .ok (.lload 4, 2) := by decide +kernel
theorem dX9_doThing_201 : decode cX9_doThing 201 = .ok (.lconst 0, 1) := by decide +kernel
theorem dX9_doThing_202 : decode cX9_doThing 202 = .ok (.lcmp, 1) := by decide +kernel
theorem dX9_doThing_203 : decode cX9_doThing 203 = .ok (.ifCond .eq 16, 3) := by decide +kernel
theorem dX9_doThing_206 : decode cX9_doThing 206 = .ok (.iload 6, 2) := by decide +kernel
theorem dX9_doThing_208 : decode cX9_doThing 208 = .ok (.ifCond .ne 11, 3) := by decide +kernel
theorem dX9_doThing_211 : decode cX9_doThing 211 = .ok (.aload_n 0, 1) := by decide +kernel
theorem dX9_doThing_212 : decode cX9_doThing 212 = .ok (.iconst 5, 1) := by decide +kernel
theorem dX9_doThing_213 : decode cX9_doThing 213 = .ok (.invokevirtual 328, 3) := by decide +kernel
theorem dX9_doThing_216 : decode cX9_doThing 216 = .ok (.goto 30, 3) := by decide +kernel
theorem dX9_doThing_219 : decode cX9_doThing 219 = .ok (.iload_n 1, 1) := by decide +kernel
theorem dX9_doThing_220 : decode cX9_doThing 220 = .ok (.sipush 193, 3) := by decide +kernel
theorem dX9_doThing_223 : decode cX9_doThing 223 = .ok (.if_icmp .ne 23, 3) := by decide +kernel
theorem dX9_doThing_226 : decode cX9_doThing 226 = .ok (.aload_n 0, 1) := by decide +kernel
theorem dX9_doThing_227 : decode cX9_doThing 227 = .ok (.invokevirtual 284, 3) := by decide +kernel
theorem dX9_doThing_230 : decode cX9_doThing 230 = .ok (.pop2, 1) := by decide +kernel
theorem dX9_doThing_231 : decode cX9_doThing 231 = .ok (.aload_n 0, 1) := by decide +kernel
theorem dX9_doThing_232 : decode cX9_doThing 232 = .ok (.iconst 1, 1) := by decide +kernel
theorem dX9_doThing_233 : decode cX9_doThing 233 = .ok (.iload 6, 2) := by decide +kernel
theorem dX9_doThing_235 : decode cX9_doThing 235 = .ok (.ifCond .eq 7, 3) := by decide +kernel
theorem dX9_doThing_238 : decode cX9_doThing 238 = .ok (.lconst 1, 1) := by decide +kernel
theorem dX9_doThing_239 : decode cX9_doThing 239 = .ok (.goto 4, 3) := by decide +kernel
theorem dX9_doThing_242 : decode cX9_doThing 242 = .ok (.lconst 0, 1) := by decide +kernel
theorem dX9_doThing_243 : decode cX9_doThing 243 = .ok (.invokevirtual 274, 3) := by decide +kernel
theorem dX9_doThing_246 : decode cX9_doThing 246 = .ok (.goto 10, 3) := by decide +kernel
theorem dX9_doThing_249 : decode cX9_doThing 249 = .ok (.aload_n 0, 1) := by decide +kernel
theorem dX9_doThing_250 : decode cX9_doThing 250 = .ok (.iload_n 1, 1) := by decide +kernel
theorem dX9_doThing_251 : decode cX9_doThing 251 = .ok (.iload_n 2, 1) := by decide +kernel
theorem dX9_doThing_252 : decode cX9_doThing 252 = .ok (.iload_n 3, 1) := by decide +kernel
theorem dX9_doThing_253 : decode cX9_doThing 253 = .ok (.invokevirtual 348, 3) := by decide +kernel
theorem dX9_doThing_256 : decode cX9_doThing 256 = .ok (.return_, 1) := by decide +kernel
theorem dX9_doThrow_0 : decode cX9_doThrow 0 = .ok (.aload_n 0, 1) := by decide +kernel
theorem dX9_doThrow_1 : decode cX9_doThrow 1 = .ok (.iconst 0, 1) := by decide +kernel
theorem dX9_doThrow_2 : decode cX9_doThrow 2 = .ok (.invokevirtual 320, 3) := by decide +kernel
theorem dX9_doThrow_5 : decode cX9_doThrow 5 = .ok (.lstore_n 1, 1) := by decide +kernel
theorem dX9_doThrow_6 : decode cX9_doThrow 6 = .ok (.lload_n 1, 1) := by decide +kernel
theorem dX9_doThrow_7 : decode cX9_doThrow 7 = .ok (.lconst 0, 1) := by decide +kernel
theorem dX9_doThrow_8 : decode cX9_doThrow 8 = .ok (.lcmp, 1) := by decide +kernel
theorem dX9_doThrow_9 : decode cX9_doThrow 9 = .ok (.ifCond .ne 11, 3) := by decide +kernel
theorem dX9_doThrow_12 : decode cX9_doThrow 12 = .ok (.aload_n 0, 1) := by decide +kernel
theorem dX9_doThrow_13 : decode cX9_doThrow 13 = .ok (.iconst 2, 1) := by decide +kernel
theorem dX9_doThrow_14 : decode cX9_doThrow 14 = .ok (.invokevirtual 314, 3) := by decide +kernel
theorem dX9_doThrow_17 : decode cX9_doThrow 17 = .ok (.goto 31, 3) := by decide +kernel
theorem dX9_doThrow_20 : decode cX9_doThrow 20 = .ok (.aload_n 0, 1) := by decide +kernel
theorem dX9_doThrow_21 : decode cX9_doThrow 21 = .ok (.getfield 80, 3) := by decide +kernel
theorem dX9_doThrow_24 : decode cX9_doThrow 24 = .ok (.lload_n 1, 1) := by decide +kernel
theorem dX9_doThrow_25 : decode cX9_doThrow 25 = .ok (.l2i, 1) := by decide +kernel
theorem dX9_doThrow_26 : decode cX9_doThrow 26 = .ok (.iconst 1, 1) := by decide +kernel
theorem dX9_doThrow_27 : decode cX9_doThrow 27 = .ok (.isub, 1) := by decide +kernel
theorem dX9_doThrow_28 : decode cX9_doThrow 28 = .ok (.iaload, 1) := by decide +kernel
theorem dX9_doThrow_29 : decode cX9_doThrow 29 = .ok (.ifCond .le 11, 3) := by decide +kernel
theorem dX9_doThrow_32 : decode cX9_doThrow 32 = .ok (.aload_n 0, 1) := by decide +kernel
theorem dX9_doThrow_33 : decode cX9_doThrow 33 = .ok (.iconst 5, 1) := by decide +kernel
theorem dX9_doThrow_34 : decode cX9_doThrow 34 = .ok (.invokevirtual 314, 3) := by decide +kernel
theorem dX9_doThrow_37 : decode cX9_doThrow 37 = .ok (.goto 11, 3) := by decide +kernel
theorem dX9_doThrow_40 : decode cX9_doThrow 40 = .ok (.aload_n 0, 1) := by decide +kernel
theorem dX9_doThrow_41 : decode cX9_doThrow 41 = .ok (.lload_n 1, 1) := by decide +kernel
theorem dX9_doThrow_42 : decode cX9_doThrow 42 = .ok (.l2i, 1) := by decide +kernel
theorem dX9_doThrow_43 : decode cX9_doThrow 43 = .ok (.iconst 1, 1) := by decide +kernel
theorem dX9_doThrow_44 : decode cX9_doThrow 44 = .ok (.isub, 1) := by decide +kernel
theorem dX9_doThrow_45 : decode cX9_doThrow 45 = .ok (.invokevirtual 267, 3) := by decide +kernel
theorem dX9_doThrow_48 : decode cX9_doThrow 48 = .ok (.return_, 1) := by decide +kernel
theorem dX9_holds_0 : decode cX9_holds 0 = .ok (.iload_n 0, 1) := by decide +kernel
theorem dX9_holds_1 : decode cX9_holds 1 = .ok (.ifCond .ne 17, 3) := by decide +kernel
theorem dX9_holds_4 : decode cX9_holds 4 = .ok (.lload_n 1, 1) := by decide +kernel
theorem dX9_holds_5 : decode cX9_holds 5 = .ok (.lload_n 3, 1) := by decide +kernel
theorem dX9_holds_6 : decode cX9_holds 6 = .ok (.lcmp, 1) := by decide +kernel
theorem dX9_holds_7 : decode cX9_holds 7 = .ok (.ifCond .ne 7, 3) := by decide +kernel
theorem dX9_holds_10 : decode cX9_holds 10 = .ok (.iconst 1, 1) := by decide +kernel
theorem dX9_holds_11 : decode cX9_holds 11 = .ok (.goto 94, 3) := by decide +kernel
theorem dX9_holds_14 : decode cX9_holds 14 = .ok (.iconst 0, 1) := by decide +kernel
theorem dX9_holds_15 : decode cX9_holds 15 = .ok (.goto 90, 3) := by decide +kernel
theorem dX9_holds_18 : decode cX9_holds 18 = .ok (.iload_n 0, 1) := by decide +kernel
theorem dX9_holds_19 : decode cX9_holds 19 = .ok (.iconst 1, 1) := by decide +kernel
theorem dX9_holds_20 : decode cX9_holds 20 = .ok (.if_icmp .ne 17, 3) := by decide +kernel
theorem dX9_holds_23 : decode cX9_holds 23 = .ok (.lload_n 1, 1) := by decide +kernel
theorem dX9_holds_24 : decode cX9_holds 24 = .ok (.lload_n 3, 1) := by decide +kernel
theorem dX9_holds_25 : decode cX9_holds 25 = .ok (.lcmp, 1) := by decide +kernel
theorem dX9_holds_26 : decode cX9_holds 26 = .ok (.ifCond .eq 7, 3) := by decide +kernel
theorem dX9_holds_29 : decode cX9_holds 29 = .ok (.iconst 1, 1) := by decide +kernel
theorem dX9_holds_30 : decode cX9_holds 30 = .ok (.goto 75, 3) := by decide +kernel
theorem dX9_holds_33 : decode cX9_holds 33 = .ok (.iconst 0, 1) := by decide +kernel
theorem dX9_holds_34 : decode cX9_holds 34 = .ok (.goto 71, 3) := by decide +kernel
theorem dX9_holds_37 : decode cX9_holds 37 = .ok (.iload_n 0, 1) := by decide +kernel
theorem dX9_holds_38 : decode cX9_holds 38 = .ok (.iconst 2, 1) := by decide +kernel
theorem dX9_holds_39 : decode cX9_holds 39 = .ok (.if_icmp .ne 17, 3) := by decide +kernel
theorem dX9_holds_42 : decode cX9_holds 42 = .ok (.lload_n 1, 1) := by decide +kernel
theorem dX9_holds_43 : decode cX9_holds 43 = .ok (.lload_n 3, 1) := by decide +kernel
theorem dX9_holds_44 : decode cX9_holds 44 = .ok (.lcmp, 1) := by decide +kernel
theorem dX9_holds_45 : decode cX9_holds 45 = .ok (.ifCond .ge 7, 3) := by decide +kernel
theorem dX9_holds_48 : decode cX9_holds 48 = .ok (.iconst 1, 1) := by decide +kernel
theorem dX9_holds_49 : decode cX9_holds 49 = .ok (.goto 56, 3) := by decide +kernel
theorem dX9_holds_52 : decode cX9_holds 52 = .ok (.iconst 0, 1) := by decide +kernel
theorem dX9_holds_53 : decode cX9_holds 53 = .ok (.goto 52, 3) := by decide +kernel
theorem dX9_holds_56 : decode cX9_holds 56 = .ok (.iload_n 0, 1) := by decide +kernel
theorem dX9_holds_57 : decode cX9_holds 57 = .ok (.iconst 3, 1) := by decide +kernel
theorem dX9_holds_58 : decode cX9_holds 58 = .ok (.if_icmp .ne 17, 3) := by decide +kernel
theorem dX9_holds_61 : decode cX9_holds 61 = .ok (.lload_n 1, 1) := by decide +kernel
theorem dX9_holds_62 : decode cX9_holds 62 = .ok (.lload_n 3, 1) := by decide +kernel
theorem dX9_holds_63 : decode cX9_holds 63 = .ok (.lcmp, 1) := by decide +kernel
theorem dX9_holds_64 : decode cX9_holds 64 = .ok (.ifCond .lt 7, 3) := by decide +kernel
theorem dX9_holds_67 : decode cX9_holds 67 = .ok (.iconst 1, 1) := by decide +kernel
theorem dX9_holds_68 : decode cX9_holds 68 = .ok (.goto 37, 3) := by decide +kernel
theorem dX9_holds_71 : decode cX9_holds 71 = .ok (.iconst 0, 1) := by decide +kernel
theorem dX9_holds_72 : decode cX9_holds 72 = .ok (.goto 33, 3) := by decide +kernel
theorem dX9_holds_75 : decode cX9_holds 75 = .ok (.iload_n 0, 1) := by decide +kernel
theorem dX9_holds_76 : decode cX9_holds 76 = .ok (.iconst 4, 1) := by decide +kernel
theorem dX9_holds_77 : decode cX9_holds 77 = .ok (.if_icmp .ne 17, 3) := by decide +kernel
theorem dX9_holds_80 : decode cX9_holds 80 = .ok (.lload_n 1, 1) := by decide +kernel
theorem dX9_holds_81 : decode cX9_holds 81 = .ok (.lload_n 3, 1) := by decide +kernel
theorem dX9_holds_82 : decode cX9_holds 82 = .ok (.lcmp, 1) := by decide +kernel
theorem dX9_holds_83 : decode cX9_holds 83 = .ok (.ifCond .le 7, 3) := by decide +kernel
theorem dX9_holds_86 : decode cX9_holds 86 = .ok (.iconst 1, 1) := by decide +kernel
theorem dX9_holds_87 : decode cX9_holds 87 = .ok (.goto 18, 3) := by decide +kernel
theorem dX9_holds_90 : decode cX9_holds 90 = .ok (.iconst 0, 1) := by decide +kernel
theorem dX9_holds_91 : decode cX9_holds 91 = .ok (.goto 14, 3) := by decide +kernel
theorem dX9_holds_94 : decode cX9_holds 94 = .ok (.lload_n 1, 1) := by decide +kernel
theorem dX9_holds_95 : decode cX9_holds 95 = .ok (.lload_n 3, 1) := by decide +kernel
theorem dX9_holds_96 : decode cX9_holds 96 = .ok (.lcmp, 1) := by decide +kernel
theorem dX9_holds_97 : decode cX9_holds 97 = .ok (.ifCond .gt 7, 3) := by decide +kernel
theorem dX9_holds_100 : decode cX9_holds 100 = .ok (.iconst 1, 1) := by decide +kernel
theorem dX9_holds_101 : decode cX9_holds 101 = .ok (.goto 4, 3) := by decide +kernel
theorem dX9_holds_104 : decode cX9_holds 104 = .ok (.iconst 0, 1) := by decide +kernel
theorem dX9_holds_105 : decode cX9_holds 105 = .ok (.ireturn, 1) := by decide +kernel
theorem dX9_goes_0 : decode cX9_goes 0 = .ok (.iload_n 1, 1) := by decide +kernel
theorem dX9_goes_1 : decode cX9_goes 1 = .ok (.sipush 167, 3) := by decide +kernel
theorem dX9_goes_4 : decode cX9_goes 4 = .ok (.if_icmp .ne 5, 3) := by decide +kernel
theorem dX9_goes_7 : decode cX9_goes 7 = .ok (.iconst 1, 1) := by decide +kernel
theorem dX9_goes_8 : decode cX9_goes 8 = .ok (.ireturn, 1) := by decide +kernel
theorem dX9_goes_9 : decode cX9_goes 9 = .ok (.aload_n 0, 1) := by decide +kernel
theorem dX9_goes_10 : decode cX9_goes 10 = .ok (.invokevirtual 284, 3) := by decide +kernel
theorem dX9_goes_13 : decode cX9_goes 13 = .ok (.lstore_n 2, 1) := by decide +kernel
theorem dX9_goes_14 : decode cX9_goes 14 = .ok (.iload_n 1, 1) := by decide +kernel
theorem dX9_goes_15 : decode cX9_goes 15 = .ok (.sipush 159, 3) := by decide +kernel
theorem dX9_goes_18 : decode cX9_goes 18 = .ok (.if_icmp .ge 14, 3) := by decide +kernel
theorem dX9_goes_21 : decode cX9_goes 21 = .ok (.iload_n 1, 1) := by decide +kernel
theorem dX9_goes_22 : decode cX9_goes 22 = .ok (.sipush 153, 3) := by decide +kernel
theorem dX9_goes_25 : decode cX9_goes 25 = .ok (.isub, 1) := by decide +kernel
theorem dX9_goes_26 : decode cX9_goes 26 = .ok (.lload_n 2, 1) := by decide +kernel
theorem dX9_goes_27 : decode cX9_goes 27 = .ok (.lconst 0, 1) := by decide +kernel
theorem dX9_goes_28 : decode cX9_goes 28 = .ok (.invokestatic 341, 3) := by decide +kernel
theorem dX9_goes_31 : decode cX9_goes 31 = .ok (.ireturn, 1) := by decide +kernel
theorem dX9_goes_32 : decode cX9_goes 32 = .ok (.iload_n 1, 1) := by decide +kernel
theorem dX9_goes_33 : decode cX9_goes 33 = .ok (.sipush 197, 3) := by decide +kernel
theorem dX9_goes_36 : decode cX9_goes 36 = .ok (.if_icmp .le 35, 3) := by decide +kernel
theorem dX9_goes_39 : decode cX9_goes 39 = .ok (.lload_n 2, 1) := by decide +kernel
theorem dX9_goes_40 : decode cX9_goes 40 = .ok (.lconst 0, 1) := by decide +kernel
theorem dX9_goes_41 : decode cX9_goes 41 = .ok (.lcmp, 1) := by decide +kernel
theorem dX9_goes_42 : decode cX9_goes 42 = .ok (.ifCond .ne 7, 3) := by decide +kernel
theorem dX9_goes_45 : decode cX9_goes 45 = .ok (.iconst 1, 1) := by decide +kernel
theorem dX9_goes_46 : decode cX9_goes 46 = .ok (.goto 4, 3) := by decide +kernel
theorem dX9_goes_49 : decode cX9_goes 49 = .ok (.iconst 0, 1) := by decide +kernel
theorem dX9_goes_50 : decode cX9_goes 50 = .ok (.iload_n 1, 1) := by decide +kernel
theorem dX9_goes_51 : decode cX9_goes 51 = .ok (.sipush 198, 3) := by decide +kernel
theorem dX9_goes_54 : decode cX9_goes 54 = .ok (.if_icmp .ne 7, 3) := by decide +kernel
theorem dX9_goes_57 : decode cX9_goes 57 = .ok (.iconst 1, 1) := by decide +kernel
theorem dX9_goes_58 : decode cX9_goes 58 = .ok (.goto 4, 3) := by decide +kernel
theorem dX9_goes_61 : decode cX9_goes 61 = .ok (.iconst 0, 1) := by decide +kernel
theorem dX9_goes_62 : decode cX9_goes 62 = .ok (.if_icmp .ne 7, 3) := by decide +kernel
theorem dX9_goes_65 : decode cX9_goes 65 = .ok (.iconst 1, 1) := by decide +kernel
theorem dX9_goes_66 : decode cX9_goes 66 = .ok (.goto 4, 3) := by decide +kernel
theorem dX9_goes_69 : decode cX9_goes 69 = .ok (.iconst 0, 1) := by decide +kernel
theorem dX9_goes_70 : decode cX9_goes 70 = .ok (.ireturn, 1) := by decide +kernel
theorem dX9_goes_71 : decode cX9_goes 71 = .ok (.aload_n 0, 1) := by decide +kernel
theorem dX9_goes_72 : decode cX9_goes 72 = .ok (.invokevirtual 284, 3) := by decide +kernel
theorem dX9_goes_75 : decode cX9_goes 75 = .ok (.lstore 4, 2) := by decide +kernel
theorem dX9_goes_77 : decode cX9_goes 77 = .ok (.iload_n 1, 1) := by decide +kernel
theorem dX9_goes_78 : decode cX9_goes 78 = .ok (.sipush 164, 3) := by decide +kernel
theorem dX9_goes_81 : decode cX9_goes 81 = .ok (.if_icmp .le 38, 3) := by decide +kernel
theorem dX9_goes_84 : decode cX9_goes 84 = .ok (.lload 4, 2) := by decide +kernel
theorem dX9_goes_86 : decode cX9_goes 86 = .ok (.lload_n 2, 1) := by decide +kernel
theorem dX9_goes_87 : decode cX9_goes 87 = .ok (.lcmp, 1) := by decide +kernel
theorem dX9_goes_88 : decode cX9_goes 88 = .ok (.ifCond .ne 7, 3) := by decide +kernel
theorem dX9_goes_91 : decode cX9_goes 91 = .ok (.iconst 1, 1) := by decide +kernel
theorem dX9_goes_92 : decode cX9_goes 92 = .ok (.goto 4, 3) := by decide +kernel
theorem dX9_goes_95 : decode cX9_goes 95 = .ok (.iconst 0, 1) := by decide +kernel
theorem dX9_goes_96 : decode cX9_goes 96 = .ok (.iload_n 1, 1) := by decide +kernel
theorem dX9_goes_97 : decode cX9_goes 97 = .ok (.sipush 165, 3) := by decide +kernel
theorem dX9_goes_100 : decode cX9_goes 100 = .ok (.if_icmp .ne 7, 3) := by decide +kernel
theorem dX9_goes_103 : decode cX9_goes 103 = .ok (.iconst 1, 1) := by decide +kernel
theorem dX9_goes_104 : decode cX9_goes 104 = .ok (.goto 4, 3) := by decide +kernel
theorem dX9_goes_107 : decode cX9_goes 107 = .ok (.iconst 0, 1) := by decide +kernel
theorem dX9_goes_108 : decode cX9_goes 108 = .ok (.if_icmp .ne 7, 3) := by decide +kernel
theorem dX9_goes_111 : decode cX9_goes 111 = .ok (.iconst 1, 1) := by decide +kernel
theorem dX9_goes_112 : decode cX9_goes 112 = .ok (.goto 18, 3) := by decide +kernel
theorem dX9_goes_115 : decode cX9_goes 115 = .ok (.iconst 0, 1) := by decide +kernel
theorem dX9_goes_116 : decode cX9_goes 116 = .ok (.goto 14, 3) := by decide +kernel
theorem dX9_goes_119 : decode cX9_goes 119 = .ok (.iload_n 1, 1) := by decide +kernel
theorem dX9_goes_120 : decode cX9_goes 120 = .ok (.sipush 159, 3) := by decide +kernel
theorem dX9_goes_123 : decode cX9_goes 123 = .ok (.isub, 1) := by decide +kernel
theorem dX9_goes_124 : decode cX9_goes 124 = .ok (.lload 4, 2) := by decide +kernel
theorem dX9_goes_126 : decode cX9_goes 126 = .ok (.lload_n 2, 1) := by decide +kernel
theorem dX9_goes_127 : decode cX9_goes 127 = .ok (.invokestatic 341, 3) := by decide +kernel
theorem dX9_goes_130 : decode cX9_goes 130 = .ok (.ireturn, 1) := by decide +kernel
theorem dX9_step_0 : decode cX9_step 0 = .ok (.aload_n 0, 1) := by decide +kernel
theorem dX9_step_1 : decode cX9_step 1 = .ok (.getfield 214, 3) := by decide +kernel
theorem dX9_step_4 : decode cX9_step 4 = .ok (.iconst 1, 1) := by decide +kernel
theorem dX9_step_5 : decode cX9_step 5 = .ok (.isub, 1) := by decide +kernel
theorem dX9_step_6 : decode cX9_step 6 = .ok (.istore_n 1, 1) := by decide +kernel
theorem dX9_step_7 : decode cX9_step 7 = .ok (.aload_n 0, 1) := by decide +kernel
theorem dX9_step_8 : decode cX9_step 8 = .ok (.getfield 99, 3) := by decide +kernel
theorem dX9_step_11 : decode cX9_step 11 = .ok (.iload_n 1, 1) := by decide +kernel
theorem dX9_step_12 : decode cX9_step 12 = .ok (.iaload, 1) := by decide +kernel
theorem dX9_step_13 : decode cX9_step 13 = .ok (.istore_n 2, 1) := by decide +kernel
theorem dX9_step_14 : decode cX9_step 14 = .ok (.aload_n 0, 1) := by decide +kernel
theorem dX9_step_15 : decode cX9_step 15 = .ok (.getfield 102, 3) := by decide +kernel
theorem dX9_step_18 : decode cX9_step 18 = .ok (.iload_n 1, 1) := by decide +kernel
theorem dX9_step_19 : decode cX9_step 19 = .ok (.iaload, 1) := by decide +kernel
theorem dX9_step_20 : decode cX9_step 20 = .ok (.istore_n 3, 1) := by decide +kernel
theorem dX9_step_21 : decode cX9_step 21 = .ok (.aload_n 0, 1) := by decide +kernel
theorem dX9_step_22 : decode cX9_step 22 = .ok (.iload_n 2, 1) := by decide +kernel
theorem dX9_step_23 : decode cX9_step 23 = .ok (.iload_n 3, 1) := by decide +kernel
theorem dX9_step_24 : decode cX9_step 24 = .ok (.invokevirtual 160, 3) := by decide +kernel
theorem dX9_step_27 : decode cX9_step 27 = .ok (.istore 4, 2) := by decide +kernel
theorem dX9_step_29 : decode cX9_step 29 = .ok (.iload 4, 2) := by decide +kernel
theorem dX9_step_31 : decode cX9_step 31 = .ok (.invokestatic 175, 3) := by decide +kernel
theorem dX9_step_34 : decode cX9_step 34 = .ok (.istore 5, 2) := by decide +kernel
theorem dX9_step_36 : decode cX9_step 36 = .ok (.iload 5, 2) := by decide +kernel
theorem dX9_step_38 : decode cX9_step 38 = .ok (.iconst 1, 1) := by decide +kernel
theorem dX9_step_39 : decode cX9_step 39 = .ok (.if_icmp .le 14, 3) := by decide +kernel
theorem dX9_step_42 : decode cX9_step 42 = .ok (.aload_n 0, 1) := by decide +kernel
theorem dX9_step_43 : decode cX9_step 43 = .ok (.iload_n 2, 1) := by decide +kernel
theorem dX9_step_44 : decode cX9_step 44 = .ok (.iload_n 3, 1) := by decide +kernel
theorem dX9_step_45 : decode cX9_step 45 = .ok (.iconst 1, 1) := by decide +kernel
theorem dX9_step_46 : decode cX9_step 46 = .ok (.iadd, 1) := by decide +kernel
theorem dX9_step_47 : decode cX9_step 47 = .ok (.invokevirtual 160, 3) := by decide +kernel
theorem dX9_step_50 : decode cX9_step 50 = .ok (.goto 4, 3) := by decide +kernel
theorem dX9_step_53 : decode cX9_step 53 = .ok (.iconst 0, 1) := by decide +kernel
theorem dX9_step_54 : decode cX9_step 54 = .ok (.istore 6, 2) := by decide +kernel
theorem dX9_step_56 : decode cX9_step 56 = .ok (.iload 5, 2) := by decide +kernel
theorem dX9_step_58 : decode cX9_step 58 = .ok (.iconst 2, 1) := by decide +kernel
theorem dX9_step_59 : decode cX9_step 59 = .ok (.if_icmp .le 14, 3) := by decide +kernel
theorem dX9_step_62 : decode cX9_step 62 = .ok (.aload_n 0, 1) := by decide +kernel
theorem dX9_step_63 : decode cX9_step 63 = .ok (.iload_n 2, 1) := by decide +kernel
theorem dX9_step_64 : decode cX9_step 64 = .ok (.iload_n 3, 1) := by decide +kernel
theorem dX9_step_65 : decode cX9_step 65 = .ok (.iconst 2, 1) := by decide +kernel
theorem dX9_step_66 : decode cX9_step 66 = .ok (.iadd, 1) := by decide +kernel
theorem dX9_step_67 : decode cX9_step 67 = .ok (.invokevirtual 160, 3) := by decide +kernel
theorem dX9_step_70 : decode cX9_step 70 = .ok (.goto 4, 3) := by decide +kernel
theorem dX9_step_73 : decode cX9_step 73 = .ok (.iconst 0, 1) := by decide +kernel
theorem dX9_step_74 : decode cX9_step 74 = .ok (.istore 7, 2) := by decide +kernel
theorem dX9_step_76 : decode cX9_step 76 = .ok (.iload 4, 2) := by decide +kernel
theorem dX9_step_78 : decode cX9_step 78 = .ok (.bipush 46, 2) := by decide +kernel
theorem dX9_step_80 : decode cX9_step 80 = .ok (.if_icmp .ge 17, 3) := by decide +kernel
theorem dX9_step_83 : decode cX9_step 83 = .ok (.aload_n 0, 1) := by decide +kernel
theorem dX9_step_84 : decode cX9_step 84 = .ok (.iload_n 1, 1) := by decide +kernel
theorem dX9_step_85 : decode cX9_step 85 = .ok (.iload 4, 2) := by decide +kernel
theorem dX9_step_87 : decode cX9_step 87 = .ok (.iload 6, 2) := by decide +kernel
theorem dX9_step_89 : decode cX9_step 89 = .ok (.iload 7, 2) := by decide +kernel
theorem dX9_step_91 : decode cX9_step 91 = .ok (.invokevirtual 278, 3) := by decide +kernel
theorem dX9_step_94 : decode cX9_step 94 = .ok (.goto 233, 3) := by decide +kernel
theorem dX9_step_97 : decode cX9_step 97 = .ok (.iload 4, 2) := by decide +kernel
theorem dX9_step_99 : decode cX9_step 99 = .ok (.bipush 54, 2) := by decide +kernel
theorem dX9_step_101 : decode cX9_step 101 = .ok (.if_icmp .ge 12, 3) := by decide +kernel
theorem dX9_step_104 : decode cX9_step 104 = .ok (.aload_n 0, 1) := by decide +kernel
theorem dX9_step_105 : decode cX9_step 105 = .ok (.iload 4, 2) := by decide +kernel
theorem dX9_step_107 : decode cX9_step 107 = .ok (.invokevirtual 281, 3) := by decide +kernel
theorem dX9_step_110 : decode cX9_step 110 = .ok (.goto 217, 3) := by decide +kernel
theorem dX9_step_113 : decode cX9_step 113 = .ok (.iload 4, 2) := by decide +kernel
theorem dX9_step_115 : decode cX9_step 115 = .ok (.bipush 60, 2) := by decide +kernel
theorem dX9_step_117 : decode cX9_step 117 = .ok (.if_icmp .ge 57, 3) := by decide +kernel
theorem dX9_step_120 : decode cX9_step 120 = .ok (.aload_n 0, 1) := by decide +kernel
theorem dX9_step_121 : decode cX9_step 121 = .ok (.getfield 111, 3) := by decide +kernel
theorem dX9_step_124 : decode cX9_step 124 = .ok (.bipush 16, 2) := by decide +kernel
theorem dX9_step_126 : decode cX9_step 126 = .ok (.iload_n 1, 1) := by decide +kernel
theorem dX9_step_127 : decode cX9_step 127 = .ok (.imul, 1) := by decide +kernel
theorem dX9_step_128 : decode cX9_step 128 = .ok (.iload 6, 2) := by decide +kernel
theorem dX9_step_130 : decode cX9_step 130 = .ok (.iadd, 1) := by decide +kernel
theorem dX9_step_131 : decode cX9_step 131 = .ok (.iload 4, 2) := by decide +kernel
theorem dX9_step_133 : decode cX9_step 133 = .ok (.bipush 54, 2) := by decide +kernel
theorem dX9_step_135 : decode cX9_step 135 = .ok (.if_icmp .ne 7, 3) := by decide +kernel
theorem dX9_step_138 : decode cX9_step 138 = .ok (.iconst 1, 1) := by decide +kernel
theorem dX9_step_139 : decode cX9_step 139 = .ok (.goto 15, 3) := by decide +kernel
theorem dX9_step_142 : decode cX9_step 142 = .ok (.iload 4, 2) := by decide +kernel
theorem dX9_step_144 : decode cX9_step 144 = .ok (.bipush 55, 2) := by decide +kernel
theorem dX9_step_146 : decode cX9_step 146 = .ok (.if_icmp .ne 7, 3) := by decide +kernel
theorem dX9_step_149 : decode cX9_step 149 = .ok (.iconst 2, 1) := by decide +kernel
theorem dX9_step_150 : decode cX9_step 150 = .ok (.goto 4, 3) := by decide +kernel
theorem dX9_step_153 : decode cX9_step 153 = .ok (.iconst 3, 1) := by decide +kernel
theorem dX9_step_154 : decode cX9_step 154 = .ok (.iastore, 1) := by decide +kernel
theorem dX9_step_155 : decode cX9_step 155 = .ok (.aload_n 0, 1) := by decide +kernel
theorem dX9_step_156 : decode cX9_step 156 = .ok (.getfield 108, 3) := by decide +kernel
theorem dX9_step_159 : decode cX9_step 159 = .ok (.bipush 16, 2) := by decide +kernel
theorem dX9_step_161 : decode cX9_step 161 = .ok (.iload_n 1, 1) := by decide +kernel
theorem dX9_step_162 : decode cX9_step 162 = .ok (.imul, 1) := by decide +kernel
theorem dX9_step_163 : decode cX9_step 163 = .ok (.iload 6, 2) := by decide +kernel
theorem dX9_step_165 : decode cX9_step 165 = .ok (.iadd, 1) := by decide +kernel
theorem dX9_step_166 : decode cX9_step 166 = .ok (.aload_n 0, 1) := by decide +kernel
theorem dX9_step_167 : decode cX9_step 167 = .ok (.invokevirtual 284, 3) := by decide +kernel
theorem dX9_step_170 : decode cX9_step 170 = .ok (.lastore, 1) := by decide +kernel
theorem dX9_step_171 : decode cX9_step 171 = .ok (.goto 156, 3) := by decide +kernel
theorem dX9_step_174 : decode cX9_step 174 = .ok (.iload 4, 2) := by decide +kernel
theorem dX9_step_176 : decode cX9_step 176 = .ok (.bipush 87, 2) := by decide +kernel
theorem dX9_step_178 : decode cX9_step 178 = .ok (.if_icmp .ge 12, 3) := by decide +kernel
theorem dX9_step_181 : decode cX9_step 181 = .ok (.aload_n 0, 1) := by decide +kernel
theorem dX9_step_182 : decode cX9_step 182 = .ok (.iload 4, 2) := by decide +kernel
theorem dX9_step_184 : decode cX9_step 184 = .ok (.invokevirtual 287, 3) := by decide +kernel
theorem dX9_step_187 : decode cX9_step 187 = .ok (.goto 140, 3) := by decide +kernel
theorem dX9_step_190 : decode cX9_step 190 = .ok (.iload 4, 2) := by decide +kernel
theorem dX9_step_192 : decode cX9_step 192 = .ok (.bipush 96, 2) := by decide +kernel
theorem dX9_step_194 : decode cX9_step 194 = .ok (.if_icmp .ge 13, 3) := by decide +kernel
theorem dX9_step_197 : decode cX9_step 197 = .ok (.aload_n 0, 1) := by decide +kernel
theorem dX9_step_198 : decode cX9_step 198 = .ok (.iload_n 1, 1) := by decide +kernel
theorem dX9_step_199 : decode cX9_step 199 = .ok (.iload 4, 2) := by decide +kernel
theorem dX9_step_201 : decode cX9_step 201 = .ok (.invokevirtual 290, 3) := by decide +kernel
theorem dX9_step_204 : decode cX9_step 204 = .ok (.goto 123, 3) := by decide +kernel
theorem dX9_step_207 : decode cX9_step 207 = .ok (.iload 4, 2) := by decide +kernel
theorem dX9_step_209 : decode cX9_step 209 = .ok (.sipush 149, 3) := by decide +kernel
theorem dX9_step_212 : decode cX9_step 212 = .ok (.if_icmp .ge 17, 3) := by decide +kernel
theorem dX9_step_215 : decode cX9_step 215 = .ok (.aload_n 0, 1) := by decide +kernel
theorem dX9_step_216 : decode cX9_step 216 = .ok (.iload_n 1, 1) := by decide +kernel
theorem dX9_step_217 : decode cX9_step 217 = .ok (.iload 4, 2) := by decide +kernel
theorem dX9_step_219 : decode cX9_step 219 = .ok (.iload 6, 2) := by decide +kernel
theorem dX9_step_221 : decode cX9_step 221 = .ok (.iload 7, 2) := by decide +kernel
theorem dX9_step_223 : decode cX9_step 223 = .ok (.invokevirtual 293, 3) := by decide +kernel
theorem dX9_step_226 : decode cX9_step 226 = .ok (.goto 101, 3) := by decide +kernel
theorem dX9_step_229 : decode cX9_step 229 = .ok (.iload 4, 2) := by decide +kernel
theorem dX9_step_231 : decode cX9_step 231 = .ok (.sipush 168, 3) := by decide +kernel
theorem dX9_step_234 : decode cX9_step 234 = .ok (.if_icmp .lt 11, 3) := by decide +kernel
theorem dX9_step_237 : decode cX9_step 237 = .ok (.iload 4, 2) := by decide +kernel
theorem dX9_step_239 : decode cX9_step 239 = .ok (.sipush 197, 3) := by decide +kernel
theorem dX9_step_242 : decode cX9_step 242 = .ok (.if_icmp .le 32, 3) := by decide +kernel
theorem dX9_step_245 : decode cX9_step 245 = .ok (.aload_n 0, 1) := by decide +kernel
theorem dX9_step_246 : decode cX9_step 246 = .ok (.getfield 102, 3) := by decide +kernel
theorem dX9_step_249 : decode cX9_step 249 = .ok (.iload_n 1, 1) := by decide +kernel
theorem dX9_step_250 : decode cX9_step 250 = .ok (.aload_n 0, 1) := by decide +kernel
theorem dX9_step_251 : decode cX9_step 251 = .ok (.iload 4, 2) := by decide +kernel
theorem dX9_step_253 : decode cX9_step 253 = .ok (.invokevirtual 296, 3) := by decide +kernel
theorem dX9_step_256 : decode cX9_step 256 = .ok (.ifCond .eq 12, 3) := by decide +kernel
theorem dX9_step_259 : decode cX9_step 259 = .ok (.aload_n 0, 1) := by decide +kernel
theorem dX9_step_260 : decode cX9_step 260 = .ok (.iload_n 2, 1) := by decide +kernel
theorem dX9_step_261 : decode cX9_step 261 = .ok (.iload_n 3, 1) := by decide +kernel
theorem dX9_step_262 : decode cX9_step 262 = .ok (.invokevirtual 197, 3) := by decide +kernel
theorem dX9_step_265 : decode cX9_step 265 = .ok (.goto 7, 3) := by decide +kernel
theorem dX9_step_268 : decode cX9_step 268 = .ok (.iload_n 3, 1) := by decide +kernel
theorem dX9_step_269 : decode cX9_step 269 = .ok (.iload 5, 2) := by decide +kernel
theorem dX9_step_271 : decode cX9_step 271 = .ok (.iadd, 1) := by decide +kernel
theorem dX9_step_272 : decode cX9_step 272 = .ok (.iastore, 1) := by decide +kernel
theorem dX9_step_273 : decode cX9_step 273 = .ok (.return_, 1) := by decide +kernel
theorem dX9_step_274 : decode cX9_step 274 = .ok (.iload 4, 2) := by decide +kernel
theorem dX9_step_276 : decode cX9_step 276 = .ok (.sipush 178, 3) := by decide +kernel
theorem dX9_step_279 : decode cX9_step 279 = .ok (.if_icmp .ge 10, 3) := by decide +kernel
theorem dX9_step_282 : decode cX9_step 282 = .ok (.aload_n 0, 1) := by decide +kernel
theorem dX9_step_283 : decode cX9_step 283 = .ok (.iload 4, 2) := by decide +kernel
theorem dX9_step_285 : decode cX9_step 285 = .ok (.invokevirtual 299, 3) := by decide +kernel
theorem dX9_step_288 : decode cX9_step 288 = .ok (.return_, 1) := by decide +kernel
theorem dX9_step_289 : decode cX9_step 289 = .ok (.iload 4, 2) := by decide +kernel
theorem dX9_step_291 : decode cX9_step 291 = .ok (.sipush 184, 3) := by decide +kernel
theorem dX9_step_294 : decode cX9_step 294 = .ok (.if_icmp .ne 10, 3) := by decide +kernel
theorem dX9_step_297 : decode cX9_step 297 = .ok (.aload_n 0, 1) := by decide +kernel
theorem dX9_step_298 : decode cX9_step 298 = .ok (.iload 6, 2) := by decide +kernel
theorem dX9_step_300 : decode cX9_step 300 = .ok (.invokevirtual 302, 3) := by decide +kernel
theorem dX9_step_303 : decode cX9_step 303 = .ok (.return_, 1) := by decide +kernel
theorem dX9_step_304 : decode cX9_step 304 = .ok (.iload 4, 2) := by decide +kernel
theorem dX9_step_306 : decode cX9_step 306 = .ok (.sipush 191, 3) := by decide +kernel
theorem dX9_step_309 : decode cX9_step 309 = .ok (.if_icmp .ne 8, 3) := by decide +kernel
theorem dX9_step_312 : decode cX9_step 312 = .ok (.aload_n 0, 1) := by decide +kernel
theorem dX9_step_313 : decode cX9_step 313 = .ok (.invokevirtual 305, 3) := by decide +kernel
theorem dX9_step_316 : decode cX9_step 316 = .ok (.return_, 1) := by decide +kernel
theorem dX9_step_317 : decode cX9_step 317 = .ok (.aload_n 0, 1) := by decide +kernel
theorem dX9_step_318 : decode cX9_step 318 = .ok (.iload 4, 2) := by decide +kernel
theorem dX9_step_320 : decode cX9_step 320 = .ok (.iload 6, 2) := by decide +kernel
theorem dX9_step_322 : decode cX9_step 322 = .ok (.iload 7, 2) := by decide +kernel
theorem dX9_step_324 : decode cX9_step 324 = .ok (.invokevirtual 308, 3) := by decide +kernel
theorem dX9_step_327 : decode cX9_step 327 = .ok (.aload_n 0, 1) := by decide +kernel
theorem dX9_step_328 : decode cX9_step 328 = .ok (.getfield 238, 3) := by decide +kernel
theorem dX9_step_331 : decode cX9_step 331 = .ok (.ifCond .ne 20, 3) := by decide +kernel
theorem dX9_step_334 : decode cX9_step 334 = .ok (.aload_n 0, 1) := by decide +kernel
theorem dX9_step_335 : decode cX9_step 335 = .ok (.getfield 311, 3) := by decide +kernel
theorem dX9_step_338 : decode cX9_step 338 = .ok (.ifCond .ne 13, 3) := by decide +kernel
theorem dX9_step_341 : decode cX9_step 341 = .ok (.aload_n 0, 1) := by decide +kernel
theorem dX9_step_342 : decode cX9_step 342 = .ok (.getfield 102, 3) := by decide +kernel
theorem dX9_step_345 : decode cX9_step 345 = .ok (.iload_n 1, 1) := by decide +kernel
theorem dX9_step_346 : decode cX9_step 346 = .ok (.iload_n 3, 1) := by decide +kernel
theorem dX9_step_347 : decode cX9_step 347 = .ok (.iload 5, 2) := by decide +kernel
theorem dX9_step_349 : decode cX9_step 349 = .ok (.iadd, 1) := by decide +kernel
theorem dX9_step_350 : decode cX9_step 350 = .ok (.iastore, 1) := by decide +kernel
theorem dX9_step_351 : decode cX9_step 351 = .ok (.aload_n 0, 1) := by decide +kernel
theorem dX9_step_352 : decode cX9_step 352 = .ok (.iconst 0, 1) := by decide +kernel
theorem dX9_step_353 : decode cX9_step 353 = .ok (.putfield 311, 3) := by decide +kernel
theorem dX9_step_356 : decode cX9_step 356 = .ok (.return_, 1) := by decide +kernel
theorem dX9_run_0 : decode cX9_run 0 = .ok (.aload_n 0, 1) := by decide +kernel
theorem dX9_run_1 : decode cX9_run 1 = .ok (.iload_n 1, 1) := by decide +kernel
theorem dX9_run_2 : decode cX9_run 2 = .ok (.ifCond .lt 11, 3) := by decide +kernel
theorem dX9_run_5 : decode cX9_run 5 = .ok (.iload_n 1, 1) := by decide +kernel
theorem dX9_run_6 : decode cX9_run 6 = .ok (.aload_n 0, 1) := by decide +kernel
theorem dX9_run_7 : decode cX9_run 7 = .ok (.getfield 136, 3) := by decide +kernel
theorem dX9_run_10 : decode cX9_run 10 = .ok (.if_icmp .lt 7, 3) := by decide +kernel
theorem dX9_run_13 : decode cX9_run 13 = .ok (.iconst 1, 1) := by decide +kernel
theorem dX9_run_14 : decode cX9_run 14 = .ok (.goto 21, 3) := by decide +kernel
theorem dX9_run_17 : decode cX9_run 17 = .ok (.iload 6, 2) := by decide +kernel
theorem dX9_run_19 : decode cX9_run 19 = .ok (.ifCond .lt 11, 3) := by decide +kernel
theorem dX9_run_22 : decode cX9_run 22 = .ok (.iload 6, 2) := by decide +kernel
theorem dX9_run_24 : decode cX9_run 24 = .ok (.sipush 20000, 3) := by decide +kernel
theorem dX9_run_27 : decode cX9_run 27 = .ok (.if_icmp .le 7, 3) := by decide +kernel
theorem dX9_run_30 : decode cX9_run 30 = .ok (.iconst 2, 1) := by decide +kernel
theorem dX9_run_31 : decode cX9_run 31 = .ok (.goto 4, 3) := by decide +kernel
theorem dX9_run_34 : decode cX9_run 34 = .ok (.iconst 0, 1) := by decide +kernel
theorem dX9_run_35 : decode cX9_run 35 = .ok (.putfield 127, 3) := by decide +kernel
theorem dX9_run_38 : decode cX9_run 38 = .ok (.aload_n 0, 1) := by decide +kernel
theorem dX9_run_39 : decode cX9_run 39 = .ok (.getfield 127, 3) := by decide +kernel
theorem dX9_run_42 : decode cX9_run 42 = .ok (.ifCond .le 5, 3) := by decide +kernel
theorem dX9_run_45 : decode cX9_run 45 = .ok (.iconst 0, 1) := by decide +kernel
theorem dX9_run_46 : decode cX9_run 46 = .ok (.ireturn, 1) := by decide +kernel
theorem dX9_run_47 : decode cX9_run 47 = .ok (.aload_n 0, 1) := by decide +kernel
theorem dX9_run_48 : decode cX9_run 48 = .ok (.iconst 0, 1) := by decide +kernel
theorem dX9_run_49 : decode cX9_run 49 = .ok (.putfield 228, 3) := by decide +kernel
theorem dX9_run_52 : decode cX9_run 52 = .ok (.aload_n 0, 1) := by decide +kernel
theorem dX9_run_53 : decode cX9_run 53 = .ok (.iconst 0, 1) := by decide +kernel
theorem dX9_run_54 : decode cX9_run 54 = .ok (.putfield 225, 3) := by decide +kernel
theorem dX9_run_57 : decode cX9_run 57 = .ok (.iconst 0, 1) := by decide +kernel
theorem dX9_run_58 : decode cX9_run 58 = .ok (.istore 7, 2) := by decide +kernel
theorem dX9_run_60 : decode cX9_run 60 = .ok (.iload 7, 2) := by decide +kernel
theorem dX9_run_62 : decode cX9_run 62 = .ok (.sipush 201, 3) := by decide +kernel
theorem dX9_run_65 : decode cX9_run 65 = .ok (.if_icmp .ge 17, 3) := by decide +kernel
theorem dX9_run_68 : decode cX9_run 68 = .ok (.aload_n 0, 1) := by decide +kernel
theorem dX9_run_69 : decode cX9_run 69 = .ok (.getfield 71, 3) := by decide +kernel
theorem dX9_run_72 : decode cX9_run 72 = .ok (.iload 7, 2) := by decide +kernel
theorem dX9_run_74 : decode cX9_run 74 = .ok (.iconst 0, 1) := by decide +kernel
theorem dX9_run_75 : decode cX9_run 75 = .ok (.bastore, 1) := by decide +kernel
theorem dX9_run_76 : decode cX9_run 76 = .ok (.iinc 7 1, 3) := by decide +kernel
theorem dX9_run_79 : decode cX9_run 79 = .ok (.goto (-19), 3) := by decide +kernel
theorem dX9_run_82 : decode cX9_run 82 = .ok (.aload_n 0, 1) := by decide +kernel
theorem dX9_run_83 : decode cX9_run 83 = .ok (.iconst 0, 1) := by decide +kernel
theorem dX9_run_84 : decode cX9_run 84 = .ok (.putfield 214, 3) := by decide +kernel
theorem dX9_run_87 : decode cX9_run 87 = .ok (.aload_n 0, 1) := by decide +kernel
theorem dX9_run_88 : decode cX9_run 88 = .ok (.iload_n 1, 1) := by decide +kernel
theorem dX9_run_89 : decode cX9_run 89 = .ok (.invokevirtual 250, 3) := by decide +kernel
theorem dX9_run_92 : decode cX9_run 92 = .ok (.iconst 1, 1) := by decide +kernel
theorem dX9_run_93 : decode cX9_run 93 = .ok (.istore 7, 2) := by decide +kernel
theorem dX9_run_95 : decode cX9_run 95 = .ok (.iconst 0, 1) := by decide +kernel
theorem dX9_run_96 : decode cX9_run 96 = .ok (.istore 8, 2) := by decide +kernel
theorem dX9_run_98 : decode cX9_run 98 = .ok (.iload 8, 2) := by decide +kernel
theorem dX9_run_100 : decode cX9_run 100 = .ok (.aload_n 0, 1) := by decide +kernel
theorem dX9_run_101 : decode cX9_run 101 = .ok (.getfield 31, 3) := by decide +kernel
theorem dX9_run_104 : decode cX9_run 104 = .ok (.iload_n 1, 1) := by decide +kernel
theorem dX9_run_105 : decode cX9_run 105 = .ok (.iaload, 1) := by decide +kernel
theorem dX9_run_106 : decode cX9_run 106 = .ok (.if_icmp .ge 99, 3) := by decide +kernel
theorem dX9_run_109 : decode cX9_run 109 = .ok (.aload_n 0, 1) := by decide +kernel
theorem dX9_run_110 : decode cX9_run 110 = .ok (.getfield 34, 3) := by decide +kernel
theorem dX9_run_113 : decode cX9_run 113 = .ok (.iconst 4, 1) := by decide +kernel
theorem dX9_run_114 : decode cX9_run 114 = .ok (.iload_n 1, 1) := by decide +kernel
theorem dX9_run_115 : decode cX9_run 115 = .ok (.imul, 1) := by decide +kernel
theorem dX9_run_116 : decode cX9_run 116 = .ok (.iload 8, 2) := by decide +kernel
theorem dX9_run_118 : decode cX9_run 118 = .ok (.iadd, 1) := by decide +kernel
theorem dX9_run_119 : decode cX9_run 119 = .ok (.iaload, 1) := by decide +kernel
theorem dX9_run_120 : decode cX9_run 120 = .ok (.istore 9, 2) := by decide +kernel
theorem dX9_run_122 : decode cX9_run 122 = .ok (.iload 7, 2) := by decide +kernel
theorem dX9_run_124 : decode cX9_run 124 = .ok (.ifCond .eq 7, 3) := by decide +kernel
theorem dX9_run_127 : decode cX9_run 127 = .ok (.lload_n 2, 1) := by decide +kernel
theorem dX9_run_128 : decode cX9_run 128 = .ok (.goto 5, 3) := by decide +kernel
theorem dX9_run_131 : decode cX9_run 131 = .ok (.lload 4, 2) := by decide +kernel
theorem dX9_run_133 : decode cX9_run 133 = .ok (.lstore 10, 2) := by decide +kernel
theorem dX9_run_135 : decode cX9_run 135 = .ok (.aload_n 0, 1) := by decide +kernel
theorem dX9_run_136 : decode cX9_run 136 = .ok (.getfield 111, 3) := by decide +kernel
theorem dX9_run_139 : decode cX9_run 139 = .ok (.iload 8, 2) := by decide +kernel
theorem dX9_run_141 : decode cX9_run 141 = .ok (.iload 9, 2) := by decide +kernel
theorem dX9_run_143 : decode cX9_run 143 = .ok (.iastore, 1) := by decide +kernel
theorem dX9_run_144 : decode cX9_run 144 = .ok (.aload_n 0, 1) := by decide +kernel
theorem dX9_run_145 : decode cX9_run 145 = .ok (.getfield 108, 3) := by decide +kernel
theorem dX9_run_148 : decode cX9_run 148 = .ok (.iload 8, 2) := by decide +kernel
theorem dX9_run_150 : decode cX9_run 150 = .ok (.iload 9, 2) := by decide +kernel
theorem dX9_run_152 : decode cX9_run 152 = .ok (.iconst 3, 1) := by decide +kernel
theorem dX9_run_153 : decode cX9_run 153 = .ok (.if_icmp .ne 7, 3) := by decide +kernel
theorem dX9_run_156 : decode cX9_run 156 = .ok (.lconst 0, 1) := by decide +kernel
theorem dX9_run_157 : decode cX9_run 157 = .ok (.goto 18, 3) := by decide +kernel
theorem dX9_run_160 : decode cX9_run 160 = .ok (.iload 9, 2) := by decide +kernel
theorem dX9_run_162 : decode cX9_run 162 = .ok (.iconst 1, 1) := by decide +kernel
theorem dX9_run_163 : decode cX9_run 163 = .ok (.if_icmp .ne 10, 3) := by decide +kernel
theorem dX9_run_166 : decode cX9_run 166 = .ok (.lload 10, 2) := by decide +kernel
theorem dX9_run_168 : decode cX9_run 168 = .ok (.l2i, 1) := by decide +kernel
theorem dX9_run_169 : decode cX9_run 169 = .ok (.i2l, 1) := by decide +kernel
theorem dX9_run_170 : decode cX9_run 170 = .ok (.goto 5, 3) := by decide +kernel
theorem dX9_run_173 : decode cX9_run 173 = .ok (.lload 10, 2) := by decide +kernel
theorem dX9_run_175 : decode cX9_run 175 = .ok (.lastore, 1) := by decide +kernel
theorem dX9_run_176 : decode cX9_run 176 = .ok (.iload 9, 2) := by decide +kernel
theorem dX9_run_178 : decode cX9_run 178 = .ok (.iconst 3, 1) := by decide +kernel
theorem dX9_run_179 : decode cX9_run 179 = .ok (.if_icmp .ne 8, 3) := by decide +kernel
theorem dX9_run_182 : decode cX9_run 182 = .ok (.iload 7, 2) := by decide +kernel
theorem dX9_run_184 : decode cX9_run 184 = .ok (.goto 13, 3) := by decide +kernel
theorem dX9_run_187 : decode cX9_run 187 = .ok (.iload 7, 2) := by decide +kernel
theorem dX9_run_189 : decode cX9_run 189 = .ok (.ifCond .ne 7, 3) := by decide +kernel
theorem dX9_run_192 : decode cX9_run 192 = .ok (.iconst 1, 1) := by decide +kernel
theorem dX9_run_193 : decode cX9_run 193 = .ok (.goto 4, 3) := by decide +kernel
theorem dX9_run_196 : decode cX9_run 196 = .ok (.iconst 0, 1) := by decide +kernel
theorem dX9_run_197 : decode cX9_run 197 = .ok (.istore 7, 2) := by decide +kernel
theorem dX9_run_199 : decode cX9_run 199 = .ok (.iinc 8 1, 3) := by decide +kernel
theorem dX9_run_202 : decode cX9_run 202 = .ok (.goto (-104), 3) := by decide +kernel
theorem dX9_run_205 : decode cX9_run 205 = .ok (.aload_n 0, 1) := by decide +kernel
theorem dX9_run_206 : decode cX9_run 206 = .ok (.iconst 1, 1) := by decide +kernel
theorem dX9_run_207 : decode cX9_run 207 = .ok (.putfield 214, 3) := by decide +kernel
theorem dX9_run_210 : decode cX9_run 210 = .ok (.aload_n 0, 1) := by decide +kernel
theorem dX9_run_211 : decode cX9_run 211 = .ok (.iconst 0, 1) := by decide +kernel
theorem dX9_run_212 : decode cX9_run 212 = .ok (.putfield 253, 3) := by decide +kernel
theorem dX9_run_215 : decode cX9_run 215 = .ok (.aload_n 0, 1) := by decide +kernel
theorem dX9_run_216 : decode cX9_run 216 = .ok (.lconst 0, 1) := by decide +kernel
theorem dX9_run_217 : decode cX9_run 217 = .ok (.putfield 256, 3) := by decide +kernel
theorem dX9_run_220 : decode cX9_run 220 = .ok (.aload_n 0, 1) := by decide +kernel
theorem dX9_run_221 : decode cX9_run 221 = .ok (.iconst 0, 1) := by decide +kernel
theorem dX9_run_222 : decode cX9_run 222 = .ok (.putfield 241, 3) := by decide +kernel
theorem dX9_run_225 : decode cX9_run 225 = .ok (.aload_n 0, 1) := by decide +kernel
theorem dX9_run_226 : decode cX9_run 226 = .ok (.iconst 0, 1) := by decide +kernel
theorem dX9_run_227 : decode cX9_run 227 = .ok (.putfield 244, 3) := by decide +kernel
theorem dX9_run_230 : decode cX9_run 230 = .ok (.aload_n 0, 1) := by decide +kernel
theorem dX9_run_231 : decode cX9_run 231 = .ok (.iconst 0, 1) := by decide +kernel
theorem dX9_run_232 : decode cX9_run 232 = .ok (.putfield 235, 3) := by decide +kernel
theorem dX9_run_235 : decode cX9_run 235 = .ok (.aload_n 0, 1) := by decide +kernel
theorem dX9_run_236 : decode cX9_run 236 = .ok (.iconst 0, 1) := by decide +kernel
theorem dX9_run_237 : decode cX9_run 237 = .ok (.putfield 238, 3) := by decide +kernel
theorem dX9_run_240 : decode cX9_run 240 = .ok (.aload_n 0, 1) := by decide +kernel
theorem dX9_run_241 : decode cX9_run 241 = .ok (.getfield 238, 3) := by decide +kernel
theorem dX9_run_244 : decode cX9_run 244 = .ok (.ifCond .ne 42, 3) := by decide +kernel
theorem dX9_run_247 : decode cX9_run 247 = .ok (.aload_n 0, 1) := by decide +kernel
theorem dX9_run_248 : decode cX9_run 248 = .ok (.getfield 253, 3) := by decide +kernel
theorem dX9_run_251 : decode cX9_run 251 = .ok (.iload 6, 2) := by decide +kernel
theorem dX9_run_253 : decode cX9_run 253 = .ok (.if_icmp .ne 16, 3) := by decide +kernel
theorem dX9_run_256 : decode cX9_run 256 = .ok (.aload_n 0, 1) := by decide +kernel
theorem dX9_run_257 : decode cX9_run 257 = .ok (.iconst 2, 1) := by decide +kernel
theorem dX9_run_258 : decode cX9_run 258 = .ok (.putfield 235, 3) := by decide +kernel
theorem dX9_run_261 : decode cX9_run 261 = .ok (.aload_n 0, 1) := by decide +kernel
theorem dX9_run_262 : decode cX9_run 262 = .ok (.iconst 1, 1) := by decide +kernel
theorem dX9_run_263 : decode cX9_run 263 = .ok (.putfield 238, 3) := by decide +kernel
theorem dX9_run_266 : decode cX9_run 266 = .ok (.goto (-26), 3) := by decide +kernel
theorem dX9_run_269 : decode cX9_run 269 = .ok (.aload_n 0, 1) := by decide +kernel
theorem dX9_run_270 : decode cX9_run 270 = .ok (.dup, 1) := by decide +kernel
theorem dX9_run_271 : decode cX9_run 271 = .ok (.getfield 253, 3) := by decide +kernel
theorem dX9_run_274 : decode cX9_run 274 = .ok (.iconst 1, 1) := by decide +kernel
theorem dX9_run_275 : decode cX9_run 275 = .ok (.iadd, 1) := by decide +kernel
theorem dX9_run_276 : decode cX9_run 276 = .ok (.putfield 253, 3) := by decide +kernel
theorem dX9_run_279 : decode cX9_run 279 = .ok (.aload_n 0, 1) := by decide +kernel
theorem dX9_run_280 : decode cX9_run 280 = .ok (.invokevirtual 260, 3) := by decide +kernel
theorem dX9_run_283 : decode cX9_run 283 = .ok (.goto (-43), 3) := by decide +kernel
theorem dX9_run_286 : decode cX9_run 286 = .ok (.aload_n 0, 1) := by decide +kernel
theorem dX9_run_287 : decode cX9_run 287 = .ok (.aload_n 0, 1) := by decide +kernel
theorem dX9_run_288 : decode cX9_run 288 = .ok (.getfield 235, 3) := by decide +kernel
theorem dX9_run_291 : decode cX9_run 291 = .ok (.iconst 1, 1) := by decide +kernel
theorem dX9_run_292 : decode cX9_run 292 = .ok (.if_icmp .le 7, 3) := by decide +kernel
theorem dX9_run_295 : decode cX9_run 295 = .ok (.lconst 0, 1) := by decide +kernel
theorem dX9_run_296 : decode cX9_run 296 = .ok (.goto 7, 3) := by decide +kernel
theorem dX9_run_299 : decode cX9_run 299 = .ok (.aload_n 0, 1) := by decide +kernel
theorem dX9_run_300 : decode cX9_run 300 = .ok (.getfield 256, 3) := by decide +kernel
theorem dX9_run_303 : decode cX9_run 303 = .ok (.putfield 256, 3) := by decide +kernel
theorem dX9_run_306 : decode cX9_run 306 = .ok (.aload_n 0, 1) := by decide +kernel
theorem dX9_run_307 : decode cX9_run 307 = .ok (.getfield 235, 3) := by decide +kernel
theorem dX9_run_310 : decode cX9_run 310 = .ok (.ireturn, 1) := by decide +kernel
theorem dX9_result_0 : decode cX9_result 0 = .ok (.aload_n 0, 1) := by decide +kernel
theorem dX9_result_1 : decode cX9_result 1 = .ok (.iconst 0, 1) := by decide +kernel
theorem dX9_result_2 : decode cX9_result 2 = .ok (.putfield 127, 3) := by decide +kernel
theorem dX9_result_5 : decode cX9_result 5 = .ok (.aload_n 0, 1) := by decide +kernel
theorem dX9_result_6 : decode cX9_result 6 = .ok (.getfield 256, 3) := by decide +kernel
theorem dX9_result_9 : decode cX9_result 9 = .ok (.lreturn, 1) := by decide +kernel
theorem dX9_steps_0 : decode cX9_steps 0 = .ok (.aload_n 0, 1) := by decide +kernel
theorem dX9_steps_1 : decode cX9_steps 1 = .ok (.iconst 0, 1) := by decide +kernel
theorem dX9_steps_2 : decode cX9_steps 2 = .ok (.putfield 127, 3) := by decide +kernel
theorem dX9_steps_5 : decode cX9_steps 5 = .ok (.aload_n 0, 1) := by decide +kernel
theorem dX9_steps_6 : decode cX9_steps 6 = .ok (.getfield 253, 3) := by decide +kernel
theorem dX9_steps_9 : decode cX9_steps 9 = .ok (.ireturn, 1) := by decide +kernel
theorem dX9_count_0 : decode cX9_count 0 = .ok (.aload_n 0, 1) := by decide +kernel
theorem dX9_count_1 : decode cX9_count 1 = .ok (.iload_n 1, 1) := by decide +kernel
theorem dX9_count_2 : decode cX9_count 2 = .ok (.ifCond .lt 8, 3) := by decide +kernel
theorem dX9_count_5 : decode cX9_count 5 = .ok (.iload_n 1, 1) := by decide +kernel
theorem dX9_count_6 : decode cX9_count 6 = .ok (.iconst 4, 1) := by decide +kernel
theorem dX9_count_7 : decode cX9_count 7 = .ok (.if_icmp .le 7, 3) := by decide +kernel
theorem dX9_count_10 : decode cX9_count 10 = .ok (.iconst 1, 1) := by decide +kernel
theorem dX9_count_11 : decode cX9_count 11 = .ok (.goto 4, 3) := by decide +kernel
theorem dX9_count_14 : decode cX9_count 14 = .ok (.iconst 0, 1) := by decide +kernel
theorem dX9_count_15 : decode cX9_count 15 = .ok (.putfield 127, 3) := by decide +kernel
theorem dX9_count_18 : decode cX9_count 18 = .ok (.aload_n 0, 1) := by decide +kernel
theorem dX9_count_19 : decode cX9_count 19 = .ok (.getfield 127, 3) := by decide +kernel
theorem dX9_count_22 : decode cX9_count 22 = .ok (.ifCond .le 5, 3) := by decide +kernel
theorem dX9_count_25 : decode cX9_count 25 = .ok (.iconst 0, 1) := by decide +kernel
theorem dX9_count_26 : decode cX9_count 26 = .ok (.ireturn, 1) := by decide +kernel
theorem dX9_count_27 : decode cX9_count 27 = .ok (.iload_n 1, 1) := by decide +kernel
theorem dX9_count_28 : decode cX9_count 28 = .ok (.ifCond .ne 10, 3) := by decide +kernel
theorem dX9_count_31 : decode cX9_count 31 = .ok (.aload_n 0, 1) := by decide +kernel
theorem dX9_count_32 : decode cX9_count 32 = .ok (.getfield 124, 3) := by decide +kernel
theorem dX9_count_35 : decode cX9_count 35 = .ok (.goto 43, 3) := by decide +kernel
theorem dX9_count_38 : decode cX9_count 38 = .ok (.iload_n 1, 1) := by decide +kernel
theorem dX9_count_39 : decode cX9_count 39 = .ok (.iconst 1, 1) := by decide +kernel
theorem dX9_count_40 : decode cX9_count 40 = .ok (.if_icmp .ne 10, 3) := by decide +kernel
theorem dX9_count_43 : decode cX9_count 43 = .ok (.aload_n 0, 1) := by decide +kernel
theorem dX9_count_44 : decode cX9_count 44 = .ok (.getfield 136, 3) := by decide +kernel
theorem dX9_count_47 : decode cX9_count 47 = .ok (.goto 31, 3) := by decide +kernel
theorem dX9_count_50 : decode cX9_count 50 = .ok (.iload_n 1, 1) := by decide +kernel
theorem dX9_count_51 : decode cX9_count 51 = .ok (.iconst 2, 1) := by decide +kernel
theorem dX9_count_52 : decode cX9_count 52 = .ok (.if_icmp .ne 10, 3) := by decide +kernel
theorem dX9_count_55 : decode cX9_count 55 = .ok (.aload_n 0, 1) := by decide +kernel
theorem dX9_count_56 : decode cX9_count 56 = .ok (.getfield 130, 3) := by decide +kernel
theorem dX9_count_59 : decode cX9_count 59 = .ok (.goto 19, 3) := by decide +kernel
theorem dX9_count_62 : decode cX9_count 62 = .ok (.iload_n 1, 1) := by decide +kernel
theorem dX9_count_63 : decode cX9_count 63 = .ok (.iconst 3, 1) := by decide +kernel
theorem dX9_count_64 : decode cX9_count 64 = .ok (.if_icmp .ne 10, 3) := by decide +kernel
theorem dX9_count_67 : decode cX9_count 67 = .ok (.aload_n 0, 1) := by decide +kernel
theorem dX9_count_68 : decode cX9_count 68 = .ok (.getfield 241, 3) := by decide +kernel
theorem dX9_count_71 : decode cX9_count 71 = .ok (.goto 7, 3) := by decide +kernel
theorem dX9_count_74 : decode cX9_count 74 = .ok (.aload_n 0, 1) := by decide +kernel
theorem dX9_count_75 : decode cX9_count 75 = .ok (.getfield 244, 3) := by decide +kernel
theorem dX9_count_78 : decode cX9_count 78 = .ok (.ireturn, 1) := by decide +kernel
