theorem dX4_converted_46 : decode cX4_converted 46 = .ok (.i2l, 1) := by decide +kernel
theorem dX4_converted_47 : decode cX4_converted 47 = .ok (.lreturn, 1) := by decide +kernel
theorem dX4_converted_48 : decode cX4_converted 48 = .ok (.lload_n 1, 1) := by decide +kernel
theorem dX4_converted_49 : decode cX4_converted 49 = .ok (.l2i, 1) := by decide +kernel
theorem dX4_converted_50 : decode cX4_converted 50 = .ok (.i2b, 1) := by decide +kernel
theorem dX4_converted_51 : decode cX4_converted 51 = .ok (.i2l, 1) := by decide +kernel
theorem dX4_converted_52 : decode cX4_converted 52 = .ok (.lreturn, 1) := by decide +kernel
theorem dX4_converted_53 : decode cX4_converted 53 = .ok (.lload_n 1, 1) := by decide +kernel
theorem dX4_converted_54 : decode cX4_converted 54 = .ok (.l2i, 1) := by decide +kernel
theorem dX4_converted_55 : decode cX4_converted 55 = .ok (.i2c, 1) := by decide +kernel
theorem dX4_converted_56 : decode cX4_converted 56 = .ok (.i2l, 1) := by decide +kernel
theorem dX4_converted_57 : decode cX4_converted 57 = .ok (.lreturn, 1) := by decide +kernel
theorem dX4_converted_58 : decode cX4_converted 58 = .ok (.lload_n 1, 1) := by decide +kernel
theorem dX4_converted_59 : decode cX4_converted 59 = .ok (.l2i, 1) := by decide +kernel
theorem dX4_converted_60 : decode cX4_converted 60 = .ok (.i2s, 1) := by decide +kernel
theorem dX4_converted_61 : decode cX4_converted 61 = .ok (.i2l, 1) := by decide +kernel
theorem dX4_converted_62 : decode cX4_converted 62 = .ok (.lreturn, 1) := by decide +kernel
theorem dX4_converted_63 : decode cX4_converted 63 = .ok (.lload_n 1, 1) := by decide +kernel
theorem dX4_converted_64 : decode cX4_converted 64 = .ok (.lreturn, 1) := by decide +kernel
theorem dX4_convert_0 : decode cX4_convert 0 = .ok (.iload_n 1, 1) := by decide +kernel
theorem dX4_convert_1 : decode cX4_convert 1 = .ok (.sipush 132, 3) := by decide +kernel
theorem dX4_convert_4 : decode cX4_convert 4 = .ok (.if_icmp .ne 33, 3) := by decide +kernel
theorem dX4_convert_7 : decode cX4_convert 7 = .ok (.aload_n 0, 1) := by decide +kernel
theorem dX4_convert_8 : decode cX4_convert 8 = .ok (.getfield 46, 3) := by decide +kernel
theorem dX4_convert_11 : decode cX4_convert 11 = .ok (.aload_n 0, 1) := by decide +kernel
theorem dX4_convert_12 : decode cX4_convert 12 = .ok (.getfield 46, 3) := by decide +kernel
theorem dX4_convert_15 : decode cX4_convert 15 = .ok (.iconst 1, 1) := by decide +kernel
theorem dX4_convert_16 : decode cX4_convert 16 = .ok (.invokevirtual 142, 3) := by decide +kernel
theorem dX4_convert_19 : decode cX4_convert 19 = .ok (.aload_n 0, 1) := by decide +kernel
theorem dX4_convert_20 : decode cX4_convert 20 = .ok (.getfield 46, 3) := by decide +kernel
theorem dX4_convert_23 : decode cX4_convert 23 = .ok (.iconst 2, 1) := by decide +kernel
theorem dX4_convert_24 : decode cX4_convert 24 = .ok (.invokevirtual 142, 3) := by decide +kernel
theorem dX4_convert_27 : decode cX4_convert 27 = .ok (.i2b, 1) := by decide +kernel
theorem dX4_convert_28 : decode cX4_convert 28 = .ok (.invokevirtual 231, 3) := by decide +kernel
theorem dX4_convert_31 : decode cX4_convert 31 = .ok (.aload_n 0, 1) := by decide +kernel
theorem dX4_convert_32 : decode cX4_convert 32 = .ok (.iconst 3, 1) := by decide +kernel
theorem dX4_convert_33 : decode cX4_convert 33 = .ok (.invokevirtual 164, 3) := by decide +kernel
theorem dX4_convert_36 : decode cX4_convert 36 = .ok (.ireturn, 1) := by decide +kernel
theorem dX4_convert_37 : decode cX4_convert 37 = .ok (.aload_n 0, 1) := by decide +kernel
theorem dX4_convert_38 : decode cX4_convert 38 = .ok (.getfield 46, 3) := by decide +kernel
theorem dX4_convert_41 : decode cX4_convert 41 = .ok (.iconst 0, 1) := by decide +kernel
theorem dX4_convert_42 : decode cX4_convert 42 = .ok (.invokevirtual 186, 3) := by decide +kernel
theorem dX4_convert_45 : decode cX4_convert 45 = .ok (.lstore_n 2, 1) := by decide +kernel
theorem dX4_convert_46 : decode cX4_convert 46 = .ok (.iload_n 1, 1) := by decide +kernel
theorem dX4_convert_47 : decode cX4_convert 47 = .ok (.sipush 148, 3) := by decide +kernel
theorem dX4_convert_50 : decode cX4_convert 50 = .ok (.if_icmp .ne 41, 3) := by decide +kernel
theorem dX4_convert_53 : decode cX4_convert 53 = .ok (.aload_n 0, 1) := by decide +kernel
theorem dX4_convert_54 : decode cX4_convert 54 = .ok (.getfield 46, 3) := by decide +kernel
theorem dX4_convert_57 : decode cX4_convert 57 = .ok (.iconst 1, 1) := by decide +kernel
theorem dX4_convert_58 : decode cX4_convert 58 = .ok (.invokevirtual 186, 3) := by decide +kernel
theorem dX4_convert_61 : decode cX4_convert 61 = .ok (.lload_n 2, 1) := by decide +kernel
theorem dX4_convert_62 : decode cX4_convert 62 = .ok (.invokestatic 235, 3) := by decide +kernel
theorem dX4_convert_65 : decode cX4_convert 65 = .ok (.istore 4, 2) := by decide +kernel
theorem dX4_convert_67 : decode cX4_convert 67 = .ok (.aload_n 0, 1) := by decide +kernel
theorem dX4_convert_68 : decode cX4_convert 68 = .ok (.getfield 46, 3) := by decide +kernel
theorem dX4_convert_71 : decode cX4_convert 71 = .ok (.iconst 2, 1) := by decide +kernel
theorem dX4_convert_72 : decode cX4_convert 72 = .ok (.invokevirtual 198, 3) := by decide +kernel
theorem dX4_convert_75 : decode cX4_convert 75 = .ok (.aload_n 0, 1) := by decide +kernel
theorem dX4_convert_76 : decode cX4_convert 76 = .ok (.getfield 46, 3) := by decide +kernel
theorem dX4_convert_79 : decode cX4_convert 79 = .ok (.iload 4, 2) := by decide +kernel
theorem dX4_convert_81 : decode cX4_convert 81 = .ok (.i2l, 1) := by decide +kernel
theorem dX4_convert_82 : decode cX4_convert 82 = .ok (.invokevirtual 170, 3) := by decide +kernel
theorem dX4_convert_85 : decode cX4_convert 85 = .ok (.aload_n 0, 1) := by decide +kernel
theorem dX4_convert_86 : decode cX4_convert 86 = .ok (.iconst 1, 1) := by decide +kernel
theorem dX4_convert_87 : decode cX4_convert 87 = .ok (.invokevirtual 164, 3) := by decide +kernel
theorem dX4_convert_90 : decode cX4_convert 90 = .ok (.ireturn, 1) := by decide +kernel
theorem dX4_convert_91 : decode cX4_convert 91 = .ok (.aload_n 0, 1) := by decide +kernel
theorem dX4_convert_92 : decode cX4_convert 92 = .ok (.getfield 46, 3) := by decide +kernel
theorem dX4_convert_95 : decode cX4_convert 95 = .ok (.iconst 1, 1) := by decide +kernel
theorem dX4_convert_96 : decode cX4_convert 96 = .ok (.invokevirtual 198, 3) := by decide +kernel
theorem dX4_convert_99 : decode cX4_convert 99 = .ok (.aload_n 0, 1) := by decide +kernel
theorem dX4_convert_100 : decode cX4_convert 100 = .ok (.getfield 46, 3) := by decide +kernel
theorem dX4_convert_103 : decode cX4_convert 103 = .ok (.iload_n 1, 1) := by decide +kernel
theorem dX4_convert_104 : decode cX4_convert 104 = .ok (.lload_n 2, 1) := by decide +kernel
theorem dX4_convert_105 : decode cX4_convert 105 = .ok (.invokestatic 241, 3) := by decide +kernel
theorem dX4_convert_108 : decode cX4_convert 108 = .ok (.invokevirtual 170, 3) := by decide +kernel
theorem dX4_convert_111 : decode cX4_convert 111 = .ok (.aload_n 0, 1) := by decide +kernel
theorem dX4_convert_112 : decode cX4_convert 112 = .ok (.iconst 1, 1) := by decide +kernel
theorem dX4_convert_113 : decode cX4_convert 113 = .ok (.invokevirtual 164, 3) := by decide +kernel
theorem dX4_convert_116 : decode cX4_convert 116 = .ok (.ireturn, 1) := by decide +kernel
theorem dX4_leave_0 : decode cX4_leave 0 = .ok (.aload_n 0, 1) := by decide +kernel
theorem dX4_leave_1 : decode cX4_leave 1 = .ok (.getfield 81, 3) := by decide +kernel
theorem dX4_leave_4 : decode cX4_leave 4 = .ok (.ifCond .ne 59, 3) := by decide +kernel
theorem dX4_leave_7 : decode cX4_leave 7 = .ok (.aload_n 0, 1) := by decide +kernel
theorem dX4_leave_8 : decode cX4_leave 8 = .ok (.iconst 0, 1) := by decide +kernel
theorem dX4_leave_9 : decode cX4_leave 9 = .ok (.putfield 66, 3) := by decide +kernel
theorem dX4_leave_12 : decode cX4_leave 12 = .ok (.iload_n 1, 1) := by decide +kernel
theorem dX4_leave_13 : decode cX4_leave 13 = .ok (.sipush 176, 3) := by decide +kernel
theorem dX4_leave_16 : decode cX4_leave 16 = .ok (.if_icmp .ne 26, 3) := by decide +kernel
theorem dX4_leave_19 : decode cX4_leave 19 = .ok (.aload_n 0, 1) := by decide +kernel
theorem dX4_leave_20 : decode cX4_leave 20 = .ok (.aload_n 0, 1) := by decide +kernel
theorem dX4_leave_21 : decode cX4_leave 21 = .ok (.getfield 46, 3) := by decide +kernel
theorem dX4_leave_24 : decode cX4_leave 24 = .ok (.iconst 0, 1) := by decide +kernel
theorem dX4_leave_25 : decode cX4_leave 25 = .ok (.invokevirtual 183, 3) := by decide +kernel
theorem dX4_leave_28 : decode cX4_leave 28 = .ok (.ifCond .ne 7, 3) := by decide +kernel
theorem dX4_leave_31 : decode cX4_leave 31 = .ok (.lconst 0, 1) := by decide +kernel
theorem dX4_leave_32 : decode cX4_leave 32 = .ok (.goto 4, 3) := by decide +kernel
theorem dX4_leave_35 : decode cX4_leave 35 = .ok (.lconst 1, 1) := by decide +kernel
theorem dX4_leave_36 : decode cX4_leave 36 = .ok (.putfield 53, 3) := by decide +kernel
theorem dX4_leave_39 : decode cX4_leave 39 = .ok (.goto 22, 3) := by decide +kernel
theorem dX4_leave_42 : decode cX4_leave 42 = .ok (.iload_n 1, 1) := by decide +kernel
theorem dX4_leave_43 : decode cX4_leave 43 = .ok (.sipush 177, 3) := by decide +kernel
theorem dX4_leave_46 : decode cX4_leave 46 = .ok (.if_icmp .eq 15, 3) := by decide +kernel
theorem dX4_leave_49 : decode cX4_leave 49 = .ok (.aload_n 0, 1) := by decide +kernel
theorem dX4_leave_50 : decode cX4_leave 50 = .ok (.aload_n 0, 1) := by decide +kernel
theorem dX4_leave_51 : decode cX4_leave 51 = .ok (.getfield 46, 3) := by decide +kernel
theorem dX4_leave_54 : decode cX4_leave 54 = .ok (.iconst 0, 1) := by decide +kernel
theorem dX4_leave_55 : decode cX4_leave 55 = .ok (.invokevirtual 186, 3) := by decide +kernel
theorem dX4_leave_58 : decode cX4_leave 58 = .ok (.putfield 53, 3) := by decide +kernel
theorem dX4_leave_61 : decode cX4_leave 61 = .ok (.iconst 0, 1) := by decide +kernel
theorem dX4_leave_62 : decode cX4_leave 62 = .ok (.ireturn, 1) := by decide +kernel
theorem dX4_leave_63 : decode cX4_leave 63 = .ok (.aload_n 0, 1) := by decide +kernel
theorem dX4_leave_64 : decode cX4_leave 64 = .ok (.getfield 46, 3) := by decide +kernel
theorem dX4_leave_67 : decode cX4_leave 67 = .ok (.astore_n 2, 1) := by decide +kernel
theorem dX4_leave_68 : decode cX4_leave 68 = .ok (.aload_n 0, 1) := by decide +kernel
theorem dX4_leave_69 : decode cX4_leave 69 = .ok (.dup, 1) := by decide +kernel
theorem dX4_leave_70 : decode cX4_leave 70 = .ok (.getfield 81, 3) := by decide +kernel
theorem dX4_leave_73 : decode cX4_leave 73 = .ok (.iconst 1, 1) := by decide +kernel
theorem dX4_leave_74 : decode cX4_leave 74 = .ok (.isub, 1) := by decide +kernel
theorem dX4_leave_75 : decode cX4_leave 75 = .ok (.putfield 81, 3) := by decide +kernel
theorem dX4_leave_78 : decode cX4_leave 78 = .ok (.aload_n 0, 1) := by decide +kernel
theorem dX4_leave_79 : decode cX4_leave 79 = .ok (.aload_n 0, 1) := by decide +kernel
theorem dX4_leave_80 : decode cX4_leave 80 = .ok (.getfield 34, 3) := by decide +kernel
theorem dX4_leave_83 : decode cX4_leave 83 = .ok (.aload_n 0, 1) := by decide +kernel
theorem dX4_leave_84 : decode cX4_leave 84 = .ok (.getfield 81, 3) := by decide +kernel
theorem dX4_leave_87 : decode cX4_leave 87 = .ok (.aaload, 1) := by decide +kernel
theorem dX4_leave_88 : decode cX4_leave 88 = .ok (.putfield 46, 3) := by decide +kernel
theorem dX4_leave_91 : decode cX4_leave 91 = .ok (.iload_n 1, 1) := by decide +kernel
theorem dX4_leave_92 : decode cX4_leave 92 = .ok (.sipush 176, 3) := by decide +kernel
theorem dX4_leave_95 : decode cX4_leave 95 = .ok (.if_icmp .ne 18, 3) := by decide +kernel
theorem dX4_leave_98 : decode cX4_leave 98 = .ok (.aload_n 0, 1) := by decide +kernel
theorem dX4_leave_99 : decode cX4_leave 99 = .ok (.getfield 46, 3) := by decide +kernel
theorem dX4_leave_102 : decode cX4_leave 102 = .ok (.aload_n 2, 1) := by decide +kernel
theorem dX4_leave_103 : decode cX4_leave 103 = .ok (.iconst 0, 1) := by decide +kernel
theorem dX4_leave_104 : decode cX4_leave 104 = .ok (.invokevirtual 183, 3) := by decide +kernel
theorem dX4_leave_107 : decode cX4_leave 107 = .ok (.invokevirtual 167, 3) := by decide +kernel
theorem dX4_leave_110 : decode cX4_leave 110 = .ok (.goto 22, 3) := by decide +kernel
theorem dX4_leave_113 : decode cX4_leave 113 = .ok (.iload_n 1, 1) := by decide +kernel
theorem dX4_leave_114 : decode cX4_leave 114 = .ok (.sipush 177, 3) := by decide +kernel
theorem dX4_leave_117 : decode cX4_leave 117 = .ok (.if_icmp .eq 15, 3) := by decide +kernel
theorem dX4_leave_120 : decode cX4_leave 120 = .ok (.aload_n 0, 1) := by decide +kernel
theorem dX4_leave_121 : decode cX4_leave 121 = .ok (.getfield 46, 3) := by decide +kernel
theorem dX4_leave_124 : decode cX4_leave 124 = .ok (.aload_n 2, 1) := by decide +kernel
theorem dX4_leave_125 : decode cX4_leave 125 = .ok (.iconst 0, 1) := by decide +kernel
theorem dX4_leave_126 : decode cX4_leave 126 = .ok (.invokevirtual 186, 3) := by decide +kernel
theorem dX4_leave_129 : decode cX4_leave 129 = .ok (.invokevirtual 170, 3) := by decide +kernel
theorem dX4_leave_132 : decode cX4_leave 132 = .ok (.aload_n 0, 1) := by decide +kernel
theorem dX4_leave_133 : decode cX4_leave 133 = .ok (.iconst 2, 1) := by decide +kernel
theorem dX4_leave_134 : decode cX4_leave 134 = .ok (.invokevirtual 164, 3) := by decide +kernel
theorem dX4_leave_137 : decode cX4_leave 137 = .ok (.ireturn, 1) := by decide +kernel
theorem dX2_element_0 : decode cX2_element 0 = .ok (.aload_n 0, 1) := by decide +kernel
theorem dX2_element_1 : decode cX2_element 1 = .ok (.getfield 19, 3) := by decide +kernel
theorem dX2_element_4 : decode cX2_element 4 = .ok (.iload_n 1, 1) := by decide +kernel
theorem dX2_element_5 : decode cX2_element 5 = .ok (.iaload, 1) := by decide +kernel
theorem dX2_element_6 : decode cX2_element 6 = .ok (.iconst 2, 1) := by decide +kernel
theorem dX2_element_7 : decode cX2_element 7 = .ok (.iadd, 1) := by decide +kernel
theorem dX2_element_8 : decode cX2_element 8 = .ok (.istore_n 3, 1) := by decide +kernel
theorem dX2_element_9 : decode cX2_element 9 = .ok (.aload_n 0, 1) := by decide +kernel
theorem dX2_element_10 : decode cX2_element 10 = .ok (.iload_n 1, 1) := by decide +kernel
theorem dX2_element_11 : decode cX2_element 11 = .ok (.invokevirtual 62, 3) := by decide +kernel
theorem dX2_element_14 : decode cX2_element 14 = .ok (.ineg, 1) := by decide +kernel
theorem dX2_element_15 : decode cX2_element 15 = .ok (.tableswitch 138 4 11 #[45, 65, 138, 138, 45, 85, 138, 105], 45) := by decide +kernel
theorem dX2_element_60 : decode cX2_element 60 = .ok (.aload_n 0, 1) := by decide +kernel
theorem dX2_element_61 : decode cX2_element 61 = .ok (.getfield 15, 3) := by decide +kernel
theorem dX2_element_64 : decode cX2_element 64 = .ok (.iload_n 3, 1) := by decide +kernel
theorem dX2_element_65 : decode cX2_element 65 = .ok (.iload_n 2, 1) := by decide +kernel
theorem dX2_element_66 : decode cX2_element 66 = .ok (.iconst 4, 1) := by decide +kernel
theorem dX2_element_67 : decode cX2_element 67 = .ok (.idiv, 1) := by decide +kernel
theorem dX2_element_68 : decode cX2_element 68 = .ok (.iadd, 1) := by decide +kernel
theorem dX2_element_69 : decode cX2_element 69 = .ok (.iaload, 1) := by decide +kernel
theorem dX2_element_70 : decode cX2_element 70 = .ok (.iload_n 2, 1) := by decide +kernel
theorem dX2_element_71 : decode cX2_element 71 = .ok (.iconst 4, 1) := by decide +kernel
theorem dX2_element_72 : decode cX2_element 72 = .ok (.irem, 1) := by decide +kernel
theorem dX2_element_73 : decode cX2_element 73 = .ok (.bipush 8, 2) := by decide +kernel
theorem dX2_element_75 : decode cX2_element 75 = .ok (.imul, 1) := by decide +kernel
theorem dX2_element_76 : decode cX2_element 76 = .ok (.ishr, 1) := by decide +kernel
theorem dX2_element_77 : decode cX2_element 77 = .ok (.i2b, 1) := by decide +kernel
theorem dX2_element_78 : decode cX2_element 78 = .ok (.i2l, 1) := by decide +kernel
theorem dX2_element_79 : decode cX2_element 79 = .ok (.lreturn, 1) := by decide +kernel
theorem dX2_element_80 : decode cX2_element 80 = .ok (.aload_n 0, 1) := by decide +kernel
theorem dX2_element_81 : decode cX2_element 81 = .ok (.getfield 15, 3) := by decide +kernel
theorem dX2_element_84 : decode cX2_element 84 = .ok (.iload_n 3, 1) := by decide +kernel
theorem dX2_element_85 : decode cX2_element 85 = .ok (.iload_n 2, 1) := by decide +kernel
theorem dX2_element_86 : decode cX2_element 86 = .ok (.iconst 2, 1) := by decide +kernel
theorem dX2_element_87 : decode cX2_element 87 = .ok (.idiv, 1) := by decide +kernel
theorem dX2_element_88 : decode cX2_element 88 = .ok (.iadd, 1) := by decide +kernel
theorem dX2_element_89 : decode cX2_element 89 = .ok (.iaload, 1) := by decide +kernel
theorem dX2_element_90 : decode cX2_element 90 = .ok (.iload_n 2, 1) := by decide +kernel
theorem dX2_element_91 : decode cX2_element 91 = .ok (.iconst 2, 1) := by decide +kernel
theorem dX2_element_92 : decode cX2_element 92 = .ok (.irem, 1) := by decide +kernel
theorem dX2_element_93 : decode cX2_element 93 = .ok (.bipush 16, 2) := by decide +kernel
theorem dX2_element_95 : decode cX2_element 95 = .ok (.imul, 1) := by decide +kernel
theorem dX2_element_96 : decode cX2_element 96 = .ok (.ishr, 1) := by decide +kernel
theorem dX2_element_97 : decode cX2_element 97 = .ok (.i2c, 1) := by decide +kernel
theorem dX2_element_98 : decode cX2_element 98 = .ok (.i2l, 1) := by decide +kernel
theorem dX2_element_99 : decode cX2_element 99 = .ok (.lreturn, 1) := by decide +kernel
theorem dX2_element_100 : decode cX2_element 100 = .ok (.aload_n 0, 1) := by decide +kernel
theorem dX2_element_101 : decode cX2_element 101 = .ok (.getfield 15, 3) := by decide +kernel
theorem dX2_element_104 : decode cX2_element 104 = .ok (.iload_n 3, 1) := by decide +kernel
theorem dX2_element_105 : decode cX2_element 105 = .ok (.iload_n 2, 1) := by decide +kernel
theorem dX2_element_106 : decode cX2_element 106 = .ok (.iconst 2, 1) := by decide +kernel
theorem dX2_element_107 : decode cX2_element 107 = .ok (.idiv, 1) := by decide +kernel
theorem dX2_element_108 : decode cX2_element 108 = .ok (.iadd, 1) := by decide +kernel
theorem dX2_element_109 : decode cX2_element 109 = .ok (.iaload, 1) := by decide +kernel
theorem dX2_element_110 : decode cX2_element 110 = .ok (.iload_n 2, 1) := by decide +kernel
theorem dX2_element_111 : decode cX2_element 111 = .ok (.iconst 2, 1) := by decide +kernel
theorem dX2_element_112 : decode cX2_element 112 = .ok (.irem, 1) := by decide +kernel
theorem dX2_element_113 : decode cX2_element 113 = .ok (.bipush 16, 2) := by decide +kernel
theorem dX2_element_115 : decode cX2_element 115 = .ok (.imul, 1) := by decide +kernel
theorem dX2_element_116 : decode cX2_element 116 = .ok (.ishr, 1) := by decide +kernel
theorem dX2_element_117 : decode cX2_element 117 = .ok (.i2s, 1) := by decide +kernel
theorem dX2_element_118 : decode cX2_element 118 = .ok (.i2l, 1) := by decide +kernel
theorem dX2_element_119 : decode cX2_element 119 = .ok (.lreturn, 1) := by decide +kernel
theorem dX2_element_120 : decode cX2_element 120 = .ok (.aload_n 0, 1) := by decide +kernel
theorem dX2_element_121 : decode cX2_element 121 = .ok (.getfield 15, 3) := by decide +kernel
theorem dX2_element_124 : decode cX2_element 124 = .ok (.iload_n 3, 1) := by decide +kernel
theorem dX2_element_125 : decode cX2_element 125 = .ok (.iconst 2, 1) := by decide +kernel
theorem dX2_element_126 : decode cX2_element 126 = .ok (.iload_n 2, 1) := by decide +kernel
theorem dX2_element_127 : decode cX2_element 127 = .ok (.imul, 1) := by decide +kernel
theorem dX2_element_128 : decode cX2_element 128 = .ok (.iadd, 1) := by decide +kernel
theorem dX2_element_129 : decode cX2_element 129 = .ok (.iaload, 1) := by decide +kernel
theorem dX2_element_130 : decode cX2_element 130 = .ok (.i2l, 1) := by decide +kernel
theorem dX2_element_131 : decode cX2_element 131 = .ok (.bipush 32, 2) := by decide +kernel
theorem dX2_element_133 : decode cX2_element 133 = .ok (.lshl, 1) := by decide +kernel
theorem dX2_element_134 : decode cX2_element 134 = .ok (.aload_n 0, 1) := by decide +kernel
theorem dX2_element_135 : decode cX2_element 135 = .ok (.getfield 15, 3) := by decide +kernel
theorem dX2_element_138 : decode cX2_element 138 = .ok (.iload_n 3, 1) := by decide +kernel
theorem dX2_element_139 : decode cX2_element 139 = .ok (.iconst 2, 1) := by decide +kernel
theorem dX2_element_140 : decode cX2_element 140 = .ok (.iload_n 2, 1) := by decide +kernel
theorem dX2_element_141 : decode cX2_element 141 = .ok (.imul, 1) := by decide +kernel
theorem dX2_element_142 : decode cX2_element 142 = .ok (.iadd, 1) := by decide +kernel
theorem dX2_element_143 : decode cX2_element 143 = .ok (.iconst 1, 1) := by decide +kernel
theorem dX2_element_144 : decode cX2_element 144 = .ok (.iadd, 1) := by decide +kernel
theorem dX2_element_145 : decode cX2_element 145 = .ok (.iaload, 1) := by decide +kernel
theorem dX2_element_146 : decode cX2_element 146 = .ok (.i2l, 1) := by decide +kernel
theorem dX2_element_147 : decode cX2_element 147 = .ok (.ldc2_w 91, 3) := by decide +kernel
theorem dX2_element_150 : decode cX2_element 150 = .ok (.land, 1) := by decide +kernel
theorem dX2_element_151 : decode cX2_element 151 = .ok (.lor, 1) := by decide +kernel
theorem dX2_element_152 : decode cX2_element 152 = .ok (.lreturn, 1) := by decide +kernel
theorem dX2_element_153 : decode cX2_element 153 = .ok (.aload_n 0, 1) := by decide +kernel
theorem dX2_element_154 : decode cX2_element 154 = .ok (.getfield 15, 3) := by decide +kernel
theorem dX2_element_157 : decode cX2_element 157 = .ok (.iload_n 3, 1) := by decide +kernel
theorem dX2_element_158 : decode cX2_element 158 = .ok (.iload_n 2, 1) := by decide +kernel
theorem dX2_element_159 : decode cX2_element 159 = .ok (.iadd, 1) := by decide +kernel
theorem dX2_element_160 : decode cX2_element 160 = .ok (.iaload, 1) := by decide +kernel
theorem dX2_element_161 : decode cX2_element 161 = .ok (.i2l, 1) := by decide +kernel
theorem dX2_element_162 : decode cX2_element 162 = .ok (.lreturn, 1) := by decide +kernel
theorem dX2_length_0 : decode cX2_length 0 = .ok (.aload_n 0, 1) := by decide +kernel
theorem dX2_length_1 : decode cX2_length 1 = .ok (.getfield 15, 3) := by decide +kernel
theorem dX2_length_4 : decode cX2_length 4 = .ok (.aload_n 0, 1) := by decide +kernel
theorem dX2_length_5 : decode cX2_length 5 = .ok (.getfield 19, 3) := by decide +kernel
theorem dX2_length_8 : decode cX2_length 8 = .ok (.iload_n 1, 1) := by decide +kernel
theorem dX2_length_9 : decode cX2_length 9 = .ok (.iaload, 1) := by decide +kernel
theorem dX2_length_10 : decode cX2_length 10 = .ok (.iconst 1, 1) := by decide +kernel
theorem dX2_length_11 : decode cX2_length 11 = .ok (.iadd, 1) := by decide +kernel
theorem dX2_length_12 : decode cX2_length 12 = .ok (.iaload, 1) := by decide +kernel
theorem dX2_length_13 : decode cX2_length 13 = .ok (.ireturn, 1) := by decide +kernel
theorem dX4_isForSort_0 : decode cX4_isForSort 0 = .ok (.iload_n 0, 1) := by decide +kernel
theorem dX4_isForSort_1 : decode cX4_isForSort 1 = .ok (.bipush 46, 2) := by decide +kernel
theorem dX4_isForSort_3 : decode cX4_isForSort 3 = .ok (.iadd, 1) := by decide +kernel
theorem dX4_isForSort_4 : decode cX4_isForSort 4 = .ok (.tableswitch 108 46 52 #[44, 56, 108, 108, 68, 80, 97], 44) := by decide +kernel
theorem dX4_isForSort_48 : decode cX4_isForSort 48 = .ok (.iload_n 1, 1) := by decide +kernel
theorem dX4_isForSort_49 : decode cX4_isForSort 49 = .ok (.bipush 10, 2) := by decide +kernel
theorem dX4_isForSort_51 : decode cX4_isForSort 51 = .ok (.if_icmp .ne 7, 3) := by decide +kernel
theorem dX4_isForSort_54 : decode cX4_isForSort 54 = .ok (.iconst 1, 1) := by decide +kernel
theorem dX4_isForSort_55 : decode cX4_isForSort 55 = .ok (.goto 4, 3) := by decide +kernel
theorem dX4_isForSort_58 : decode cX4_isForSort 58 = .ok (.iconst 0, 1) := by decide +kernel
theorem dX4_isForSort_59 : decode cX4_isForSort 59 = .ok (.ireturn, 1) := by decide +kernel
theorem dX4_isForSort_60 : decode cX4_isForSort 60 = .ok (.iload_n 1, 1) := by decide +kernel
theorem dX4_isForSort_61 : decode cX4_isForSort 61 = .ok (.bipush 11, 2) := by decide +kernel
theorem dX4_isForSort_63 : decode cX4_isForSort 63 = .ok (.if_icmp .ne 7, 3) := by decide +kernel
theorem dX4_isForSort_66 : decode cX4_isForSort 66 = .ok (.iconst 1, 1) := by decide +kernel
theorem dX4_isForSort_67 : decode cX4_isForSort 67 = .ok (.goto 4, 3) := by decide +kernel
theorem dX4_isForSort_70 : decode cX4_isForSort 70 = .ok (.iconst 0, 1) := by decide +kernel
theorem dX4_isForSort_71 : decode cX4_isForSort 71 = .ok (.ireturn, 1) := by decide +kernel
theorem dX4_isForSort_72 : decode cX4_isForSort 72 = .ok (.iload_n 1, 1) := by decide +kernel
theorem dX4_isForSort_73 : decode cX4_isForSort 73 = .ok (.bipush 12, 2) := by decide +kernel
theorem dX4_isForSort_75 : decode cX4_isForSort 75 = .ok (.if_icmp .ne 7, 3) := by decide +kernel
theorem dX4_isForSort_78 : decode cX4_isForSort 78 = .ok (.iconst 1, 1) := by decide +kernel
theorem dX4_isForSort_79 : decode cX4_isForSort 79 = .ok (.goto 4, 3) := by decide +kernel
theorem dX4_isForSort_82 : decode cX4_isForSort 82 = .ok (.iconst 0, 1) := by decide +kernel
theorem dX4_isForSort_83 : decode cX4_isForSort 83 = .ok (.ireturn, 1) := by decide +kernel
theorem dX4_isForSort_84 : decode cX4_isForSort 84 = .ok (.iload_n 1, 1) := by decide +kernel
theorem dX4_isForSort_85 : decode cX4_isForSort 85 = .ok (.bipush 8, 2) := by decide +kernel
theorem dX4_isForSort_87 : decode cX4_isForSort 87 = .ok (.if_icmp .eq 8, 3) := by decide +kernel
theorem dX4_isForSort_90 : decode cX4_isForSort 90 = .ok (.iload_n 1, 1) := by decide +kernel
theorem dX4_isForSort_91 : decode cX4_isForSort 91 = .ok (.iconst 4, 1) := by decide +kernel
theorem dX4_isForSort_92 : decode cX4_isForSort 92 = .ok (.if_icmp .ne 7, 3) := by decide +kernel
theorem dX4_isForSort_95 : decode cX4_isForSort 95 = .ok (.iconst 1, 1) := by decide +kernel
theorem dX4_isForSort_96 : decode cX4_isForSort 96 = .ok (.goto 4, 3) := by decide +kernel
theorem dX4_isForSort_99 : decode cX4_isForSort 99 = .ok (.iconst 0, 1) := by decide +kernel
theorem dX4_isForSort_100 : decode cX4_isForSort 100 = .ok (.ireturn, 1) := by decide +kernel
theorem dX4_isForSort_101 : decode cX4_isForSort 101 = .ok (.iload_n 1, 1) := by decide +kernel
theorem dX4_isForSort_102 : decode cX4_isForSort 102 = .ok (.iconst 5, 1) := by decide +kernel
theorem dX4_isForSort_103 : decode cX4_isForSort 103 = .ok (.if_icmp .ne 7, 3) := by decide +kernel
theorem dX4_isForSort_106 : decode cX4_isForSort 106 = .ok (.iconst 1, 1) := by decide +kernel
theorem dX4_isForSort_107 : decode cX4_isForSort 107 = .ok (.goto 4, 3) := by decide +kernel
theorem dX4_isForSort_110 : decode cX4_isForSort 110 = .ok (.iconst 0, 1) := by decide +kernel
theorem dX4_isForSort_111 : decode cX4_isForSort 111 = .ok (.ireturn, 1) := by decide +kernel
theorem dX4_isForSort_112 : decode cX4_isForSort 112 = .ok (.iload_n 1, 1) := by decide +kernel
theorem dX4_isForSort_113 : decode cX4_isForSort 113 = .ok (.bipush 9, 2) := by decide +kernel
theorem dX4_isForSort_115 : decode cX4_isForSort 115 = .ok (.if_icmp .ne 7, 3) := by decide +kernel
theorem dX4_isForSort_118 : decode cX4_isForSort 118 = .ok (.iconst 1, 1) := by decide +kernel
theorem dX4_isForSort_119 : decode cX4_isForSort 119 = .ok (.goto 4, 3) := by decide +kernel
theorem dX4_isForSort_122 : decode cX4_isForSort 122 = .ok (.iconst 0, 1) := by decide +kernel
theorem dX4_isForSort_123 : decode cX4_isForSort 123 = .ok (.ireturn, 1) := by decide +kernel
theorem dX4_faultOfElement_0 : decode cX4_faultOfElement 0 = .ok (.iload_n 2, 1) := by decide +kernel
theorem dX4_faultOfElement_1 : decode cX4_faultOfElement 1 = .ok (.ifCond .ne 5, 3) := by decide +kernel
theorem dX4_faultOfElement_4 : decode cX4_faultOfElement 4 = .ok (.iconst 2, 1) := by decide +kernel
theorem dX4_faultOfElement_5 : decode cX4_faultOfElement 5 = .ok (.ireturn, 1) := by decide +kernel
theorem dX4_faultOfElement_6 : decode cX4_faultOfElement 6 = .ok (.iload_n 1, 1) := by decide +kernel
theorem dX4_faultOfElement_7 : decode cX4_faultOfElement 7 = .ok (.aload_n 0, 1) := by decide +kernel
theorem dX4_faultOfElement_8 : decode cX4_faultOfElement 8 = .ok (.getfield 28, 3) := by decide +kernel
theorem dX4_faultOfElement_11 : decode cX4_faultOfElement 11 = .ok (.iload_n 2, 1) := by decide +kernel
theorem dX4_faultOfElement_12 : decode cX4_faultOfElement 12 = .ok (.invokevirtual 205, 3) := by decide +kernel
theorem dX4_faultOfElement_15 : decode cX4_faultOfElement 15 = .ok (.ineg, 1) := by decide +kernel
theorem dX4_faultOfElement_16 : decode cX4_faultOfElement 16 = .ok (.invokestatic 208, 3) := by decide +kernel
theorem dX4_faultOfElement_19 : decode cX4_faultOfElement 19 = .ok (.ifCond .ne 5, 3) := by decide +kernel
theorem dX4_faultOfElement_22 : decode cX4_faultOfElement 22 = .ok (.iconst 5, 1) := by decide +kernel
theorem dX4_faultOfElement_23 : decode cX4_faultOfElement 23 = .ok (.ireturn, 1) := by decide +kernel
theorem dX4_faultOfElement_24 : decode cX4_faultOfElement 24 = .ok (.iload_n 3, 1) := by decide +kernel
theorem dX4_faultOfElement_25 : decode cX4_faultOfElement 25 = .ok (.ifCond .lt 15, 3) := by decide +kernel
theorem dX4_faultOfElement_28 : decode cX4_faultOfElement 28 = .ok (.iload_n 3, 1) := by decide +kernel
theorem dX4_faultOfElement_29 : decode cX4_faultOfElement 29 = .ok (.aload_n 0, 1) := by decide +kernel
theorem dX4_faultOfElement_30 : decode cX4_faultOfElement 30 = .ok (.getfield 28, 3) := by decide +kernel
theorem dX4_faultOfElement_33 : decode cX4_faultOfElement 33 = .ok (.iload_n 2, 1) := by decide +kernel
theorem dX4_faultOfElement_34 : decode cX4_faultOfElement 34 = .ok (.invokevirtual 212, 3) := by decide +kernel
theorem dX4_faultOfElement_37 : decode cX4_faultOfElement 37 = .ok (.if_icmp .lt 7, 3) := by decide +kernel
theorem dX4_faultOfElement_40 : decode cX4_faultOfElement 40 = .ok (.iconst 3, 1) := by decide +kernel
theorem dX4_faultOfElement_41 : decode cX4_faultOfElement 41 = .ok (.goto 4, 3) := by decide +kernel
theorem dX4_faultOfElement_44 : decode cX4_faultOfElement 44 = .ok (.iconst 0, 1) := by decide +kernel
theorem dX4_faultOfElement_45 : decode cX4_faultOfElement 45 = .ok (.ireturn, 1) := by decide +kernel
theorem dX4_loadElement_0 : decode cX4_loadElement 0 = .ok (.aload_n 0, 1) := by decide +kernel
theorem dX4_loadElement_1 : decode cX4_loadElement 1 = .ok (.getfield 46, 3) := by decide +kernel
theorem dX4_loadElement_4 : decode cX4_loadElement 4 = .ok (.iconst 1, 1) := by decide +kernel
theorem dX4_loadElement_5 : decode cX4_loadElement 5 = .ok (.invokevirtual 183, 3) := by decide +kernel
theorem dX4_loadElement_8 : decode cX4_loadElement 8 = .ok (.istore_n 2, 1) := by decide +kernel
theorem dX4_loadElement_9 : decode cX4_loadElement 9 = .ok (.aload_n 0, 1) := by decide +kernel
theorem dX4_loadElement_10 : decode cX4_loadElement 10 = .ok (.getfield 46, 3) := by decide +kernel
theorem dX4_loadElement_13 : decode cX4_loadElement 13 = .ok (.iconst 0, 1) := by decide +kernel
theorem dX4_loadElement_14 : decode cX4_loadElement 14 = .ok (.invokevirtual 186, 3) := by decide +kernel
theorem dX4_loadElement_17 : decode cX4_loadElement 17 = .ok (.l2i, 1) := by decide +kernel
theorem dX4_loadElement_18 : decode cX4_loadElement 18 = .ok (.istore_n 3, 1) := by decide +kernel
theorem dX4_loadElement_19 : decode cX4_loadElement 19 = .ok (.aload_n 0, 1) := by decide +kernel
theorem dX4_loadElement_20 : decode cX4_loadElement 20 = .ok (.iload_n 1, 1) := by decide +kernel
theorem dX4_loadElement_21 : decode cX4_loadElement 21 = .ok (.bipush 46, 2) := by decide +kernel
theorem dX4_loadElement_23 : decode cX4_loadElement 23 = .ok (.isub, 1) := by decide +kernel
theorem dX4_loadElement_24 : decode cX4_loadElement 24 = .ok (.iload_n 2, 1) := by decide +kernel
theorem dX4_loadElement_25 : decode cX4_loadElement 25 = .ok (.iload_n 3, 1) := by decide +kernel
theorem dX4_loadElement_26 : decode cX4_loadElement 26 = .ok (.invokevirtual 190, 3) := by decide +kernel
theorem dX4_loadElement_29 : decode cX4_loadElement 29 = .ok (.istore 4, 2) := by decide +kernel
theorem dX4_loadElement_31 : decode cX4_loadElement 31 = .ok (.iload 4, 2) := by decide +kernel
theorem dX4_loadElement_33 : decode cX4_loadElement 33 = .ok (.ifCond .eq 6, 3) := by decide +kernel
theorem dX4_loadElement_36 : decode cX4_loadElement 36 = .ok (.iload 4, 2) := by decide +kernel
theorem dX4_loadElement_38 : decode cX4_loadElement 38 = .ok (.ireturn, 1) := by decide +kernel
theorem dX4_loadElement_39 : decode cX4_loadElement 39 = .ok (.aload_n 0, 1) := by decide +kernel
theorem dX4_loadElement_40 : decode cX4_loadElement 40 = .ok (.getfield 28, 3) := by decide +kernel
theorem dX4_loadElement_43 : decode cX4_loadElement 43 = .ok (.iload_n 2, 1) := by decide +kernel
theorem dX4_loadElement_44 : decode cX4_loadElement 44 = .ok (.iload_n 3, 1) := by decide +kernel
theorem dX4_loadElement_45 : decode cX4_loadElement 45 = .ok (.invokevirtual 194, 3) := by decide +kernel
theorem dX4_loadElement_48 : decode cX4_loadElement 48 = .ok (.lstore 5, 2) := by decide +kernel
theorem dX4_loadElement_50 : decode cX4_loadElement 50 = .ok (.aload_n 0, 1) := by decide +kernel
theorem dX4_loadElement_51 : decode cX4_loadElement 51 = .ok (.getfield 46, 3) := by decide +kernel
theorem dX4_loadElement_54 : decode cX4_loadElement 54 = .ok (.iconst 2, 1) := by decide +kernel
theorem dX4_loadElement_55 : decode cX4_loadElement 55 = .ok (.invokevirtual 198, 3) := by decide +kernel
theorem dX4_loadElement_58 : decode cX4_loadElement 58 = .ok (.iload_n 1, 1) := by decide +kernel
theorem dX4_loadElement_59 : decode cX4_loadElement 59 = .ok (.bipush 50, 2) := by decide +kernel
theorem dX4_loadElement_61 : decode cX4_loadElement 61 = .ok (.if_icmp .ne 16, 3) := by decide +kernel
theorem dX4_loadElement_64 : decode cX4_loadElement 64 = .ok (.aload_n 0, 1) := by decide +kernel
theorem dX4_loadElement_65 : decode cX4_loadElement 65 = .ok (.getfield 46, 3) := by decide +kernel
theorem dX4_loadElement_68 : decode cX4_loadElement 68 = .ok (.lload 5, 2) := by decide +kernel
theorem dX4_loadElement_70 : decode cX4_loadElement 70 = .ok (.l2i, 1) := by decide +kernel
theorem dX4_loadElement_71 : decode cX4_loadElement 71 = .ok (.invokevirtual 167, 3) := by decide +kernel
theorem dX4_loadElement_74 : decode cX4_loadElement 74 = .ok (.goto 12, 3) := by decide +kernel
theorem dX4_loadElement_77 : decode cX4_loadElement 77 = .ok (.aload_n 0, 1) := by decide +kernel
theorem dX4_loadElement_78 : decode cX4_loadElement 78 = .ok (.getfield 46, 3) := by decide +kernel
theorem dX4_loadElement_81 : decode cX4_loadElement 81 = .ok (.lload 5, 2) := by decide +kernel
theorem dX4_loadElement_83 : decode cX4_loadElement 83 = .ok (.invokevirtual 170, 3) := by decide +kernel
theorem dX4_loadElement_86 : decode cX4_loadElement 86 = .ok (.aload_n 0, 1) := by decide +kernel
theorem dX4_loadElement_87 : decode cX4_loadElement 87 = .ok (.iconst 1, 1) := by decide +kernel
theorem dX4_loadElement_88 : decode cX4_loadElement 88 = .ok (.invokevirtual 164, 3) := by decide +kernel
theorem dX4_loadElement_91 : decode cX4_loadElement 91 = .ok (.ireturn, 1) := by decide +kernel
theorem dX2_wordsOfArray_0 : decode cX2_wordsOfArray 0 = .ok (.iload_n 0, 1) := by decide +kernel
theorem dX2_wordsOfArray_1 : decode cX2_wordsOfArray 1 = .ok (.tableswitch 83 4 11 #[47, 61, 83, 83, 47, 61, 83, 73], 47) := by decide +kernel
theorem dX2_wordsOfArray_48 : decode cX2_wordsOfArray 48 = .ok (.ldc2_w 34, 3) := by decide +kernel
theorem dX2_wordsOfArray_51 : decode cX2_wordsOfArray 51 = .ok (.lload_n 1, 1) := by decide +kernel
theorem dX2_wordsOfArray_52 : decode cX2_wordsOfArray 52 = .ok (.ldc2_w 36, 3) := by decide +kernel
theorem dX2_wordsOfArray_55 : decode cX2_wordsOfArray 55 = .ok (.ladd, 1) := by decide +kernel
theorem dX2_wordsOfArray_56 : decode cX2_wordsOfArray 56 = .ok (.ldc2_w 38, 3) := by decide +kernel
theorem dX2_wordsOfArray_59 : decode cX2_wordsOfArray 59 = .ok (.ldiv, 1) := by decide +kernel
theorem dX2_wordsOfArray_60 : decode cX2_wordsOfArray 60 = .ok (.ladd, 1) := by decide +kernel
theorem dX2_wordsOfArray_61 : decode cX2_wordsOfArray 61 = .ok (.lreturn, 1) := by decide +kernel
theorem dX2_wordsOfArray_62 : decode cX2_wordsOfArray 62 = .ok (.ldc2_w 34, 3) := by decide +kernel
theorem dX2_wordsOfArray_65 : decode cX2_wordsOfArray 65 = .ok (.lload_n 1, 1) := by decide +kernel
theorem dX2_wordsOfArray_66 : decode cX2_wordsOfArray 66 = .ok (.lconst 1, 1) := by decide +kernel
theorem dX2_wordsOfArray_67 : decode cX2_wordsOfArray 67 = .ok (.ladd, 1) := by decide +kernel
theorem dX2_wordsOfArray_68 : decode cX2_wordsOfArray 68 = .ok (.ldc2_w 34, 3) := by decide +kernel
theorem dX2_wordsOfArray_71 : decode cX2_wordsOfArray 71 = .ok (.ldiv, 1) := by decide +kernel
theorem dX2_wordsOfArray_72 : decode cX2_wordsOfArray 72 = .ok (.ladd, 1) := by decide +kernel
theorem dX2_wordsOfArray_73 : decode cX2_wordsOfArray 73 = .ok (.lreturn, 1) := by decide +kernel
theorem dX2_wordsOfArray_74 : decode cX2_wordsOfArray 74 = .ok (.ldc2_w 34, 3) := by decide +kernel
theorem dX2_wordsOfArray_77 : decode cX2_wordsOfArray 77 = .ok (.ldc2_w 34, 3) := by decide +kernel
theorem dX2_wordsOfArray_80 : decode cX2_wordsOfArray 80 = .ok (.lload_n 1, 1) := by decide +kernel
theorem dX2_wordsOfArray_81 : decode cX2_wordsOfArray 81 = .ok (.lmul, 1) := by decide +kernel
theorem dX2_wordsOfArray_82 : decode cX2_wordsOfArray 82 = .ok (.ladd, 1) := by decide +kernel
theorem dX2_wordsOfArray_83 : decode cX2_wordsOfArray 83 = .ok (.lreturn, 1) := by decide +kernel
theorem dX2_wordsOfArray_84 : decode cX2_wordsOfArray 84 = .ok (.ldc2_w 34, 3) := by decide +kernel
theorem dX2_wordsOfArray_87 : decode cX2_wordsOfArray 87 = .ok (.lload_n 1, 1) := by decide +kernel
theorem dX2_wordsOfArray_88 : decode cX2_wordsOfArray 88 = .ok (.ladd, 1) := by decide +kernel
theorem dX2_wordsOfArray_89 : decode cX2_wordsOfArray 89 = .ok (.lreturn, 1) := by decide +kernel
theorem dX4_makeArray_0 : decode cX4_makeArray 0 = .ok (.aload_n 0, 1) := by decide +kernel
theorem dX4_makeArray_1 : decode cX4_makeArray 1 = .ok (.getfield 46, 3) := by decide +kernel
theorem dX4_makeArray_4 : decode cX4_makeArray 4 = .ok (.iconst 0, 1) := by decide +kernel
theorem dX4_makeArray_5 : decode cX4_makeArray 5 = .ok (.invokevirtual 186, 3) := by decide +kernel
theorem dX4_makeArray_8 : decode cX4_makeArray 8 = .ok (.l2i, 1) := by decide +kernel
theorem dX4_makeArray_9 : decode cX4_makeArray 9 = .ok (.istore_n 3, 1) := by decide +kernel
theorem dX4_makeArray_10 : decode cX4_makeArray 10 = .ok (.iload_n 3, 1) := by decide +kernel
theorem dX4_makeArray_11 : decode cX4_makeArray 11 = .ok (.ifCond .ge 5, 3) := by decide +kernel
theorem dX4_makeArray_14 : decode cX4_makeArray 14 = .ok (.iconst 4, 1) := by decide +kernel
theorem dX4_makeArray_15 : decode cX4_makeArray 15 = .ok (.ireturn, 1) := by decide +kernel
theorem dX4_makeArray_16 : decode cX4_makeArray 16 = .ok (.aload_n 0, 1) := by decide +kernel
theorem dX4_makeArray_17 : decode cX4_makeArray 17 = .ok (.iload_n 1, 1) := by decide +kernel
theorem dX4_makeArray_18 : decode cX4_makeArray 18 = .ok (.ineg, 1) := by decide +kernel
theorem dX4_makeArray_19 : decode cX4_makeArray 19 = .ok (.iload_n 3, 1) := by decide +kernel
theorem dX4_makeArray_20 : decode cX4_makeArray 20 = .ok (.iload_n 1, 1) := by decide +kernel
theorem dX4_makeArray_21 : decode cX4_makeArray 21 = .ok (.iload_n 3, 1) := by decide +kernel
theorem dX4_makeArray_22 : decode cX4_makeArray 22 = .ok (.i2l, 1) := by decide +kernel
theorem dX4_makeArray_23 : decode cX4_makeArray 23 = .ok (.invokestatic 287, 3) := by decide +kernel
theorem dX4_makeArray_26 : decode cX4_makeArray 26 = .ok (.invokevirtual 283, 3) := by decide +kernel
theorem dX4_makeArray_29 : decode cX4_makeArray 29 = .ok (.istore 4, 2) := by decide +kernel
theorem dX4_makeArray_31 : decode cX4_makeArray 31 = .ok (.iload 4, 2) := by decide +kernel
theorem dX4_makeArray_33 : decode cX4_makeArray 33 = .ok (.ifCond .ne 5, 3) := by decide +kernel
theorem dX4_makeArray_36 : decode cX4_makeArray 36 = .ok (.iconst 0, 1) := by decide +kernel
theorem dX4_makeArray_37 : decode cX4_makeArray 37 = .ok (.ireturn, 1) := by decide +kernel
theorem dX4_makeArray_38 : decode cX4_makeArray 38 = .ok (.aload_n 0, 1) := by decide +kernel
theorem dX4_makeArray_39 : decode cX4_makeArray 39 = .ok (.getfield 46, 3) := by decide +kernel
theorem dX4_makeArray_42 : decode cX4_makeArray 42 = .ok (.iconst 1, 1) := by decide +kernel
theorem dX4_makeArray_43 : decode cX4_makeArray 43 = .ok (.invokevirtual 198, 3) := by decide +kernel
theorem dX4_makeArray_46 : decode cX4_makeArray 46 = .ok (.aload_n 0, 1) := by decide +kernel
theorem dX4_makeArray_47 : decode cX4_makeArray 47 = .ok (.getfield 46, 3) := by decide +kernel
theorem dX4_makeArray_50 : decode cX4_makeArray 50 = .ok (.iload 4, 2) := by decide +kernel
theorem dX4_makeArray_52 : decode cX4_makeArray 52 = .ok (.invokevirtual 167, 3) := by decide +kernel
theorem dX4_makeArray_55 : decode cX4_makeArray 55 = .ok (.aload_n 0, 1) := by decide +kernel
theorem dX4_makeArray_56 : decode cX4_makeArray 56 = .ok (.iload_n 2, 1) := by decide +kernel
theorem dX4_makeArray_57 : decode cX4_makeArray 57 = .ok (.invokevirtual 164, 3) := by decide +kernel
theorem dX4_makeArray_60 : decode cX4_makeArray 60 = .ok (.ireturn, 1) := by decide +kernel
theorem dX4_makeObject_0 : decode cX4_makeObject 0 = .ok (.aload_n 0, 1) := by decide +kernel
theorem dX4_makeObject_1 : decode cX4_makeObject 1 = .ok (.getfield 46, 3) := by decide +kernel
theorem dX4_makeObject_4 : decode cX4_makeObject 4 = .ok (.iconst 1, 1) := by decide +kernel
theorem dX4_makeObject_5 : decode cX4_makeObject 5 = .ok (.invokevirtual 142, 3) := by decide +kernel
theorem dX4_makeObject_8 : decode cX4_makeObject 8 = .ok (.istore_n 1, 1) := by decide +kernel
theorem dX4_makeObject_9 : decode cX4_makeObject 9 = .ok (.aload_n 0, 1) := by decide +kernel
theorem dX4_makeObject_10 : decode cX4_makeObject 10 = .ok (.iload_n 1, 1) := by decide +kernel
theorem dX4_makeObject_11 : decode cX4_makeObject 11 = .ok (.iconst 0, 1) := by decide +kernel
theorem dX4_makeObject_12 : decode cX4_makeObject 12 = .ok (.aload_n 0, 1) := by decide +kernel
theorem dX4_makeObject_13 : decode cX4_makeObject 13 = .ok (.getfield 28, 3) := by decide +kernel
theorem dX4_makeObject_16 : decode cX4_makeObject 16 = .ok (.iload_n 1, 1) := by decide +kernel
theorem dX4_makeObject_17 : decode cX4_makeObject 17 = .ok (.invokevirtual 280, 3) := by decide +kernel
theorem dX4_makeObject_20 : decode cX4_makeObject 20 = .ok (.i2l, 1) := by decide +kernel
theorem dX4_makeObject_21 : decode cX4_makeObject 21 = .ok (.invokevirtual 283, 3) := by decide +kernel
theorem dX4_makeObject_24 : decode cX4_makeObject 24 = .ok (.istore_n 2, 1) := by decide +kernel
theorem dX4_makeObject_25 : decode cX4_makeObject 25 = .ok (.iload_n 2, 1) := by decide +kernel
theorem dX4_makeObject_26 : decode cX4_makeObject 26 = .ok (.ifCond .ne 5, 3) := by decide +kernel
theorem dX4_makeObject_29 : decode cX4_makeObject 29 = .ok (.iconst 0, 1) := by decide +kernel
theorem dX4_makeObject_30 : decode cX4_makeObject 30 = .ok (.ireturn, 1) := by decide +kernel
theorem dX4_makeObject_31 : decode cX4_makeObject 31 = .ok (.aload_n 0, 1) := by decide +kernel
theorem dX4_makeObject_32 : decode cX4_makeObject 32 = .ok (.getfield 46, 3) := by decide +kernel
theorem dX4_makeObject_35 : decode cX4_makeObject 35 = .ok (.iload_n 2, 1) := by decide +kernel
theorem dX4_makeObject_36 : decode cX4_makeObject 36 = .ok (.invokevirtual 167, 3) := by decide +kernel
theorem dX4_makeObject_39 : decode cX4_makeObject 39 = .ok (.aload_n 0, 1) := by decide +kernel
theorem dX4_makeObject_40 : decode cX4_makeObject 40 = .ok (.iconst 2, 1) := by decide +kernel
theorem dX4_makeObject_41 : decode cX4_makeObject 41 = .ok (.invokevirtual 164, 3) := by decide +kernel
theorem dX4_makeObject_44 : decode cX4_makeObject 44 = .ok (.ireturn, 1) := by decide +kernel
theorem dX1_pushLocal_0 : decode cX1_pushLocal 0 = .ok (.aload_n 0, 1) := by decide +kernel
theorem dX1_pushLocal_1 : decode cX1_pushLocal 1 = .ok (.aload_n 0, 1) := by decide +kernel
theorem dX1_pushLocal_2 : decode cX1_pushLocal 2 = .ok (.iload_n 1, 1) := by decide +kernel
theorem dX1_pushLocal_3 : decode cX1_pushLocal 3 = .ok (.aload_n 0, 1) := by decide +kernel
theorem dX1_pushLocal_4 : decode cX1_pushLocal 4 = .ok (.getfield 19, 3) := by decide +kernel
theorem dX1_pushLocal_7 : decode cX1_pushLocal 7 = .ok (.invokevirtual 49, 3) := by decide +kernel
theorem dX1_pushLocal_10 : decode cX1_pushLocal 10 = .ok (.aload_n 0, 1) := by decide +kernel
theorem dX1_pushLocal_11 : decode cX1_pushLocal 11 = .ok (.dup, 1) := by decide +kernel
theorem dX1_pushLocal_12 : decode cX1_pushLocal 12 = .ok (.getfield 19, 3) := by decide +kernel
theorem dX1_pushLocal_15 : decode cX1_pushLocal 15 = .ok (.iconst 1, 1) := by decide +kernel
theorem dX1_pushLocal_16 : decode cX1_pushLocal 16 = .ok (.iadd, 1) := by decide +kernel
theorem dX1_pushLocal_17 : decode cX1_pushLocal 17 = .ok (.putfield 19, 3) := by decide +kernel
theorem dX1_pushLocal_20 : decode cX1_pushLocal 20 = .ok (.return_, 1) := by decide +kernel
theorem dX4_push_0 : decode cX4_push 0 = .ok (.iload_n 1, 1) := by decide +kernel
theorem dX4_push_1 : decode cX4_push 1 = .ok (.tableswitch 222 0 25 #[119, 125, 222, 222, 222, 222, 222, 222, 222, 139, 139, 222, 222, 222, 222, 222, 157, 180, 222, 222, 222, 201, 201, 222, 222, 201], 119) := by decide +kernel
theorem dX4_push_120 : decode cX4_push 120 = .ok (.aload_n 0, 1) := by decide +kernel
theorem dX4_push_121 : decode cX4_push 121 = .ok (.iconst 1, 1) := by decide +kernel
theorem dX4_push_122 : decode cX4_push 122 = .ok (.invokevirtual 164, 3) := by decide +kernel
theorem dX4_push_125 : decode cX4_push 125 = .ok (.ireturn, 1) := by decide +kernel
theorem dX4_push_126 : decode cX4_push 126 = .ok (.aload_n 0, 1) := by decide +kernel
theorem dX4_push_127 : decode cX4_push 127 = .ok (.getfield 46, 3) := by decide +kernel
theorem dX4_push_130 : decode cX4_push 130 = .ok (.iconst 0, 1) := by decide +kernel
theorem dX4_push_131 : decode cX4_push 131 = .ok (.invokevirtual 167, 3) := by decide +kernel
theorem dX4_push_134 : decode cX4_push 134 = .ok (.aload_n 0, 1) := by decide +kernel
theorem dX4_push_135 : decode cX4_push 135 = .ok (.iconst 1, 1) := by decide +kernel
theorem dX4_push_136 : decode cX4_push 136 = .ok (.invokevirtual 164, 3) := by decide +kernel
theorem dX4_push_139 : decode cX4_push 139 = .ok (.ireturn, 1) := by decide +kernel
theorem dX4_push_140 : decode cX4_push 140 = .ok (.aload_n 0, 1) := by decide +kernel
theorem dX4_push_141 : decode cX4_push 141 = .ok (.getfield 46, 3) := by decide +kernel
theorem dX4_push_144 : decode cX4_push 144 = .ok (.iload_n 1, 1) := by decide +kernel
theorem dX4_push_145 : decode cX4_push 145 = .ok (.bipush 9, 2) := by decide +kernel
theorem dX4_push_147 : decode cX4_push 147 = .ok (.isub, 1) := by decide +kernel
theorem dX4_push_148 : decode cX4_push 148 = .ok (.i2l, 1) := by decide +kernel
theorem dX4_push_149 : decode cX4_push 149 = .ok (.invokevirtual 170, 3) := by decide +kernel
theorem dX4_push_152 : decode cX4_push 152 = .ok (.aload_n 0, 1) := by decide +kernel
theorem dX4_push_153 : decode cX4_push 153 = .ok (.iconst 1, 1) := by decide +kernel
theorem dX4_push_154 : decode cX4_push 154 = .ok (.invokevirtual 164, 3) := by decide +kernel
theorem dX4_push_157 : decode cX4_push 157 = .ok (.ireturn, 1) := by decide +kernel
theorem dX4_push_158 : decode cX4_push 158 = .ok (.aload_n 0, 1) := by decide +kernel
theorem dX4_push_159 : decode cX4_push 159 = .ok (.getfield 46, 3) := by decide +kernel
theorem dX4_push_162 : decode cX4_push 162 = .ok (.aload_n 0, 1) := by decide +kernel
theorem dX4_push_163 : decode cX4_push 163 = .ok (.getfield 46, 3) := by decide +kernel
theorem dX4_push_166 : decode cX4_push 166 = .ok (.iconst 1, 1) := by decide +kernel
theorem dX4_push_167 : decode cX4_push 167 = .ok (.invokevirtual 142, 3) := by decide +kernel
theorem dX4_push_170 : decode cX4_push 170 = .ok (.i2b, 1) := by decide +kernel
theorem dX4_push_171 : decode cX4_push 171 = .ok (.i2l, 1) := by decide +kernel
theorem dX4_push_172 : decode cX4_push 172 = .ok (.invokevirtual 170, 3) := by decide +kernel
theorem dX4_push_175 : decode cX4_push 175 = .ok (.aload_n 0, 1) := by decide +kernel
theorem dX4_push_176 : decode cX4_push 176 = .ok (.iconst 2, 1) := by decide +kernel
theorem dX4_push_177 : decode cX4_push 177 = .ok (.invokevirtual 164, 3) := by decide +kernel
theorem dX4_push_180 : decode cX4_push 180 = .ok (.ireturn, 1) := by decide +kernel
theorem dX4_push_181 : decode cX4_push 181 = .ok (.aload_n 0, 1) := by decide +kernel
theorem dX4_push_182 : decode cX4_push 182 = .ok (.getfield 46, 3) := by decide +kernel
theorem dX4_push_185 : decode cX4_push 185 = .ok (.aload_n 0, 1) := by decide +kernel
theorem dX4_push_186 : decode cX4_push 186 = .ok (.getfield 46, 3) := by decide +kernel
theorem dX4_push_189 : decode cX4_push 189 = .ok (.invokevirtual 174, 3) := by decide +kernel
theorem dX4_push_192 : decode cX4_push 192 = .ok (.i2l, 1) := by decide +kernel
theorem dX4_push_193 : decode cX4_push 193 = .ok (.invokevirtual 170, 3) := by decide +kernel
theorem dX4_push_196 : decode cX4_push 196 = .ok (.aload_n 0, 1) := by decide +kernel
theorem dX4_push_197 : decode cX4_push 197 = .ok (.iconst 3, 1) := by decide +kernel
theorem dX4_push_198 : decode cX4_push 198 = .ok (.invokevirtual 164, 3) := by decide +kernel
theorem dX4_push_201 : decode cX4_push 201 = .ok (.ireturn, 1) := by decide +kernel
theorem dX4_push_202 : decode cX4_push 202 = .ok (.aload_n 0, 1) := by decide +kernel
theorem dX4_push_203 : decode cX4_push 203 = .ok (.getfield 46, 3) := by decide +kernel
theorem dX4_push_206 : decode cX4_push 206 = .ok (.aload_n 0, 1) := by decide +kernel
theorem dX4_push_207 : decode cX4_push 207 = .ok (.getfield 46, 3) := by decide +kernel
theorem dX4_push_210 : decode cX4_push 210 = .ok (.iconst 1, 1) := by decide +kernel
theorem dX4_push_211 : decode cX4_push 211 = .ok (.invokevirtual 142, 3) := by decide +kernel
theorem dX4_push_214 : decode cX4_push 214 = .ok (.invokevirtual 177, 3) := by decide +kernel
theorem dX4_push_217 : decode cX4_push 217 = .ok (.aload_n 0, 1) := by decide +kernel
theorem dX4_push_218 : decode cX4_push 218 = .ok (.iconst 2, 1) := by decide +kernel
theorem dX4_push_219 : decode cX4_push 219 = .ok (.invokevirtual 164, 3) := by decide +kernel
theorem dX4_push_222 : decode cX4_push 222 = .ok (.ireturn, 1) := by decide +kernel
theorem dX4_push_223 : decode cX4_push 223 = .ok (.aload_n 0, 1) := by decide +kernel
theorem dX4_push_224 : decode cX4_push 224 = .ok (.getfield 46, 3) := by decide +kernel
theorem dX4_push_227 : decode cX4_push 227 = .ok (.iload_n 1, 1) := by decide +kernel
theorem dX4_push_228 : decode cX4_push 228 = .ok (.iconst 3, 1) := by decide +kernel
theorem dX4_push_229 : decode cX4_push 229 = .ok (.isub, 1) := by decide +kernel
theorem dX4_push_230 : decode cX4_push 230 = .ok (.i2l, 1) := by decide +kernel
theorem dX4_push_231 : decode cX4_push 231 = .ok (.invokevirtual 170, 3) := by decide +kernel
theorem dX4_push_234 : decode cX4_push 234 = .ok (.aload_n 0, 1) := by decide +kernel
theorem dX4_push_235 : decode cX4_push 235 = .ok (.iconst 1, 1) := by decide +kernel
theorem dX4_push_236 : decode cX4_push 236 = .ok (.invokevirtual 164, 3) := by decide +kernel
theorem dX4_push_239 : decode cX4_push 239 = .ok (.ireturn, 1) := by decide +kernel
theorem dX2_field_0 : decode cX2_field 0 = .ok (.aload_n 0, 1) := by decide +kernel
theorem dX2_field_1 : decode cX2_field 1 = .ok (.getfield 15, 3) := by decide +kernel
theorem dX2_field_4 : decode cX2_field 4 = .ok (.aload_n 0, 1) := by decide +kernel
theorem dX2_field_5 : decode cX2_field 5 = .ok (.getfield 19, 3) := by decide +kernel
theorem dX2_field_8 : decode cX2_field 8 = .ok (.iload_n 1, 1) := by decide +kernel
theorem dX2_field_9 : decode cX2_field 9 = .ok (.iaload, 1) := by decide +kernel
theorem dX2_field_10 : decode cX2_field 10 = .ok (.iconst 2, 1) := by decide +kernel
theorem dX2_field_11 : decode cX2_field 11 = .ok (.iadd, 1) := by decide +kernel
theorem dX2_field_12 : decode cX2_field 12 = .ok (.iload_n 2, 1) := by decide +kernel
theorem dX2_field_13 : decode cX2_field 13 = .ok (.iadd, 1) := by decide +kernel
theorem dX2_field_14 : decode cX2_field 14 = .ok (.iaload, 1) := by decide +kernel
theorem dX2_field_15 : decode cX2_field 15 = .ok (.ireturn, 1) := by decide +kernel
theorem dX4_faultOfObject_0 : decode cX4_faultOfObject 0 = .ok (.iload_n 1, 1) := by decide +kernel
theorem dX4_faultOfObject_1 : decode cX4_faultOfObject 1 = .ok (.ifCond .ne 5, 3) := by decide +kernel
theorem dX4_faultOfObject_4 : decode cX4_faultOfObject 4 = .ok (.iconst 2, 1) := by decide +kernel
theorem dX4_faultOfObject_5 : decode cX4_faultOfObject 5 = .ok (.ireturn, 1) := by decide +kernel
theorem dX4_faultOfObject_6 : decode cX4_faultOfObject 6 = .ok (.aload_n 0, 1) := by decide +kernel
theorem dX4_faultOfObject_7 : decode cX4_faultOfObject 7 = .ok (.iload_n 1, 1) := by decide +kernel
theorem dX4_faultOfObject_8 : decode cX4_faultOfObject 8 = .ok (.iload_n 2, 1) := by decide +kernel
theorem dX4_faultOfObject_9 : decode cX4_faultOfObject 9 = .ok (.invokevirtual 274, 3) := by decide +kernel
theorem dX4_faultOfObject_12 : decode cX4_faultOfObject 12 = .ok (.ifCond .eq 7, 3) := by decide +kernel
theorem dX4_faultOfObject_15 : decode cX4_faultOfObject 15 = .ok (.iconst 0, 1) := by decide +kernel
theorem dX4_faultOfObject_16 : decode cX4_faultOfObject 16 = .ok (.goto 4, 3) := by decide +kernel
theorem dX4_faultOfObject_19 : decode cX4_faultOfObject 19 = .ok (.iconst 5, 1) := by decide +kernel
theorem dX4_faultOfObject_20 : decode cX4_faultOfObject 20 = .ok (.ireturn, 1) := by decide +kernel
theorem dX4_readField_0 : decode cX4_readField 0 = .ok (.aload_n 0, 1) := by decide +kernel
theorem dX4_readField_1 : decode cX4_readField 1 = .ok (.getfield 46, 3) := by decide +kernel
theorem dX4_readField_4 : decode cX4_readField 4 = .ok (.iconst 1, 1) := by decide +kernel
theorem dX4_readField_5 : decode cX4_readField 5 = .ok (.invokevirtual 142, 3) := by decide +kernel
theorem dX4_readField_8 : decode cX4_readField 8 = .ok (.istore_n 1, 1) := by decide +kernel
theorem dX4_readField_9 : decode cX4_readField 9 = .ok (.aload_n 0, 1) := by decide +kernel
theorem dX4_readField_10 : decode cX4_readField 10 = .ok (.getfield 46, 3) := by decide +kernel
theorem dX4_readField_13 : decode cX4_readField 13 = .ok (.iconst 2, 1) := by decide +kernel
theorem dX4_readField_14 : decode cX4_readField 14 = .ok (.invokevirtual 142, 3) := by decide +kernel
theorem dX4_readField_17 : decode cX4_readField 17 = .ok (.istore_n 2, 1) := by decide +kernel
theorem dX4_readField_18 : decode cX4_readField 18 = .ok (.aload_n 0, 1) := by decide +kernel
theorem dX4_readField_19 : decode cX4_readField 19 = .ok (.getfield 46, 3) := by decide +kernel
theorem dX4_readField_22 : decode cX4_readField 22 = .ok (.iconst 0, 1) := by decide +kernel
theorem dX4_readField_23 : decode cX4_readField 23 = .ok (.invokevirtual 183, 3) := by decide +kernel
theorem dX4_readField_26 : decode cX4_readField 26 = .ok (.istore_n 3, 1) := by decide +kernel
theorem dX4_readField_27 : decode cX4_readField 27 = .ok (.aload_n 0, 1) := by decide +kernel
theorem dX4_readField_28 : decode cX4_readField 28 = .ok (.iload_n 3, 1) := by decide +kernel
theorem dX4_readField_29 : decode cX4_readField 29 = .ok (.iload_n 1, 1) := by decide +kernel
theorem dX4_readField_30 : decode cX4_readField 30 = .ok (.invokevirtual 259, 3) := by decide +kernel
theorem dX4_readField_33 : decode cX4_readField 33 = .ok (.istore 4, 2) := by decide +kernel
theorem dX4_readField_35 : decode cX4_readField 35 = .ok (.iload 4, 2) := by decide +kernel
theorem dX4_readField_37 : decode cX4_readField 37 = .ok (.ifCond .eq 6, 3) := by decide +kernel
theorem dX4_readField_40 : decode cX4_readField 40 = .ok (.iload 4, 2) := by decide +kernel
theorem dX4_readField_42 : decode cX4_readField 42 = .ok (.ireturn, 1) := by decide +kernel
theorem dX4_readField_43 : decode cX4_readField 43 = .ok (.aload_n 0, 1) := by decide +kernel
theorem dX4_readField_44 : decode cX4_readField 44 = .ok (.getfield 28, 3) := by decide +kernel
theorem dX4_readField_47 : decode cX4_readField 47 = .ok (.iload_n 3, 1) := by decide +kernel
theorem dX4_readField_48 : decode cX4_readField 48 = .ok (.iload_n 2, 1) := by decide +kernel
theorem dX4_readField_49 : decode cX4_readField 49 = .ok (.invokevirtual 262, 3) := by decide +kernel
theorem dX4_readField_52 : decode cX4_readField 52 = .ok (.istore 5, 2) := by decide +kernel
theorem dX4_readField_54 : decode cX4_readField 54 = .ok (.aload_n 0, 1) := by decide +kernel
theorem dX4_readField_55 : decode cX4_readField 55 = .ok (.getfield 46, 3) := by decide +kernel
theorem dX4_readField_58 : decode cX4_readField 58 = .ok (.iconst 1, 1) := by decide +kernel
theorem dX4_readField_59 : decode cX4_readField 59 = .ok (.invokevirtual 198, 3) := by decide +kernel
theorem dX4_readField_62 : decode cX4_readField 62 = .ok (.aload_n 0, 1) := by decide +kernel
theorem dX4_readField_63 : decode cX4_readField 63 = .ok (.getfield 9, 3) := by decide +kernel
theorem dX4_readField_66 : decode cX4_readField 66 = .ok (.iload_n 1, 1) := by decide +kernel
theorem dX4_readField_67 : decode cX4_readField 67 = .ok (.iload_n 2, 1) := by decide +kernel
theorem dX4_readField_68 : decode cX4_readField 68 = .ok (.invokevirtual 265, 3) := by decide +kernel
theorem dX4_readField_71 : decode cX4_readField 71 = .ok (.iconst 3, 1) := by decide +kernel
theorem dX4_readField_72 : decode cX4_readField 72 = .ok (.if_icmp .ne 15, 3) := by decide +kernel
theorem dX4_readField_75 : decode cX4_readField 75 = .ok (.aload_n 0, 1) := by decide +kernel
theorem dX4_readField_76 : decode cX4_readField 76 = .ok (.getfield 46, 3) := by decide +kernel
theorem dX4_readField_79 : decode cX4_readField 79 = .ok (.iload 5, 2) := by decide +kernel
theorem dX4_readField_81 : decode cX4_readField 81 = .ok (.invokevirtual 167, 3) := by decide +kernel
theorem dX4_readField_84 : decode cX4_readField 84 = .ok (.goto 13, 3) := by decide +kernel
theorem dX4_readField_87 : decode cX4_readField 87 = .ok (.aload_n 0, 1) := by decide +kernel
theorem dX4_readField_88 : decode cX4_readField 88 = .ok (.getfield 46, 3) := by decide +kernel
theorem dX4_readField_91 : decode cX4_readField 91 = .ok (.iload 5, 2) := by decide +kernel
theorem dX4_readField_93 : decode cX4_readField 93 = .ok (.i2l, 1) := by decide +kernel
theorem dX4_readField_94 : decode cX4_readField 94 = .ok (.invokevirtual 170, 3) := by decide +kernel
theorem dX4_readField_97 : decode cX4_readField 97 = .ok (.aload_n 0, 1) := by decide +kernel
theorem dX4_readField_98 : decode cX4_readField 98 = .ok (.iconst 3, 1) := by decide +kernel
theorem dX4_readField_99 : decode cX4_readField 99 = .ok (.invokevirtual 164, 3) := by decide +kernel
theorem dX4_readField_102 : decode cX4_readField 102 = .ok (.ireturn, 1) := by decide +kernel
theorem dX4_combined_0 : decode cX4_combined 0 = .ok (.iload_n 0, 1) := by decide +kernel
theorem dX4_combined_1 : decode cX4_combined 1 = .ok (.lookupswitch 95 #[(96, 67), (100, 71), (104, 75), (108, 79), (112, 83), (126, 87), (128, 91)], 67) := by decide +kernel
theorem dX4_combined_68 : decode cX4_combined 68 = .ok (.lload_n 1, 1) := by decide +kernel
theorem dX4_combined_69 : decode cX4_combined 69 = .ok (.lload_n 3, 1) := by decide +kernel
theorem dX4_combined_70 : decode cX4_combined 70 = .ok (.ladd, 1) := by decide +kernel
theorem dX4_combined_71 : decode cX4_combined 71 = .ok (.lreturn, 1) := by decide +kernel
theorem dX4_combined_72 : decode cX4_combined 72 = .ok (.lload_n 1, 1) := by decide +kernel
theorem dX4_combined_73 : decode cX4_combined 73 = .ok (.lload_n 3, 1) := by decide +kernel
theorem dX4_combined_74 : decode cX4_combined 74 = .ok (.lsub, 1) := by decide +kernel
theorem dX4_combined_75 : decode cX4_combined 75 = .ok (.lreturn, 1) := by decide +kernel
theorem dX4_combined_76 : decode cX4_combined 76 = .ok (.lload_n 1, 1) := by decide +kernel
theorem dX4_combined_77 : decode cX4_combined 77 = .ok (.lload_n 3, 1) := by decide +kernel
theorem dX4_combined_78 : decode cX4_combined 78 = .ok (.lmul, 1) := by decide +kernel
theorem dX4_combined_79 : decode cX4_combined 79 = .ok (.lreturn, 1) := by decide +kernel
theorem dX4_combined_80 : decode cX4_combined 80 = .ok (.lload_n 1, 1) := by decide +kernel
theorem dX4_combined_81 : decode cX4_combined 81 = .ok (.lload_n 3, 1) := by decide +kernel
theorem dX4_combined_82 : decode cX4_combined 82 = .ok (.ldiv, 1) := by decide +kernel
theorem dX4_combined_83 : decode cX4_combined 83 = .ok (.lreturn, 1) := by decide +kernel
theorem dX4_combined_84 : decode cX4_combined 84 = .ok (.lload_n 1, 1) := by decide +kernel
theorem dX4_combined_85 : decode cX4_combined 85 = .ok (.lload_n 3, 1) := by decide +kernel
theorem dX4_combined_86 : decode cX4_combined 86 = .ok (.lrem, 1) := by decide +kernel
theorem dX4_combined_87 : decode cX4_combined 87 = .ok (.lreturn, 1) := by decide +kernel
theorem dX4_combined_88 : decode cX4_combined 88 = .ok (.lload_n 1, 1) := by decide +kernel
theorem dX4_combined_89 : decode cX4_combined 89 = .ok (.lload_n 3, 1) := by decide +kernel
theorem dX4_combined_90 : decode cX4_combined 90 = .ok (.land, 1) := by decide +kernel
theorem dX4_combined_91 : decode cX4_combined 91 = .ok (.lreturn, 1) := by decide +kernel
theorem dX4_combined_92 : decode cX4_combined 92 = .ok (.lload_n 1, 1) := by decide +kernel
theorem dX4_combined_93 : decode cX4_combined 93 = .ok (.lload_n 3, 1) := by decide +kernel
theorem dX4_combined_94 : decode cX4_combined 94 = .ok (.lor, 1) := by decide +kernel
theorem dX4_combined_95 : decode cX4_combined 95 = .ok (.lreturn, 1) := by decide +kernel
theorem dX4_combined_96 : decode cX4_combined 96 = .ok (.lload_n 1, 1) := by decide +kernel
theorem dX4_combined_97 : decode cX4_combined 97 = .ok (.lload_n 3, 1) := by decide +kernel
theorem dX4_combined_98 : decode cX4_combined 98 = .ok (.lxor, 1) := by decide +kernel
theorem dX4_combined_99 : decode cX4_combined 99 = .ok (.lreturn, 1) := by decide +kernel
theorem dX4_moved_0 : decode cX4_moved 0 = .ok (.lload_n 3, 1) := by decide +kernel
theorem dX4_moved_1 : decode cX4_moved 1 = .ok (.l2i, 1) := by decide +kernel
theorem dX4_moved_2 : decode cX4_moved 2 = .ok (.iload 5, 2) := by decide +kernel
theorem dX4_moved_4 : decode cX4_moved 4 = .ok (.ifCond .eq 8, 3) := by decide +kernel
theorem dX4_moved_7 : decode cX4_moved 7 = .ok (.bipush 31, 2) := by decide +kernel
theorem dX4_moved_9 : decode cX4_moved 9 = .ok (.goto 5, 3) := by decide +kernel
theorem dX4_moved_12 : decode cX4_moved 12 = .ok (.bipush 63, 2) := by decide +kernel
theorem dX4_moved_14 : decode cX4_moved 14 = .ok (.iand, 1) := by decide +kernel
theorem dX4_moved_15 : decode cX4_moved 15 = .ok (.istore 6, 2) := by decide +kernel
theorem dX4_moved_17 : decode cX4_moved 17 = .ok (.iload_n 0, 1) := by decide +kernel
theorem dX4_moved_18 : decode cX4_moved 18 = .ok (.lookupswitch 36 #[(120, 26), (122, 31)], 26) := by decide +kernel
theorem dX4_moved_44 : decode cX4_moved 44 = .ok (.lload_n 1, 1) := by decide +kernel
theorem dX4_moved_45 : decode cX4_moved 45 = .ok (.iload 6, 2) := by decide +kernel
theorem dX4_moved_47 : decode cX4_moved 47 = .ok (.lshl, 1) := by decide +kernel
theorem dX4_moved_48 : decode cX4_moved 48 = .ok (.lreturn, 1) := by decide +kernel
theorem dX4_moved_49 : decode cX4_moved 49 = .ok (.lload_n 1, 1) := by decide +kernel
theorem dX4_moved_50 : decode cX4_moved 50 = .ok (.iload 6, 2) := by decide +kernel
theorem dX4_moved_52 : decode cX4_moved 52 = .ok (.lshr, 1) := by decide +kernel
theorem dX4_moved_53 : decode cX4_moved 53 = .ok (.lreturn, 1) := by decide +kernel
theorem dX4_moved_54 : decode cX4_moved 54 = .ok (.iload 5, 2) := by decide +kernel
theorem dX4_moved_56 : decode cX4_moved 56 = .ok (.ifCond .eq 11, 3) := by decide +kernel
theorem dX4_moved_59 : decode cX4_moved 59 = .ok (.lload_n 1, 1) := by decide +kernel
theorem dX4_moved_60 : decode cX4_moved 60 = .ok (.ldc2_w 229, 3) := by decide +kernel
theorem dX4_moved_63 : decode cX4_moved 63 = .ok (.land, 1) := by decide +kernel
theorem dX4_moved_64 : decode cX4_moved 64 = .ok (.goto 4, 3) := by decide +kernel
theorem dX4_moved_67 : decode cX4_moved 67 = .ok (.lload_n 1, 1) := by decide +kernel
theorem dX4_moved_68 : decode cX4_moved 68 = .ok (.iload 6, 2) := by decide +kernel
theorem dX4_moved_70 : decode cX4_moved 70 = .ok (.lushr, 1) := by decide +kernel
theorem dX4_moved_71 : decode cX4_moved 71 = .ok (.lreturn, 1) := by decide +kernel
theorem dX4_reckon_0 : decode cX4_reckon 0 = .ok (.iload_n 1, 1) := by decide +kernel
theorem dX4_reckon_1 : decode cX4_reckon 1 = .ok (.iconst 2, 1) := by decide +kernel
theorem dX4_reckon_2 : decode cX4_reckon 2 = .ok (.irem, 1) := by decide +kernel
theorem dX4_reckon_3 : decode cX4_reckon 3 = .ok (.ifCond .ne 7, 3) := by decide +kernel
theorem dX4_reckon_6 : decode cX4_reckon 6 = .ok (.iconst 1, 1) := by decide +kernel
theorem dX4_reckon_7 : decode cX4_reckon 7 = .ok (.goto 4, 3) := by decide +kernel
theorem dX4_reckon_10 : decode cX4_reckon 10 = .ok (.iconst 0, 1) := by decide +kernel
theorem dX4_reckon_11 : decode cX4_reckon 11 = .ok (.istore_n 2, 1) := by decide +kernel
theorem dX4_reckon_12 : decode cX4_reckon 12 = .ok (.iload_n 1, 1) := by decide +kernel
theorem dX4_reckon_13 : decode cX4_reckon 13 = .ok (.iload_n 1, 1) := by decide +kernel
theorem dX4_reckon_14 : decode cX4_reckon 14 = .ok (.iconst 2, 1) := by decide +kernel
theorem dX4_reckon_15 : decode cX4_reckon 15 = .ok (.irem, 1) := by decide +kernel
theorem dX4_reckon_16 : decode cX4_reckon 16 = .ok (.isub, 1) := by decide +kernel
theorem dX4_reckon_17 : decode cX4_reckon 17 = .ok (.istore_n 3, 1) := by decide +kernel
theorem dX4_reckon_18 : decode cX4_reckon 18 = .ok (.aload_n 0, 1) := by decide +kernel
theorem dX4_reckon_19 : decode cX4_reckon 19 = .ok (.getfield 46, 3) := by decide +kernel
theorem dX4_reckon_22 : decode cX4_reckon 22 = .ok (.iconst 0, 1) := by decide +kernel
theorem dX4_reckon_23 : decode cX4_reckon 23 = .ok (.invokevirtual 186, 3) := by decide +kernel
theorem dX4_reckon_26 : decode cX4_reckon 26 = .ok (.lstore 4, 2) := by decide +kernel
theorem dX4_reckon_28 : decode cX4_reckon 28 = .ok (.iload_n 3, 1) := by decide +kernel
theorem dX4_reckon_29 : decode cX4_reckon 29 = .ok (.bipush 116, 2) := by decide +kernel
theorem dX4_reckon_31 : decode cX4_reckon 31 = .ok (.if_icmp .ne 39, 3) := by decide +kernel
theorem dX4_reckon_34 : decode cX4_reckon 34 = .ok (.aload_n 0, 1) := by decide +kernel
theorem dX4_reckon_35 : decode cX4_reckon 35 = .ok (.getfield 46, 3) := by decide +kernel
theorem dX4_reckon_38 : decode cX4_reckon 38 = .ok (.iconst 1, 1) := by decide +kernel
theorem dX4_reckon_39 : decode cX4_reckon 39 = .ok (.invokevirtual 198, 3) := by decide +kernel
theorem dX4_reckon_42 : decode cX4_reckon 42 = .ok (.aload_n 0, 1) := by decide +kernel
theorem dX4_reckon_43 : decode cX4_reckon 43 = .ok (.getfield 46, 3) := by decide +kernel
theorem dX4_reckon_46 : decode cX4_reckon 46 = .ok (.iload_n 2, 1) := by decide +kernel
theorem dX4_reckon_47 : decode cX4_reckon 47 = .ok (.ifCond .eq 11, 3) := by decide +kernel
theorem dX4_reckon_50 : decode cX4_reckon 50 = .ok (.lload 4, 2) := by decide +kernel
theorem dX4_reckon_52 : decode cX4_reckon 52 = .ok (.lneg, 1) := by decide +kernel
theorem dX4_reckon_53 : decode cX4_reckon 53 = .ok (.l2i, 1) := by decide +kernel
theorem dX4_reckon_54 : decode cX4_reckon 54 = .ok (.i2l, 1) := by decide +kernel
theorem dX4_reckon_55 : decode cX4_reckon 55 = .ok (.goto 6, 3) := by decide +kernel
theorem dX4_reckon_58 : decode cX4_reckon 58 = .ok (.lload 4, 2) := by decide +kernel
theorem dX4_reckon_60 : decode cX4_reckon 60 = .ok (.lneg, 1) := by decide +kernel
theorem dX4_reckon_61 : decode cX4_reckon 61 = .ok (.invokevirtual 170, 3) := by decide +kernel
theorem dX4_reckon_64 : decode cX4_reckon 64 = .ok (.aload_n 0, 1) := by decide +kernel
theorem dX4_reckon_65 : decode cX4_reckon 65 = .ok (.iconst 1, 1) := by decide +kernel
theorem dX4_reckon_66 : decode cX4_reckon 66 = .ok (.invokevirtual 164, 3) := by decide +kernel
theorem dX4_reckon_69 : decode cX4_reckon 69 = .ok (.ireturn, 1) := by decide +kernel
theorem dX4_reckon_70 : decode cX4_reckon 70 = .ok (.iload_n 3, 1) := by decide +kernel
theorem dX4_reckon_71 : decode cX4_reckon 71 = .ok (.bipush 108, 2) := by decide +kernel
theorem dX4_reckon_73 : decode cX4_reckon 73 = .ok (.if_icmp .eq 9, 3) := by decide +kernel
theorem dX4_reckon_76 : decode cX4_reckon 76 = .ok (.iload_n 3, 1) := by decide +kernel
theorem dX4_reckon_77 : decode cX4_reckon 77 = .ok (.bipush 112, 2) := by decide +kernel
theorem dX4_reckon_79 : decode cX4_reckon 79 = .ok (.if_icmp .ne 12, 3) := by decide +kernel
theorem dX4_reckon_82 : decode cX4_reckon 82 = .ok (.lload 4, 2) := by decide +kernel
theorem dX4_reckon_84 : decode cX4_reckon 84 = .ok (.lconst 0, 1) := by decide +kernel
theorem dX4_reckon_85 : decode cX4_reckon 85 = .ok (.lcmp, 1) := by decide +kernel
theorem dX4_reckon_86 : decode cX4_reckon 86 = .ok (.ifCond .ne 5, 3) := by decide +kernel
theorem dX4_reckon_89 : decode cX4_reckon 89 = .ok (.iconst 1, 1) := by decide +kernel
theorem dX4_reckon_90 : decode cX4_reckon 90 = .ok (.ireturn, 1) := by decide +kernel
theorem dX4_reckon_91 : decode cX4_reckon 91 = .ok (.aload_n 0, 1) := by decide +kernel
theorem dX4_reckon_92 : decode cX4_reckon 92 = .ok (.getfield 46, 3) := by decide +kernel
theorem dX4_reckon_95 : decode cX4_reckon 95 = .ok (.iconst 1, 1) := by decide +kernel
theorem dX4_reckon_96 : decode cX4_reckon 96 = .ok (.invokevirtual 186, 3) := by decide +kernel
theorem dX4_reckon_99 : decode cX4_reckon 99 = .ok (.lstore 6, 2) := by decide +kernel
theorem dX4_reckon_101 : decode cX4_reckon 101 = .ok (.iload_n 3, 1) := by decide +kernel
theorem dX4_reckon_102 : decode cX4_reckon 102 = .ok (.bipush 120, 2) := by decide +kernel
theorem dX4_reckon_104 : decode cX4_reckon 104 = .ok (.if_icmp .lt 13, 3) := by decide +kernel
theorem dX4_reckon_107 : decode cX4_reckon 107 = .ok (.iload_n 3, 1) := by decide +kernel
theorem dX4_reckon_108 : decode cX4_reckon 108 = .ok (.bipush 124, 2) := by decide +kernel
theorem dX4_reckon_110 : decode cX4_reckon 110 = .ok (.if_icmp .gt 7, 3) := by decide +kernel
theorem dX4_reckon_113 : decode cX4_reckon 113 = .ok (.iconst 1, 1) := by decide +kernel
theorem dX4_reckon_114 : decode cX4_reckon 114 = .ok (.goto 4, 3) := by decide +kernel
theorem dX4_reckon_117 : decode cX4_reckon 117 = .ok (.iconst 0, 1) := by decide +kernel
theorem dX4_reckon_118 : decode cX4_reckon 118 = .ok (.istore 8, 2) := by decide +kernel
theorem dX4_reckon_120 : decode cX4_reckon 120 = .ok (.iload 8, 2) := by decide +kernel
theorem dX4_reckon_122 : decode cX4_reckon 122 = .ok (.ifCond .eq 15, 3) := by decide +kernel
theorem dX4_reckon_125 : decode cX4_reckon 125 = .ok (.iload_n 3, 1) := by decide +kernel
theorem dX4_reckon_126 : decode cX4_reckon 126 = .ok (.lload 6, 2) := by decide +kernel
theorem dX4_reckon_128 : decode cX4_reckon 128 = .ok (.lload 4, 2) := by decide +kernel
theorem dX4_reckon_130 : decode cX4_reckon 130 = .ok (.iload_n 2, 1) := by decide +kernel
theorem dX4_reckon_131 : decode cX4_reckon 131 = .ok (.invokestatic 221, 3) := by decide +kernel
theorem dX4_reckon_134 : decode cX4_reckon 134 = .ok (.goto 11, 3) := by decide +kernel
theorem dX4_reckon_137 : decode cX4_reckon 137 = .ok (.iload_n 3, 1) := by decide +kernel
theorem dX4_reckon_138 : decode cX4_reckon 138 = .ok (.lload 6, 2) := by decide +kernel
theorem dX4_reckon_140 : decode cX4_reckon 140 = .ok (.lload 4, 2) := by decide +kernel
theorem dX4_reckon_142 : decode cX4_reckon 142 = .ok (.invokestatic 225, 3) := by decide +kernel
theorem dX4_reckon_145 : decode cX4_reckon 145 = .ok (.lstore 9, 2) := by decide +kernel
theorem dX4_reckon_147 : decode cX4_reckon 147 = .ok (.aload_n 0, 1) := by decide +kernel
theorem dX4_reckon_148 : decode cX4_reckon 148 = .ok (.getfield 46, 3) := by decide +kernel
theorem dX4_reckon_151 : decode cX4_reckon 151 = .ok (.iconst 2, 1) := by decide +kernel
theorem dX4_reckon_152 : decode cX4_reckon 152 = .ok (.invokevirtual 198, 3) := by decide +kernel
theorem dX4_reckon_155 : decode cX4_reckon 155 = .ok (.aload_n 0, 1) := by decide +kernel
theorem dX4_reckon_156 : decode cX4_reckon 156 = .ok (.getfield 46, 3) := by decide +kernel
theorem dX4_reckon_159 : decode cX4_reckon 159 = .ok (.iload_n 2, 1) := by decide +kernel
theorem dX4_reckon_160 : decode cX4_reckon 160 = .ok (.ifCond .eq 10, 3) := by decide +kernel
theorem dX4_reckon_163 : decode cX4_reckon 163 = .ok (.lload 9, 2) := by decide +kernel
theorem dX4_reckon_165 : decode cX4_reckon 165 = .ok (.l2i, 1) := by decide +kernel
theorem dX4_reckon_166 : decode cX4_reckon 166 = .ok (.i2l, 1) := by decide +kernel
theorem dX4_reckon_167 : decode cX4_reckon 167 = .ok (.goto 5, 3) := by decide +kernel
theorem dX4_reckon_170 : decode cX4_reckon 170 = .ok (.lload 9, 2) := by decide +kernel
theorem dX4_reckon_172 : decode cX4_reckon 172 = .ok (.invokevirtual 170, 3) := by decide +kernel
theorem dX4_reckon_175 : decode cX4_reckon 175 = .ok (.aload_n 0, 1) := by decide +kernel
theorem dX4_reckon_176 : decode cX4_reckon 176 = .ok (.iconst 1, 1) := by decide +kernel
theorem dX4_reckon_177 : decode cX4_reckon 177 = .ok (.invokevirtual 164, 3) := by decide +kernel
theorem dX4_reckon_180 : decode cX4_reckon 180 = .ok (.ireturn, 1) := by decide +kernel
theorem dX1_duplicate_0 : decode cX1_duplicate 0 = .ok (.aload_n 0, 1) := by decide +kernel
theorem dX1_duplicate_1 : decode cX1_duplicate 1 = .ok (.aload_n 0, 1) := by decide +kernel
theorem dX1_duplicate_2 : decode cX1_duplicate 2 = .ok (.aload_n 0, 1) := by decide +kernel
theorem dX1_duplicate_3 : decode cX1_duplicate 3 = .ok (.getfield 19, 3) := by decide +kernel
theorem dX1_duplicate_6 : decode cX1_duplicate 6 = .ok (.iconst 1, 1) := by decide +kernel
theorem dX1_duplicate_7 : decode cX1_duplicate 7 = .ok (.isub, 1) := by decide +kernel
theorem dX1_duplicate_8 : decode cX1_duplicate 8 = .ok (.aload_n 0, 1) := by decide +kernel
theorem dX1_duplicate_9 : decode cX1_duplicate 9 = .ok (.getfield 19, 3) := by decide +kernel
theorem dX1_duplicate_12 : decode cX1_duplicate 12 = .ok (.invokevirtual 49, 3) := by decide +kernel
theorem dX1_duplicate_15 : decode cX1_duplicate 15 = .ok (.aload_n 0, 1) := by decide +kernel
theorem dX1_duplicate_16 : decode cX1_duplicate 16 = .ok (.dup, 1) := by decide +kernel
theorem dX1_duplicate_17 : decode cX1_duplicate 17 = .ok (.getfield 19, 3) := by decide +kernel
theorem dX1_duplicate_20 : decode cX1_duplicate 20 = .ok (.iconst 1, 1) := by decide +kernel
theorem dX1_duplicate_21 : decode cX1_duplicate 21 = .ok (.iadd, 1) := by decide +kernel
theorem dX1_duplicate_22 : decode cX1_duplicate 22 = .ok (.putfield 19, 3) := by decide +kernel
theorem dX1_duplicate_25 : decode cX1_duplicate 25 = .ok (.return_, 1) := by decide +kernel
theorem dX1_exchange_0 : decode cX1_exchange 0 = .ok (.aload_n 0, 1) := by decide +kernel
theorem dX1_exchange_1 : decode cX1_exchange 1 = .ok (.getfield 11, 3) := by decide +kernel
theorem dX1_exchange_4 : decode cX1_exchange 4 = .ok (.aload_n 0, 1) := by decide +kernel
theorem dX1_exchange_5 : decode cX1_exchange 5 = .ok (.getfield 19, 3) := by decide +kernel
theorem dX1_exchange_8 : decode cX1_exchange 8 = .ok (.iconst 1, 1) := by decide +kernel
theorem dX1_exchange_9 : decode cX1_exchange 9 = .ok (.isub, 1) := by decide +kernel
theorem dX1_exchange_10 : decode cX1_exchange 10 = .ok (.laload, 1) := by decide +kernel
theorem dX1_exchange_11 : decode cX1_exchange 11 = .ok (.lstore_n 1, 1) := by decide +kernel
theorem dX1_exchange_12 : decode cX1_exchange 12 = .ok (.aload_n 0, 1) := by decide +kernel
theorem dX1_exchange_13 : decode cX1_exchange 13 = .ok (.getfield 15, 3) := by decide +kernel
theorem dX1_exchange_16 : decode cX1_exchange 16 = .ok (.aload_n 0, 1) := by decide +kernel
theorem dX1_exchange_17 : decode cX1_exchange 17 = .ok (.getfield 19, 3) := by decide +kernel
theorem dX1_exchange_20 : decode cX1_exchange 20 = .ok (.iconst 1, 1) := by decide +kernel
theorem dX1_exchange_21 : decode cX1_exchange 21 = .ok (.isub, 1) := by decide +kernel
theorem dX1_exchange_22 : decode cX1_exchange 22 = .ok (.iaload, 1) := by decide +kernel
theorem dX1_exchange_23 : decode cX1_exchange 23 = .ok (.istore_n 3, 1) := by decide +kernel
theorem dX1_exchange_24 : decode cX1_exchange 24 = .ok (.aload_n 0, 1) := by decide +kernel
theorem dX1_exchange_25 : decode cX1_exchange 25 = .ok (.aload_n 0, 1) := by decide +kernel
theorem dX1_exchange_26 : decode cX1_exchange 26 = .ok (.aload_n 0, 1) := by decide +kernel
theorem dX1_exchange_27 : decode cX1_exchange 27 = .ok (.getfield 19, 3) := by decide +kernel
theorem dX1_exchange_30 : decode cX1_exchange 30 = .ok (.iconst 2, 1) := by decide +kernel
theorem dX1_exchange_31 : decode cX1_exchange 31 = .ok (.isub, 1) := by decide +kernel
theorem dX1_exchange_32 : decode cX1_exchange 32 = .ok (.aload_n 0, 1) := by decide +kernel
theorem dX1_exchange_33 : decode cX1_exchange 33 = .ok (.getfield 19, 3) := by decide +kernel
theorem dX1_exchange_36 : decode cX1_exchange 36 = .ok (.iconst 1, 1) := by decide +kernel
theorem dX1_exchange_37 : decode cX1_exchange 37 = .ok (.isub, 1) := by decide +kernel
theorem dX1_exchange_38 : decode cX1_exchange 38 = .ok (.invokevirtual 49, 3) := by decide +kernel
theorem dX1_exchange_41 : decode cX1_exchange 41 = .ok (.aload_n 0, 1) := by decide +kernel
theorem dX1_exchange_42 : decode cX1_exchange 42 = .ok (.getfield 11, 3) := by decide +kernel
theorem dX1_exchange_45 : decode cX1_exchange 45 = .ok (.aload_n 0, 1) := by decide +kernel
theorem dX1_exchange_46 : decode cX1_exchange 46 = .ok (.getfield 19, 3) := by decide +kernel
theorem dX1_exchange_49 : decode cX1_exchange 49 = .ok (.iconst 2, 1) := by decide +kernel
theorem dX1_exchange_50 : decode cX1_exchange 50 = .ok (.isub, 1) := by decide +kernel
theorem dX1_exchange_51 : decode cX1_exchange 51 = .ok (.lload_n 1, 1) := by decide +kernel
theorem dX1_exchange_52 : decode cX1_exchange 52 = .ok (.lastore, 1) := by decide +kernel
theorem dX1_exchange_53 : decode cX1_exchange 53 = .ok (.aload_n 0, 1) := by decide +kernel
theorem dX1_exchange_54 : decode cX1_exchange 54 = .ok (.getfield 15, 3) := by decide +kernel
theorem dX1_exchange_57 : decode cX1_exchange 57 = .ok (.aload_n 0, 1) := by decide +kernel
theorem dX1_exchange_58 : decode cX1_exchange 58 = .ok (.getfield 19, 3) := by decide +kernel
theorem dX1_exchange_61 : decode cX1_exchange 61 = .ok (.iconst 2, 1) := by decide +kernel
theorem dX1_exchange_62 : decode cX1_exchange 62 = .ok (.isub, 1) := by decide +kernel
theorem dX1_exchange_63 : decode cX1_exchange 63 = .ok (.iload_n 3, 1) := by decide +kernel
theorem dX1_exchange_64 : decode cX1_exchange 64 = .ok (.iastore, 1) := by decide +kernel
theorem dX1_exchange_65 : decode cX1_exchange 65 = .ok (.return_, 1) := by decide +kernel
theorem dX4_shuffle_0 : decode cX4_shuffle 0 = .ok (.iload_n 1, 1) := by decide +kernel
theorem dX4_shuffle_1 : decode cX4_shuffle 1 = .ok (.lookupswitch 47 #[(89, 27), (95, 37)], 27) := by decide +kernel
theorem dX4_shuffle_28 : decode cX4_shuffle 28 = .ok (.aload_n 0, 1) := by decide +kernel
theorem dX4_shuffle_29 : decode cX4_shuffle 29 = .ok (.getfield 46, 3) := by decide +kernel
theorem dX4_shuffle_32 : decode cX4_shuffle 32 = .ok (.invokevirtual 215, 3) := by decide +kernel
theorem dX4_shuffle_35 : decode cX4_shuffle 35 = .ok (.goto 21, 3) := by decide +kernel
theorem dX4_shuffle_38 : decode cX4_shuffle 38 = .ok (.aload_n 0, 1) := by decide +kernel
theorem dX4_shuffle_39 : decode cX4_shuffle 39 = .ok (.getfield 46, 3) := by decide +kernel
theorem dX4_shuffle_42 : decode cX4_shuffle 42 = .ok (.invokevirtual 218, 3) := by decide +kernel
theorem dX4_shuffle_45 : decode cX4_shuffle 45 = .ok (.goto 11, 3) := by decide +kernel
theorem dX4_shuffle_48 : decode cX4_shuffle 48 = .ok (.aload_n 0, 1) := by decide +kernel
theorem dX4_shuffle_49 : decode cX4_shuffle 49 = .ok (.getfield 46, 3) := by decide +kernel
theorem dX4_shuffle_52 : decode cX4_shuffle 52 = .ok (.iconst 1, 1) := by decide +kernel
theorem dX4_shuffle_53 : decode cX4_shuffle 53 = .ok (.invokevirtual 198, 3) := by decide +kernel
theorem dX4_shuffle_56 : decode cX4_shuffle 56 = .ok (.aload_n 0, 1) := by decide +kernel
theorem dX4_shuffle_57 : decode cX4_shuffle 57 = .ok (.iconst 1, 1) := by decide +kernel
theorem dX4_shuffle_58 : decode cX4_shuffle 58 = .ok (.invokevirtual 164, 3) := by decide +kernel
theorem dX4_shuffle_61 : decode cX4_shuffle 61 = .ok (.ireturn, 1) := by decide +kernel
theorem dX2_setBits_0 : decode cX2_setBits 0 = .ok (.aload_n 0, 1) := by decide +kernel
theorem dX2_setBits_1 : decode cX2_setBits 1 = .ok (.getfield 15, 3) := by decide +kernel
theorem dX2_setBits_4 : decode cX2_setBits 4 = .ok (.iload_n 1, 1) := by decide +kernel
theorem dX2_setBits_5 : decode cX2_setBits 5 = .ok (.aload_n 0, 1) := by decide +kernel
theorem dX2_setBits_6 : decode cX2_setBits 6 = .ok (.getfield 15, 3) := by decide +kernel
theorem dX2_setBits_9 : decode cX2_setBits 9 = .ok (.iload_n 1, 1) := by decide +kernel
theorem dX2_setBits_10 : decode cX2_setBits 10 = .ok (.iaload, 1) := by decide +kernel
theorem dX2_setBits_11 : decode cX2_setBits 11 = .ok (.iload_n 3, 1) := by decide +kernel
theorem dX2_setBits_12 : decode cX2_setBits 12 = .ok (.iload_n 2, 1) := by decide +kernel
theorem dX2_setBits_13 : decode cX2_setBits 13 = .ok (.ishl, 1) := by decide +kernel
theorem dX2_setBits_14 : decode cX2_setBits 14 = .ok (.iconst (-1), 1) := by decide +kernel
theorem dX2_setBits_15 : decode cX2_setBits 15 = .ok (.ixor, 1) := by decide +kernel
theorem dX2_setBits_16 : decode cX2_setBits 16 = .ok (.iand, 1) := by decide +kernel
theorem dX2_setBits_17 : decode cX2_setBits 17 = .ok (.iload 4, 2) := by decide +kernel
theorem dX2_setBits_19 : decode cX2_setBits 19 = .ok (.iload_n 3, 1) := by decide +kernel
theorem dX2_setBits_20 : decode cX2_setBits 20 = .ok (.iand, 1) := by decide +kernel
theorem dX2_setBits_21 : decode cX2_setBits 21 = .ok (.iload_n 2, 1) := by decide +kernel
theorem dX2_setBits_22 : decode cX2_setBits 22 = .ok (.ishl, 1) := by decide +kernel
theorem dX2_setBits_23 : decode cX2_setBits 23 = .ok (.ior, 1) := by decide +kernel
theorem dX2_setBits_24 : decode cX2_setBits 24 = .ok (.iastore, 1) := by decide +kernel
theorem dX2_setBits_25 : decode cX2_setBits 25 = .ok (.return_, 1) := by decide +kernel
theorem dX2_setElement_0 : decode cX2_setElement 0 = .ok (.aload_n 0, 1) := by decide +kernel
theorem dX2_setElement_1 : decode cX2_setElement 1 = .ok (.getfield 19, 3) := by decide +kernel
theorem dX2_setElement_4 : decode cX2_setElement 4 = .ok (.iload_n 1, 1) := by decide +kernel
theorem dX2_setElement_5 : decode cX2_setElement 5 = .ok (.iaload, 1) := by decide +kernel
theorem dX2_setElement_6 : decode cX2_setElement 6 = .ok (.iconst 2, 1) := by decide +kernel
theorem dX2_setElement_7 : decode cX2_setElement 7 = .ok (.iadd, 1) := by decide +kernel
theorem dX2_setElement_8 : decode cX2_setElement 8 = .ok (.istore 5, 2) := by decide +kernel
theorem dX2_setElement_10 : decode cX2_setElement 10 = .ok (.aload_n 0, 1) := by decide +kernel
theorem dX2_setElement_11 : decode cX2_setElement 11 = .ok (.iload_n 1, 1) := by decide +kernel
theorem dX2_setElement_12 : decode cX2_setElement 12 = .ok (.invokevirtual 62, 3) := by decide +kernel
theorem dX2_setElement_15 : decode cX2_setElement 15 = .ok (.ineg, 1) := by decide +kernel
theorem dX2_setElement_16 : decode cX2_setElement 16 = .ok (.tableswitch 155 4 11 #[48, 98, 155, 155, 74, 98, 155, 121], 48) := by decide +kernel
theorem dX2_setElement_64 : decode cX2_setElement 64 = .ok (.aload_n 0, 1) := by decide +kernel
theorem dX2_setElement_65 : decode cX2_setElement 65 = .ok (.iload 5, 2) := by decide +kernel
theorem dX2_setElement_67 : decode cX2_setElement 67 = .ok (.iload_n 2, 1) := by decide +kernel
theorem dX2_setElement_68 : decode cX2_setElement 68 = .ok (.iconst 4, 1) := by decide +kernel
theorem dX2_setElement_69 : decode cX2_setElement 69 = .ok (.idiv, 1) := by decide +kernel
theorem dX2_setElement_70 : decode cX2_setElement 70 = .ok (.iadd, 1) := by decide +kernel
theorem dX2_setElement_71 : decode cX2_setElement 71 = .ok (.iload_n 2, 1) := by decide +kernel
theorem dX2_setElement_72 : decode cX2_setElement 72 = .ok (.iconst 4, 1) := by decide +kernel
theorem dX2_setElement_73 : decode cX2_setElement 73 = .ok (.irem, 1) := by decide +kernel
theorem dX2_setElement_74 : decode cX2_setElement 74 = .ok (.bipush 8, 2) := by decide +kernel
theorem dX2_setElement_76 : decode cX2_setElement 76 = .ok (.imul, 1) := by decide +kernel
theorem dX2_setElement_77 : decode cX2_setElement 77 = .ok (.sipush 255, 3) := by decide +kernel
theorem dX2_setElement_80 : decode cX2_setElement 80 = .ok (.lload_n 3, 1) := by decide +kernel
theorem dX2_setElement_81 : decode cX2_setElement 81 = .ok (.l2i, 1) := by decide +kernel
theorem dX2_setElement_82 : decode cX2_setElement 82 = .ok (.iconst 1, 1) := by decide +kernel
theorem dX2_setElement_83 : decode cX2_setElement 83 = .ok (.iand, 1) := by decide +kernel
theorem dX2_setElement_84 : decode cX2_setElement 84 = .ok (.invokevirtual 93, 3) := by decide +kernel
theorem dX2_setElement_87 : decode cX2_setElement 87 = .ok (.goto 95, 3) := by decide +kernel
theorem dX2_setElement_90 : decode cX2_setElement 90 = .ok (.aload_n 0, 1) := by decide +kernel
theorem dX2_setElement_91 : decode cX2_setElement 91 = .ok (.iload 5, 2) := by decide +kernel
theorem dX2_setElement_93 : decode cX2_setElement 93 = .ok (.iload_n 2, 1) := by decide +kernel
theorem dX2_setElement_94 : decode cX2_setElement 94 = .ok (.iconst 4, 1) := by decide +kernel
theorem dX2_setElement_95 : decode cX2_setElement 95 = .ok (.idiv, 1) := by decide +kernel
theorem dX2_setElement_96 : decode cX2_setElement 96 = .ok (.iadd, 1) := by decide +kernel
theorem dX2_setElement_97 : decode cX2_setElement 97 = .ok (.iload_n 2, 1) := by decide +kernel
theorem dX2_setElement_98 : decode cX2_setElement 98 = .ok (.iconst 4, 1) := by decide +kernel
theorem dX2_setElement_99 : decode cX2_setElement 99 = .ok (.irem, 1) := by decide +kernel
theorem dX2_setElement_100 : decode cX2_setElement 100 = .ok (.bipush 8, 2) := by decide +kernel
theorem dX2_setElement_102 : decode cX2_setElement 102 = .ok (.imul, 1) := by decide +kernel
theorem dX2_setElement_103 : decode cX2_setElement 103 = .ok (.sipush 255, 3) := by decide +kernel
theorem dX2_setElement_106 : decode cX2_setElement 106 = .ok (.lload_n 3, 1) := by decide +kernel
theorem dX2_setElement_107 : decode cX2_setElement 107 = .ok (.l2i, 1) := by decide +kernel
theorem dX2_setElement_108 : decode cX2_setElement 108 = .ok (.invokevirtual 93, 3) := by decide +kernel
theorem dX2_setElement_111 : decode cX2_setElement 111 = .ok (.goto 71, 3) := by decide +kernel
theorem dX2_setElement_114 : decode cX2_setElement 114 = .ok (.aload_n 0, 1) := by decide +kernel
theorem dX2_setElement_115 : decode cX2_setElement 115 = .ok (.iload 5, 2) := by decide +kernel
theorem dX2_setElement_117 : decode cX2_setElement 117 = .ok (.iload_n 2, 1) := by decide +kernel
theorem dX2_setElement_118 : decode cX2_setElement 118 = .ok (.iconst 2, 1) := by decide +kernel
theorem dX2_setElement_119 : decode cX2_setElement 119 = .ok (.idiv, 1) := by decide +kernel
theorem dX2_setElement_120 : decode cX2_setElement 120 = .ok (.iadd, 1) := by decide +kernel
theorem dX2_setElement_121 : decode cX2_setElement 121 = .ok (.iload_n 2, 1) := by decide +kernel
theorem dX2_setElement_122 : decode cX2_setElement 122 = .ok (.iconst 2, 1) := by decide +kernel
theorem dX2_setElement_123 : decode cX2_setElement 123 = .ok (.irem, 1) := by decide +kernel
theorem dX2_setElement_124 : decode cX2_setElement 124 = .ok (.bipush 16, 2) := by decide +kernel
theorem dX2_setElement_126 : decode cX2_setElement 126 = .ok (.imul, 1) := by decide +kernel
theorem dX2_setElement_127 : decode cX2_setElement 127 = .ok (.ldc 97, 2) := by decide +kernel
theorem dX2_setElement_129 : decode cX2_setElement 129 = .ok (.lload_n 3, 1) := by decide +kernel
theorem dX2_setElement_130 : decode cX2_setElement 130 = .ok (.l2i, 1) := by decide +kernel
theorem dX2_setElement_131 : decode cX2_setElement 131 = .ok (.invokevirtual 93, 3) := by decide +kernel
theorem dX2_setElement_134 : decode cX2_setElement 134 = .ok (.goto 48, 3) := by decide +kernel
theorem dX2_setElement_137 : decode cX2_setElement 137 = .ok (.aload_n 0, 1) := by decide +kernel
theorem dX2_setElement_138 : decode cX2_setElement 138 = .ok (.getfield 15, 3) := by decide +kernel
theorem dX2_setElement_141 : decode cX2_setElement 141 = .ok (.iload 5, 2) := by decide +kernel
theorem dX2_setElement_143 : decode cX2_setElement 143 = .ok (.iconst 2, 1) := by decide +kernel
theorem dX2_setElement_144 : decode cX2_setElement 144 = .ok (.iload_n 2, 1) := by decide +kernel
theorem dX2_setElement_145 : decode cX2_setElement 145 = .ok (.imul, 1) := by decide +kernel
theorem dX2_setElement_146 : decode cX2_setElement 146 = .ok (.iadd, 1) := by decide +kernel
theorem dX2_setElement_147 : decode cX2_setElement 147 = .ok (.lload_n 3, 1) := by decide +kernel
theorem dX2_setElement_148 : decode cX2_setElement 148 = .ok (.bipush 32, 2) := by decide +kernel
theorem dX2_setElement_150 : decode cX2_setElement 150 = .ok (.lshr, 1) := by decide +kernel
theorem dX2_setElement_151 : decode cX2_setElement 151 = .ok (.l2i, 1) := by decide +kernel
theorem dX2_setElement_152 : decode cX2_setElement 152 = .ok (.iastore, 1) := by decide +kernel
theorem dX2_setElement_153 : decode cX2_setElement 153 = .ok (.aload_n 0, 1) := by decide +kernel
theorem dX2_setElement_154 : decode cX2_setElement 154 = .ok (.getfield 15, 3) := by decide +kernel
theorem dX2_setElement_157 : decode cX2_setElement 157 = .ok (.iload 5, 2) := by decide +kernel
theorem dX2_setElement_159 : decode cX2_setElement 159 = .ok (.iconst 2, 1) := by decide +kernel
theorem dX2_setElement_160 : decode cX2_setElement 160 = .ok (.iload_n 2, 1) := by decide +kernel
theorem dX2_setElement_161 : decode cX2_setElement 161 = .ok (.imul, 1) := by decide +kernel
theorem dX2_setElement_162 : decode cX2_setElement 162 = .ok (.iadd, 1) := by decide +kernel
theorem dX2_setElement_163 : decode cX2_setElement 163 = .ok (.iconst 1, 1) := by decide +kernel
theorem dX2_setElement_164 : decode cX2_setElement 164 = .ok (.iadd, 1) := by decide +kernel
theorem dX2_setElement_165 : decode cX2_setElement 165 = .ok (.lload_n 3, 1) := by decide +kernel
theorem dX2_setElement_166 : decode cX2_setElement 166 = .ok (.l2i, 1) := by decide +kernel
theorem dX2_setElement_167 : decode cX2_setElement 167 = .ok (.iastore, 1) := by decide +kernel
theorem dX2_setElement_168 : decode cX2_setElement 168 = .ok (.goto 14, 3) := by decide +kernel
theorem dX2_setElement_171 : decode cX2_setElement 171 = .ok (.aload_n 0, 1) := by decide +kernel
theorem dX2_setElement_172 : decode cX2_setElement 172 = .ok (.getfield 15, 3) := by decide +kernel
theorem dX2_setElement_175 : decode cX2_setElement 175 = .ok (.iload 5, 2) := by decide +kernel
theorem dX2_setElement_177 : decode cX2_setElement 177 = .ok (.iload_n 2, 1) := by decide +kernel
theorem dX2_setElement_178 : decode cX2_setElement 178 = .ok (.iadd, 1) := by decide +kernel
theorem dX2_setElement_179 : decode cX2_setElement 179 = .ok (.lload_n 3, 1) := by decide +kernel
theorem dX2_setElement_180 : decode cX2_setElement 180 = .ok (.l2i, 1) := by decide +kernel
theorem dX2_setElement_181 : decode cX2_setElement 181 = .ok (.iastore, 1) := by decide +kernel
theorem dX2_setElement_182 : decode cX2_setElement 182 = .ok (.return_, 1) := by decide +kernel
theorem dX4_storeElement_0 : decode cX4_storeElement 0 = .ok (.aload_n 0, 1) := by decide +kernel
theorem dX4_storeElement_1 : decode cX4_storeElement 1 = .ok (.getfield 46, 3) := by decide +kernel
theorem dX4_storeElement_4 : decode cX4_storeElement 4 = .ok (.iconst 2, 1) := by decide +kernel
theorem dX4_storeElement_5 : decode cX4_storeElement 5 = .ok (.invokevirtual 183, 3) := by decide +kernel
theorem dX4_storeElement_8 : decode cX4_storeElement 8 = .ok (.istore_n 2, 1) := by decide +kernel
theorem dX4_storeElement_9 : decode cX4_storeElement 9 = .ok (.aload_n 0, 1) := by decide +kernel
theorem dX4_storeElement_10 : decode cX4_storeElement 10 = .ok (.getfield 46, 3) := by decide +kernel
theorem dX4_storeElement_13 : decode cX4_storeElement 13 = .ok (.iconst 1, 1) := by decide +kernel
theorem dX4_storeElement_14 : decode cX4_storeElement 14 = .ok (.invokevirtual 186, 3) := by decide +kernel
theorem dX4_storeElement_17 : decode cX4_storeElement 17 = .ok (.l2i, 1) := by decide +kernel
theorem dX4_storeElement_18 : decode cX4_storeElement 18 = .ok (.istore_n 3, 1) := by decide +kernel
theorem dX4_storeElement_19 : decode cX4_storeElement 19 = .ok (.aload_n 0, 1) := by decide +kernel
theorem dX4_storeElement_20 : decode cX4_storeElement 20 = .ok (.iload_n 1, 1) := by decide +kernel
theorem dX4_storeElement_21 : decode cX4_storeElement 21 = .ok (.bipush 79, 2) := by decide +kernel
theorem dX4_storeElement_23 : decode cX4_storeElement 23 = .ok (.isub, 1) := by decide +kernel
theorem dX4_storeElement_24 : decode cX4_storeElement 24 = .ok (.iload_n 2, 1) := by decide +kernel
theorem dX4_storeElement_25 : decode cX4_storeElement 25 = .ok (.iload_n 3, 1) := by decide +kernel
theorem dX4_storeElement_26 : decode cX4_storeElement 26 = .ok (.invokevirtual 190, 3) := by decide +kernel
theorem dX4_storeElement_29 : decode cX4_storeElement 29 = .ok (.istore 4, 2) := by decide +kernel
theorem dX4_storeElement_31 : decode cX4_storeElement 31 = .ok (.iload 4, 2) := by decide +kernel
theorem dX4_storeElement_33 : decode cX4_storeElement 33 = .ok (.ifCond .eq 6, 3) := by decide +kernel
theorem dX4_storeElement_36 : decode cX4_storeElement 36 = .ok (.iload 4, 2) := by decide +kernel
theorem dX4_storeElement_38 : decode cX4_storeElement 38 = .ok (.ireturn, 1) := by decide +kernel
theorem dX4_storeElement_39 : decode cX4_storeElement 39 = .ok (.aload_n 0, 1) := by decide +kernel
theorem dX4_storeElement_40 : decode cX4_storeElement 40 = .ok (.getfield 28, 3) := by decide +kernel
theorem dX4_storeElement_43 : decode cX4_storeElement 43 = .ok (.iload_n 2, 1) := by decide +kernel
theorem dX4_storeElement_44 : decode cX4_storeElement 44 = .ok (.iload_n 3, 1) := by decide +kernel
theorem dX4_storeElement_45 : decode cX4_storeElement 45 = .ok (.iload_n 1, 1) := by decide +kernel
theorem dX4_storeElement_46 : decode cX4_storeElement 46 = .ok (.bipush 83, 2) := by decide +kernel
theorem dX4_storeElement_48 : decode cX4_storeElement 48 = .ok (.if_icmp .ne 15, 3) := by decide +kernel
theorem dX4_storeElement_51 : decode cX4_storeElement 51 = .ok (.aload_n 0, 1) := by decide +kernel
theorem dX4_storeElement_52 : decode cX4_storeElement 52 = .ok (.getfield 46, 3) := by decide +kernel
theorem dX4_storeElement_55 : decode cX4_storeElement 55 = .ok (.iconst 0, 1) := by decide +kernel
theorem dX4_storeElement_56 : decode cX4_storeElement 56 = .ok (.invokevirtual 183, 3) := by decide +kernel
theorem dX4_storeElement_59 : decode cX4_storeElement 59 = .ok (.i2l, 1) := by decide +kernel
theorem dX4_storeElement_60 : decode cX4_storeElement 60 = .ok (.goto 11, 3) := by decide +kernel
theorem dX4_storeElement_63 : decode cX4_storeElement 63 = .ok (.aload_n 0, 1) := by decide +kernel
theorem dX4_storeElement_64 : decode cX4_storeElement 64 = .ok (.getfield 46, 3) := by decide +kernel
theorem dX4_storeElement_67 : decode cX4_storeElement 67 = .ok (.iconst 0, 1) := by decide +kernel
theorem dX4_storeElement_68 : decode cX4_storeElement 68 = .ok (.invokevirtual 186, 3) := by decide +kernel
theorem dX4_storeElement_71 : decode cX4_storeElement 71 = .ok (.invokevirtual 201, 3) := by decide +kernel
theorem dX4_storeElement_74 : decode cX4_storeElement 74 = .ok (.aload_n 0, 1) := by decide +kernel
theorem dX4_storeElement_75 : decode cX4_storeElement 75 = .ok (.getfield 46, 3) := by decide +kernel
theorem dX4_storeElement_78 : decode cX4_storeElement 78 = .ok (.iconst 3, 1) := by decide +kernel
theorem dX4_storeElement_79 : decode cX4_storeElement 79 = .ok (.invokevirtual 198, 3) := by decide +kernel
theorem dX4_storeElement_82 : decode cX4_storeElement 82 = .ok (.aload_n 0, 1) := by decide +kernel
theorem dX4_storeElement_83 : decode cX4_storeElement 83 = .ok (.iconst 1, 1) := by decide +kernel
theorem dX4_storeElement_84 : decode cX4_storeElement 84 = .ok (.invokevirtual 164, 3) := by decide +kernel
theorem dX4_storeElement_87 : decode cX4_storeElement 87 = .ok (.ireturn, 1) := by decide +kernel
theorem dX1_popLocal_0 : decode cX1_popLocal 0 = .ok (.aload_n 0, 1) := by decide +kernel
theorem dX1_popLocal_1 : decode cX1_popLocal 1 = .ok (.dup, 1) := by decide +kernel
theorem dX1_popLocal_2 : decode cX1_popLocal 2 = .ok (.getfield 19, 3) := by decide +kernel
theorem dX1_popLocal_5 : decode cX1_popLocal 5 = .ok (.iconst 1, 1) := by decide +kernel
theorem dX1_popLocal_6 : decode cX1_popLocal 6 = .ok (.isub, 1) := by decide +kernel
theorem dX1_popLocal_7 : decode cX1_popLocal 7 = .ok (.putfield 19, 3) := by decide +kernel
theorem dX1_popLocal_10 : decode cX1_popLocal 10 = .ok (.aload_n 0, 1) := by decide +kernel
theorem dX1_popLocal_11 : decode cX1_popLocal 11 = .ok (.aload_n 0, 1) := by decide +kernel
theorem dX1_popLocal_12 : decode cX1_popLocal 12 = .ok (.aload_n 0, 1) := by decide +kernel
theorem dX1_popLocal_13 : decode cX1_popLocal 13 = .ok (.getfield 19, 3) := by decide +kernel
theorem dX1_popLocal_16 : decode cX1_popLocal 16 = .ok (.iload_n 1, 1) := by decide +kernel
theorem dX1_popLocal_17 : decode cX1_popLocal 17 = .ok (.invokevirtual 49, 3) := by decide +kernel
theorem dX1_popLocal_20 : decode cX1_popLocal 20 = .ok (.return_, 1) := by decide +kernel
theorem dX4_storeLocal_0 : decode cX4_storeLocal 0 = .ok (.aload_n 0, 1) := by decide +kernel
theorem dX4_storeLocal_1 : decode cX4_storeLocal 1 = .ok (.getfield 46, 3) := by decide +kernel
theorem dX4_storeLocal_4 : decode cX4_storeLocal 4 = .ok (.aload_n 0, 1) := by decide +kernel
theorem dX4_storeLocal_5 : decode cX4_storeLocal 5 = .ok (.getfield 46, 3) := by decide +kernel
theorem dX4_storeLocal_8 : decode cX4_storeLocal 8 = .ok (.iconst 1, 1) := by decide +kernel
theorem dX4_storeLocal_9 : decode cX4_storeLocal 9 = .ok (.invokevirtual 142, 3) := by decide +kernel
theorem dX4_storeLocal_12 : decode cX4_storeLocal 12 = .ok (.invokevirtual 180, 3) := by decide +kernel
theorem dX4_storeLocal_15 : decode cX4_storeLocal 15 = .ok (.aload_n 0, 1) := by decide +kernel
theorem dX4_storeLocal_16 : decode cX4_storeLocal 16 = .ok (.iconst 2, 1) := by decide +kernel
theorem dX4_storeLocal_17 : decode cX4_storeLocal 17 = .ok (.invokevirtual 164, 3) := by decide +kernel
theorem dX4_storeLocal_20 : decode cX4_storeLocal 20 = .ok (.ireturn, 1) := by decide +kernel
theorem dX2_isArray_0 : decode cX2_isArray 0 = .ok (.aload_n 0, 1) := by decide +kernel
theorem dX2_isArray_1 : decode cX2_isArray 1 = .ok (.iload_n 1, 1) := by decide +kernel
theorem dX2_isArray_2 : decode cX2_isArray 2 = .ok (.invokevirtual 62, 3) := by decide +kernel
theorem dX2_isArray_5 : decode cX2_isArray 5 = .ok (.ifCond .ge 7, 3) := by decide +kernel
theorem dX2_isArray_8 : decode cX2_isArray 8 = .ok (.iconst 1, 1) := by decide +kernel
theorem dX2_isArray_9 : decode cX2_isArray 9 = .ok (.goto 4, 3) := by decide +kernel
theorem dX2_isArray_12 : decode cX2_isArray 12 = .ok (.iconst 0, 1) := by decide +kernel
theorem dX2_isArray_13 : decode cX2_isArray 13 = .ok (.ireturn, 1) := by decide +kernel
theorem dX4_tellLength_0 : decode cX4_tellLength 0 = .ok (.aload_n 0, 1) := by decide +kernel
theorem dX4_tellLength_1 : decode cX4_tellLength 1 = .ok (.getfield 46, 3) := by decide +kernel
theorem dX4_tellLength_4 : decode cX4_tellLength 4 = .ok (.iconst 0, 1) := by decide +kernel
theorem dX4_tellLength_5 : decode cX4_tellLength 5 = .ok (.invokevirtual 183, 3) := by decide +kernel
theorem dX4_tellLength_8 : decode cX4_tellLength 8 = .ok (.istore_n 1, 1) := by decide +kernel
theorem dX4_tellLength_9 : decode cX4_tellLength 9 = .ok (.iload_n 1, 1) := by decide +kernel
theorem dX4_tellLength_10 : decode cX4_tellLength 10 = .ok (.ifCond .ne 5, 3) := by decide +kernel
theorem dX4_tellLength_13 : decode cX4_tellLength 13 = .ok (.iconst 2, 1) := by decide +kernel
theorem dX4_tellLength_14 : decode cX4_tellLength 14 = .ok (.ireturn, 1) := by decide +kernel
theorem dX4_tellLength_15 : decode cX4_tellLength 15 = .ok (.aload_n 0, 1) := by decide +kernel
theorem dX4_tellLength_16 : decode cX4_tellLength 16 = .ok (.getfield 28, 3) := by decide +kernel
theorem dX4_tellLength_19 : decode cX4_tellLength 19 = .ok (.iload_n 1, 1) := by decide +kernel
theorem dX4_tellLength_20 : decode cX4_tellLength 20 = .ok (.invokevirtual 308, 3) := by decide +kernel
theorem dX4_tellLength_23 : decode cX4_tellLength 23 = .ok (.ifCond .ne 5, 3) := by decide +kernel
theorem dX4_tellLength_26 : decode cX4_tellLength 26 = .ok (.iconst 5, 1) := by decide +kernel
theorem dX4_tellLength_27 : decode cX4_tellLength 27 = .ok (.ireturn, 1) := by decide +kernel
theorem dX4_tellLength_28 : decode cX4_tellLength 28 = .ok (.aload_n 0, 1) := by decide +kernel
theorem dX4_tellLength_29 : decode cX4_tellLength 29 = .ok (.getfield 46, 3) := by decide +kernel
theorem dX4_tellLength_32 : decode cX4_tellLength 32 = .ok (.iconst 1, 1) := by decide +kernel
theorem dX4_tellLength_33 : decode cX4_tellLength 33 = .ok (.invokevirtual 198, 3) := by decide +kernel
theorem dX4_tellLength_36 : decode cX4_tellLength 36 = .ok (.aload_n 0, 1) := by decide +kernel
theorem dX4_tellLength_37 : decode cX4_tellLength 37 = .ok (.getfield 46, 3) := by decide +kernel
theorem dX4_tellLength_40 : decode cX4_tellLength 40 = .ok (.aload_n 0, 1) := by decide +kernel
theorem dX4_tellLength_41 : decode cX4_tellLength 41 = .ok (.getfield 28, 3) := by decide +kernel
theorem dX4_tellLength_44 : decode cX4_tellLength 44 = .ok (.iload_n 1, 1) := by decide +kernel
theorem dX4_tellLength_45 : decode cX4_tellLength 45 = .ok (.invokevirtual 212, 3) := by decide +kernel
theorem dX4_tellLength_48 : decode cX4_tellLength 48 = .ok (.i2l, 1) := by decide +kernel
theorem dX4_tellLength_49 : decode cX4_tellLength 49 = .ok (.invokevirtual 170, 3) := by decide +kernel
theorem dX4_tellLength_52 : decode cX4_tellLength 52 = .ok (.aload_n 0, 1) := by decide +kernel
theorem dX4_tellLength_53 : decode cX4_tellLength 53 = .ok (.iconst 1, 1) := by decide +kernel
theorem dX4_tellLength_54 : decode cX4_tellLength 54 = .ok (.invokevirtual 164, 3) := by decide +kernel
theorem dX4_tellLength_57 : decode cX4_tellLength 57 = .ok (.ireturn, 1) := by decide +kernel
theorem dX4_tellWhetherOf_0 : decode cX4_tellWhetherOf 0 = .ok (.aload_n 0, 1) := by decide +kernel
theorem dX4_tellWhetherOf_1 : decode cX4_tellWhetherOf 1 = .ok (.getfield 46, 3) := by decide +kernel
theorem dX4_tellWhetherOf_4 : decode cX4_tellWhetherOf 4 = .ok (.iconst 0, 1) := by decide +kernel
theorem dX4_tellWhetherOf_5 : decode cX4_tellWhetherOf 5 = .ok (.invokevirtual 183, 3) := by decide +kernel
theorem dX4_tellWhetherOf_8 : decode cX4_tellWhetherOf 8 = .ok (.istore_n 1, 1) := by decide +kernel
theorem dX4_tellWhetherOf_9 : decode cX4_tellWhetherOf 9 = .ok (.iload_n 1, 1) := by decide +kernel
theorem dX4_tellWhetherOf_10 : decode cX4_tellWhetherOf 10 = .ok (.ifCond .eq 23, 3) := by decide +kernel
theorem dX4_tellWhetherOf_13 : decode cX4_tellWhetherOf 13 = .ok (.aload_n 0, 1) := by decide +kernel
theorem dX4_tellWhetherOf_14 : decode cX4_tellWhetherOf 14 = .ok (.iload_n 1, 1) := by decide +kernel
theorem dX4_tellWhetherOf_15 : decode cX4_tellWhetherOf 15 = .ok (.aload_n 0, 1) := by decide +kernel
theorem dX4_tellWhetherOf_16 : decode cX4_tellWhetherOf 16 = .ok (.getfield 46, 3) := by decide +kernel
theorem dX4_tellWhetherOf_19 : decode cX4_tellWhetherOf 19 = .ok (.iconst 1, 1) := by decide +kernel
theorem dX4_tellWhetherOf_20 : decode cX4_tellWhetherOf 20 = .ok (.invokevirtual 142, 3) := by decide +kernel
theorem dX4_tellWhetherOf_23 : decode cX4_tellWhetherOf 23 = .ok (.invokevirtual 274, 3) := by decide +kernel
theorem dX4_tellWhetherOf_26 : decode cX4_tellWhetherOf 26 = .ok (.ifCond .eq 7, 3) := by decide +kernel
theorem dX4_tellWhetherOf_29 : decode cX4_tellWhetherOf 29 = .ok (.iconst 1, 1) := by decide +kernel
theorem dX4_tellWhetherOf_30 : decode cX4_tellWhetherOf 30 = .ok (.goto 4, 3) := by decide +kernel
theorem dX4_tellWhetherOf_33 : decode cX4_tellWhetherOf 33 = .ok (.iconst 0, 1) := by decide +kernel
theorem dX4_tellWhetherOf_34 : decode cX4_tellWhetherOf 34 = .ok (.istore_n 2, 1) := by decide +kernel
theorem dX4_tellWhetherOf_35 : decode cX4_tellWhetherOf 35 = .ok (.aload_n 0, 1) := by decide +kernel
theorem dX4_tellWhetherOf_36 : decode cX4_tellWhetherOf 36 = .ok (.getfield 46, 3) := by decide +kernel
theorem dX4_tellWhetherOf_39 : decode cX4_tellWhetherOf 39 = .ok (.iconst 1, 1) := by decide +kernel
theorem dX4_tellWhetherOf_40 : decode cX4_tellWhetherOf 40 = .ok (.invokevirtual 198, 3) := by decide +kernel
theorem dX4_tellWhetherOf_43 : decode cX4_tellWhetherOf 43 = .ok (.aload_n 0, 1) := by decide +kernel
theorem dX4_tellWhetherOf_44 : decode cX4_tellWhetherOf 44 = .ok (.getfield 46, 3) := by decide +kernel
theorem dX4_tellWhetherOf_47 : decode cX4_tellWhetherOf 47 = .ok (.iload_n 2, 1) := by decide +kernel
theorem dX4_tellWhetherOf_48 : decode cX4_tellWhetherOf 48 = .ok (.ifCond .eq 7, 3) := by decide +kernel
theorem dX4_tellWhetherOf_51 : decode cX4_tellWhetherOf 51 = .ok (.lconst 1, 1) := by decide +kernel
theorem dX4_tellWhetherOf_52 : decode cX4_tellWhetherOf 52 = .ok (.goto 4, 3) := by decide +kernel
theorem dX4_tellWhetherOf_55 : decode cX4_tellWhetherOf 55 = .ok (.lconst 0, 1) := by decide +kernel
theorem dX4_tellWhetherOf_56 : decode cX4_tellWhetherOf 56 = .ok (.invokevirtual 170, 3) := by decide +kernel
theorem dX4_tellWhetherOf_59 : decode cX4_tellWhetherOf 59 = .ok (.aload_n 0, 1) := by decide +kernel
theorem dX4_tellWhetherOf_60 : decode cX4_tellWhetherOf 60 = .ok (.iconst 2, 1) := by decide +kernel
theorem dX4_tellWhetherOf_61 : decode cX4_tellWhetherOf 61 = .ok (.invokevirtual 164, 3) := by decide +kernel
theorem dX4_tellWhetherOf_64 : decode cX4_tellWhetherOf 64 = .ok (.ireturn, 1) := by decide +kernel
theorem dX4_throwTop_0 : decode cX4_throwTop 0 = .ok (.aload_n 0, 1) := by decide +kernel
theorem dX4_throwTop_1 : decode cX4_throwTop 1 = .ok (.getfield 46, 3) := by decide +kernel
theorem dX4_throwTop_4 : decode cX4_throwTop 4 = .ok (.iconst 0, 1) := by decide +kernel
theorem dX4_throwTop_5 : decode cX4_throwTop 5 = .ok (.invokevirtual 183, 3) := by decide +kernel
theorem dX4_throwTop_8 : decode cX4_throwTop 8 = .ok (.istore_n 1, 1) := by decide +kernel
theorem dX4_throwTop_9 : decode cX4_throwTop 9 = .ok (.iload_n 1, 1) := by decide +kernel
theorem dX4_throwTop_10 : decode cX4_throwTop 10 = .ok (.ifCond .ne 5, 3) := by decide +kernel
theorem dX4_throwTop_13 : decode cX4_throwTop 13 = .ok (.iconst 2, 1) := by decide +kernel
theorem dX4_throwTop_14 : decode cX4_throwTop 14 = .ok (.ireturn, 1) := by decide +kernel
theorem dX4_throwTop_15 : decode cX4_throwTop 15 = .ok (.aload_n 0, 1) := by decide +kernel
theorem dX4_throwTop_16 : decode cX4_throwTop 16 = .ok (.getfield 28, 3) := by decide +kernel
theorem dX4_throwTop_19 : decode cX4_throwTop 19 = .ok (.iload_n 1, 1) := by decide +kernel
theorem dX4_throwTop_20 : decode cX4_throwTop 20 = .ok (.invokevirtual 308, 3) := by decide +kernel
theorem dX4_throwTop_23 : decode cX4_throwTop 23 = .ok (.ifCond .eq 5, 3) := by decide +kernel
theorem dX4_throwTop_26 : decode cX4_throwTop 26 = .ok (.iconst 5, 1) := by decide +kernel
theorem dX4_throwTop_27 : decode cX4_throwTop 27 = .ok (.ireturn, 1) := by decide +kernel
theorem dX4_throwTop_28 : decode cX4_throwTop 28 = .ok (.aload_n 0, 1) := by decide +kernel
theorem dX4_throwTop_29 : decode cX4_throwTop 29 = .ok (.iload_n 1, 1) := by decide +kernel
theorem dX4_throwTop_30 : decode cX4_throwTop 30 = .ok (.invokevirtual 312, 3) := by decide +kernel
theorem dX4_throwTop_33 : decode cX4_throwTop 33 = .ok (.iconst 0, 1) := by decide +kernel
theorem dX4_throwTop_34 : decode cX4_throwTop 34 = .ok (.ireturn, 1) := by decide +kernel
theorem dX2_setField_0 : decode cX2_setField 0 = .ok (.aload_n 0, 1) := by decide +kernel
theorem dX2_setField_1 : decode cX2_setField 1 = .ok (.getfield 15, 3) := by decide +kernel
theorem dX2_setField_4 : decode cX2_setField 4 = .ok (.aload_n 0, 1) := by decide +kernel
theorem dX2_setField_5 : decode cX2_setField 5 = .ok (.getfield 19, 3) := by decide +kernel
theorem dX2_setField_8 : decode cX2_setField 8 = .ok (.iload_n 1, 1) := by decide +kernel
theorem dX2_setField_9 : decode cX2_setField 9 = .ok (.iaload, 1) := by decide +kernel
theorem dX2_setField_10 : decode cX2_setField 10 = .ok (.iconst 2, 1) := by decide +kernel
theorem dX2_setField_11 : decode cX2_setField 11 = .ok (.iadd, 1) := by decide +kernel
theorem dX2_setField_12 : decode cX2_setField 12 = .ok (.iload_n 2, 1) := by decide +kernel
theorem dX2_setField_13 : decode cX2_setField 13 = .ok (.iadd, 1) := by decide +kernel
theorem dX2_setField_14 : decode cX2_setField 14 = .ok (.iload_n 3, 1) := by decide +kernel
theorem dX2_setField_15 : decode cX2_setField 15 = .ok (.iastore, 1) := by decide +kernel
theorem dX2_setField_16 : decode cX2_setField 16 = .ok (.return_, 1) := by decide +kernel
theorem dX4_writeField_0 : decode cX4_writeField 0 = .ok (.aload_n 0, 1) := by decide +kernel
theorem dX4_writeField_1 : decode cX4_writeField 1 = .ok (.getfield 46, 3) := by decide +kernel
theorem dX4_writeField_4 : decode cX4_writeField 4 = .ok (.iconst 1, 1) := by decide +kernel
theorem dX4_writeField_5 : decode cX4_writeField 5 = .ok (.invokevirtual 142, 3) := by decide +kernel
theorem dX4_writeField_8 : decode cX4_writeField 8 = .ok (.istore_n 1, 1) := by decide +kernel
theorem dX4_writeField_9 : decode cX4_writeField 9 = .ok (.aload_n 0, 1) := by decide +kernel
theorem dX4_writeField_10 : decode cX4_writeField 10 = .ok (.getfield 46, 3) := by decide +kernel
theorem dX4_writeField_13 : decode cX4_writeField 13 = .ok (.iconst 2, 1) := by decide +kernel
theorem dX4_writeField_14 : decode cX4_writeField 14 = .ok (.invokevirtual 142, 3) := by decide +kernel
theorem dX4_writeField_17 : decode cX4_writeField 17 = .ok (.istore_n 2, 1) := by decide +kernel
theorem dX4_writeField_18 : decode cX4_writeField 18 = .ok (.aload_n 0, 1) := by decide +kernel
theorem dX4_writeField_19 : decode cX4_writeField 19 = .ok (.getfield 46, 3) := by decide +kernel
theorem dX4_writeField_22 : decode cX4_writeField 22 = .ok (.iconst 1, 1) := by decide +kernel
theorem dX4_writeField_23 : decode cX4_writeField 23 = .ok (.invokevirtual 183, 3) := by decide +kernel
theorem dX4_writeField_26 : decode cX4_writeField 26 = .ok (.istore_n 3, 1) := by decide +kernel
theorem dX4_writeField_27 : decode cX4_writeField 27 = .ok (.aload_n 0, 1) := by decide +kernel
theorem dX4_writeField_28 : decode cX4_writeField 28 = .ok (.iload_n 3, 1) := by decide +kernel
theorem dX4_writeField_29 : decode cX4_writeField 29 = .ok (.iload_n 1, 1) := by decide +kernel
theorem dX4_writeField_30 : decode cX4_writeField 30 = .ok (.invokevirtual 259, 3) := by decide +kernel
theorem dX4_writeField_33 : decode cX4_writeField 33 = .ok (.istore 4, 2) := by decide +kernel
theorem dX4_writeField_35 : decode cX4_writeField 35 = .ok (.iload 4, 2) := by decide +kernel
theorem dX4_writeField_37 : decode cX4_writeField 37 = .ok (.ifCond .eq 6, 3) := by decide +kernel
theorem dX4_writeField_40 : decode cX4_writeField 40 = .ok (.iload 4, 2) := by decide +kernel
theorem dX4_writeField_42 : decode cX4_writeField 42 = .ok (.ireturn, 1) := by decide +kernel
theorem dX4_writeField_43 : decode cX4_writeField 43 = .ok (.aload_n 0, 1) := by decide +kernel
theorem dX4_writeField_44 : decode cX4_writeField 44 = .ok (.getfield 9, 3) := by decide +kernel
theorem dX4_writeField_47 : decode cX4_writeField 47 = .ok (.iload_n 1, 1) := by decide +kernel
theorem dX4_writeField_48 : decode cX4_writeField 48 = .ok (.iload_n 2, 1) := by decide +kernel
theorem dX4_writeField_49 : decode cX4_writeField 49 = .ok (.invokevirtual 265, 3) := by decide +kernel
theorem dX4_writeField_52 : decode cX4_writeField 52 = .ok (.iconst 3, 1) := by decide +kernel
theorem dX4_writeField_53 : decode cX4_writeField 53 = .ok (.if_icmp .ne 7, 3) := by decide +kernel
theorem dX4_writeField_56 : decode cX4_writeField 56 = .ok (.iconst 1, 1) := by decide +kernel
theorem dX4_writeField_57 : decode cX4_writeField 57 = .ok (.goto 4, 3) := by decide +kernel
theorem dX4_writeField_60 : decode cX4_writeField 60 = .ok (.iconst 0, 1) := by decide +kernel
theorem dX4_writeField_61 : decode cX4_writeField 61 = .ok (.istore 5, 2) := by decide +kernel
theorem dX4_writeField_63 : decode cX4_writeField 63 = .ok (.aload_n 0, 1) := by decide +kernel
theorem dX4_writeField_64 : decode cX4_writeField 64 = .ok (.getfield 28, 3) := by decide +kernel
theorem dX4_writeField_67 : decode cX4_writeField 67 = .ok (.iload_n 3, 1) := by decide +kernel
theorem dX4_writeField_68 : decode cX4_writeField 68 = .ok (.iload_n 2, 1) := by decide +kernel
theorem dX4_writeField_69 : decode cX4_writeField 69 = .ok (.iload 5, 2) := by decide +kernel
theorem dX4_writeField_71 : decode cX4_writeField 71 = .ok (.ifCond .eq 14, 3) := by decide +kernel
theorem dX4_writeField_74 : decode cX4_writeField 74 = .ok (.aload_n 0, 1) := by decide +kernel
theorem dX4_writeField_75 : decode cX4_writeField 75 = .ok (.getfield 46, 3) := by decide +kernel
theorem dX4_writeField_78 : decode cX4_writeField 78 = .ok (.iconst 0, 1) := by decide +kernel
theorem dX4_writeField_79 : decode cX4_writeField 79 = .ok (.invokevirtual 183, 3) := by decide +kernel
theorem dX4_writeField_82 : decode cX4_writeField 82 = .ok (.goto 12, 3) := by decide +kernel
theorem dX4_writeField_85 : decode cX4_writeField 85 = .ok (.aload_n 0, 1) := by decide +kernel
theorem dX4_writeField_86 : decode cX4_writeField 86 = .ok (.getfield 46, 3) := by decide +kernel
theorem dX4_writeField_89 : decode cX4_writeField 89 = .ok (.iconst 0, 1) := by decide +kernel
theorem dX4_writeField_90 : decode cX4_writeField 90 = .ok (.invokevirtual 186, 3) := by decide +kernel
theorem dX4_writeField_93 : decode cX4_writeField 93 = .ok (.l2i, 1) := by decide +kernel
theorem dX4_writeField_94 : decode cX4_writeField 94 = .ok (.invokevirtual 270, 3) := by decide +kernel
theorem dX4_writeField_97 : decode cX4_writeField 97 = .ok (.aload_n 0, 1) := by decide +kernel
theorem dX4_writeField_98 : decode cX4_writeField 98 = .ok (.getfield 46, 3) := by decide +kernel
theorem dX4_writeField_101 : decode cX4_writeField 101 = .ok (.iconst 2, 1) := by decide +kernel
theorem dX4_writeField_102 : decode cX4_writeField 102 = .ok (.invokevirtual 198, 3) := by decide +kernel
theorem dX4_writeField_105 : decode cX4_writeField 105 = .ok (.aload_n 0, 1) := by decide +kernel
theorem dX4_writeField_106 : decode cX4_writeField 106 = .ok (.iconst 3, 1) := by decide +kernel
theorem dX4_writeField_107 : decode cX4_writeField 107 = .ok (.invokevirtual 164, 3) := by decide +kernel
theorem dX4_writeField_110 : decode cX4_writeField 110 = .ok (.ireturn, 1) := by decide +kernel
theorem dX4_step_0 : decode cX4_step 0 = .ok (.aload_n 0, 1) := by decide +kernel
theorem dX4_step_1 : decode cX4_step 1 = .ok (.getfield 46, 3) := by decide +kernel
theorem dX4_step_4 : decode cX4_step 4 = .ok (.invokevirtual 98, 3) := by decide +kernel
theorem dX4_step_7 : decode cX4_step 7 = .ok (.istore_n 1, 1) := by decide +kernel
theorem dX4_step_8 : decode cX4_step 8 = .ok (.iload_n 1, 1) := by decide +kernel
theorem dX4_step_9 : decode cX4_step 9 = .ok (.bipush 25, 2) := by decide +kernel
theorem dX4_step_11 : decode cX4_step 11 = .ok (.if_icmp .gt 9, 3) := by decide +kernel
theorem dX4_step_14 : decode cX4_step 14 = .ok (.aload_n 0, 1) := by decide +kernel
theorem dX4_step_15 : decode cX4_step 15 = .ok (.iload_n 1, 1) := by decide +kernel
theorem dX4_step_16 : decode cX4_step 16 = .ok (.invokevirtual 103, 3) := by decide +kernel
theorem dX4_step_19 : decode cX4_step 19 = .ok (.ireturn, 1) := by decide +kernel
theorem dX4_step_20 : decode cX4_step 20 = .ok (.iload_n 1, 1) := by decide +kernel
theorem dX4_step_21 : decode cX4_step 21 = .ok (.bipush 53, 2) := by decide +kernel
theorem dX4_step_23 : decode cX4_step 23 = .ok (.if_icmp .gt 9, 3) := by decide +kernel
theorem dX4_step_26 : decode cX4_step 26 = .ok (.aload_n 0, 1) := by decide +kernel
theorem dX4_step_27 : decode cX4_step 27 = .ok (.iload_n 1, 1) := by decide +kernel
theorem dX4_step_28 : decode cX4_step 28 = .ok (.invokevirtual 106, 3) := by decide +kernel
theorem dX4_step_31 : decode cX4_step 31 = .ok (.ireturn, 1) := by decide +kernel
theorem dX4_step_32 : decode cX4_step 32 = .ok (.iload_n 1, 1) := by decide +kernel
theorem dX4_step_33 : decode cX4_step 33 = .ok (.bipush 58, 2) := by decide +kernel
theorem dX4_step_35 : decode cX4_step 35 = .ok (.if_icmp .gt 8, 3) := by decide +kernel
theorem dX4_step_38 : decode cX4_step 38 = .ok (.aload_n 0, 1) := by decide +kernel
theorem dX4_step_39 : decode cX4_step 39 = .ok (.invokevirtual 109, 3) := by decide +kernel
theorem dX4_step_42 : decode cX4_step 42 = .ok (.ireturn, 1) := by decide +kernel
theorem dX4_step_43 : decode cX4_step 43 = .ok (.iload_n 1, 1) := by decide +kernel
theorem dX4_step_44 : decode cX4_step 44 = .ok (.bipush 86, 2) := by decide +kernel
theorem dX4_step_46 : decode cX4_step 46 = .ok (.if_icmp .gt 9, 3) := by decide +kernel
theorem dX4_step_49 : decode cX4_step 49 = .ok (.aload_n 0, 1) := by decide +kernel
theorem dX4_step_50 : decode cX4_step 50 = .ok (.iload_n 1, 1) := by decide +kernel
theorem dX4_step_51 : decode cX4_step 51 = .ok (.invokevirtual 112, 3) := by decide +kernel
theorem dX4_step_54 : decode cX4_step 54 = .ok (.ireturn, 1) := by decide +kernel
theorem dX4_step_55 : decode cX4_step 55 = .ok (.iload_n 1, 1) := by decide +kernel
theorem dX4_step_56 : decode cX4_step 56 = .ok (.bipush 95, 2) := by decide +kernel
theorem dX4_step_58 : decode cX4_step 58 = .ok (.if_icmp .gt 9, 3) := by decide +kernel
theorem dX4_step_61 : decode cX4_step 61 = .ok (.aload_n 0, 1) := by decide +kernel
theorem dX4_step_62 : decode cX4_step 62 = .ok (.iload_n 1, 1) := by decide +kernel
theorem dX4_step_63 : decode cX4_step 63 = .ok (.invokevirtual 115, 3) := by decide +kernel
theorem dX4_step_66 : decode cX4_step 66 = .ok (.ireturn, 1) := by decide +kernel
theorem dX4_step_67 : decode cX4_step 67 = .ok (.iload_n 1, 1) := by decide +kernel
theorem dX4_step_68 : decode cX4_step 68 = .ok (.sipush 131, 3) := by decide +kernel
theorem dX4_step_71 : decode cX4_step 71 = .ok (.if_icmp .gt 9, 3) := by decide +kernel
theorem dX4_step_74 : decode cX4_step 74 = .ok (.aload_n 0, 1) := by decide +kernel
theorem dX4_step_75 : decode cX4_step 75 = .ok (.iload_n 1, 1) := by decide +kernel
theorem dX4_step_76 : decode cX4_step 76 = .ok (.invokevirtual 118, 3) := by decide +kernel
theorem dX4_step_79 : decode cX4_step 79 = .ok (.ireturn, 1) := by decide +kernel
theorem dX4_step_80 : decode cX4_step 80 = .ok (.iload_n 1, 1) := by decide +kernel
theorem dX4_step_81 : decode cX4_step 81 = .ok (.sipush 148, 3) := by decide +kernel
theorem dX4_step_84 : decode cX4_step 84 = .ok (.if_icmp .gt 9, 3) := by decide +kernel
theorem dX4_step_87 : decode cX4_step 87 = .ok (.aload_n 0, 1) := by decide +kernel
theorem dX4_step_88 : decode cX4_step 88 = .ok (.iload_n 1, 1) := by decide +kernel
theorem dX4_step_89 : decode cX4_step 89 = .ok (.invokevirtual 121, 3) := by decide +kernel
theorem dX4_step_92 : decode cX4_step 92 = .ok (.ireturn, 1) := by decide +kernel
theorem dX4_step_93 : decode cX4_step 93 = .ok (.iload_n 1, 1) := by decide +kernel
theorem dX4_step_94 : decode cX4_step 94 = .ok (.sipush 167, 3) := by decide +kernel
theorem dX4_step_97 : decode cX4_step 97 = .ok (.if_icmp .le 10, 3) := by decide +kernel
theorem dX4_step_100 : decode cX4_step 100 = .ok (.iload_n 1, 1) := by decide +kernel
theorem dX4_step_101 : decode cX4_step 101 = .ok (.sipush 198, 3) := by decide +kernel
theorem dX4_step_104 : decode cX4_step 104 = .ok (.if_icmp .lt 9, 3) := by decide +kernel
theorem dX4_step_107 : decode cX4_step 107 = .ok (.aload_n 0, 1) := by decide +kernel
theorem dX4_step_108 : decode cX4_step 108 = .ok (.iload_n 1, 1) := by decide +kernel
theorem dX4_step_109 : decode cX4_step 109 = .ok (.invokevirtual 124, 3) := by decide +kernel
theorem dX4_step_112 : decode cX4_step 112 = .ok (.ireturn, 1) := by decide +kernel
theorem dX4_step_113 : decode cX4_step 113 = .ok (.iload_n 1, 1) := by decide +kernel
theorem dX4_step_114 : decode cX4_step 114 = .ok (.sipush 177, 3) := by decide +kernel
theorem dX4_step_117 : decode cX4_step 117 = .ok (.if_icmp .gt 9, 3) := by decide +kernel
theorem dX4_step_120 : decode cX4_step 120 = .ok (.aload_n 0, 1) := by decide +kernel
theorem dX4_step_121 : decode cX4_step 121 = .ok (.iload_n 1, 1) := by decide +kernel
theorem dX4_step_122 : decode cX4_step 122 = .ok (.invokevirtual 127, 3) := by decide +kernel
theorem dX4_step_125 : decode cX4_step 125 = .ok (.ireturn, 1) := by decide +kernel
theorem dX4_step_126 : decode cX4_step 126 = .ok (.iload_n 1, 1) := by decide +kernel
theorem dX4_step_127 : decode cX4_step 127 = .ok (.tableswitch 122 180 192 #[65, 70, 122, 122, 75, 122, 122, 80, 85, 99, 107, 112, 117], 65) := by decide +kernel
theorem dX4_step_192 : decode cX4_step 192 = .ok (.aload_n 0, 1) := by decide +kernel
theorem dX4_step_193 : decode cX4_step 193 = .ok (.invokevirtual 130, 3) := by decide +kernel
theorem dX4_step_196 : decode cX4_step 196 = .ok (.ireturn, 1) := by decide +kernel
theorem dX4_step_197 : decode cX4_step 197 = .ok (.aload_n 0, 1) := by decide +kernel
theorem dX4_step_198 : decode cX4_step 198 = .ok (.invokevirtual 133, 3) := by decide +kernel
theorem dX4_step_201 : decode cX4_step 201 = .ok (.ireturn, 1) := by decide +kernel
theorem dX4_step_202 : decode cX4_step 202 = .ok (.aload_n 0, 1) := by decide +kernel
theorem dX4_step_203 : decode cX4_step 203 = .ok (.invokevirtual 136, 3) := by decide +kernel
theorem dX4_step_206 : decode cX4_step 206 = .ok (.ireturn, 1) := by decide +kernel
theorem dX4_step_207 : decode cX4_step 207 = .ok (.aload_n 0, 1) := by decide +kernel
theorem dX4_step_208 : decode cX4_step 208 = .ok (.invokevirtual 139, 3) := by decide +kernel
theorem dX4_step_211 : decode cX4_step 211 = .ok (.ireturn, 1) := by decide +kernel
theorem dX4_step_212 : decode cX4_step 212 = .ok (.aload_n 0, 1) := by decide +kernel
theorem dX4_step_213 : decode cX4_step 213 = .ok (.aload_n 0, 1) := by decide +kernel
theorem dX4_step_214 : decode cX4_step 214 = .ok (.getfield 46, 3) := by decide +kernel
theorem dX4_step_217 : decode cX4_step 217 = .ok (.iconst 1, 1) := by decide +kernel
theorem dX4_step_218 : decode cX4_step 218 = .ok (.invokevirtual 142, 3) := by decide +kernel
theorem dX4_step_221 : decode cX4_step 221 = .ok (.iconst 2, 1) := by decide +kernel
theorem dX4_step_222 : decode cX4_step 222 = .ok (.invokevirtual 145, 3) := by decide +kernel
theorem dX4_step_225 : decode cX4_step 225 = .ok (.ireturn, 1) := by decide +kernel
theorem dX4_step_226 : decode cX4_step 226 = .ok (.aload_n 0, 1) := by decide +kernel
theorem dX4_step_227 : decode cX4_step 227 = .ok (.bipush 12, 2) := by decide +kernel
theorem dX4_step_229 : decode cX4_step 229 = .ok (.iconst 1, 1) := by decide +kernel
theorem dX4_step_230 : decode cX4_step 230 = .ok (.invokevirtual 145, 3) := by decide +kernel
theorem dX4_step_233 : decode cX4_step 233 = .ok (.ireturn, 1) := by decide +kernel
theorem dX4_step_234 : decode cX4_step 234 = .ok (.aload_n 0, 1) := by decide +kernel
theorem dX4_step_235 : decode cX4_step 235 = .ok (.invokevirtual 149, 3) := by decide +kernel
theorem dX4_step_238 : decode cX4_step 238 = .ok (.ireturn, 1) := by decide +kernel
theorem dX4_step_239 : decode cX4_step 239 = .ok (.aload_n 0, 1) := by decide +kernel
theorem dX4_step_240 : decode cX4_step 240 = .ok (.invokevirtual 152, 3) := by decide +kernel
theorem dX4_step_243 : decode cX4_step 243 = .ok (.ireturn, 1) := by decide +kernel
theorem dX4_step_244 : decode cX4_step 244 = .ok (.aload_n 0, 1) := by decide +kernel
theorem dX4_step_245 : decode cX4_step 245 = .ok (.invokevirtual 155, 3) := by decide +kernel
theorem dX4_step_248 : decode cX4_step 248 = .ok (.ireturn, 1) := by decide +kernel
theorem dX4_step_249 : decode cX4_step 249 = .ok (.aload_n 0, 1) := by decide +kernel
theorem dX4_step_250 : decode cX4_step 250 = .ok (.invokevirtual 158, 3) := by decide +kernel
theorem dX4_step_253 : decode cX4_step 253 = .ok (.ireturn, 1) := by decide +kernel
theorem dX4_perform_0 : decode cX4_perform 0 = .ok (.aload_n 0, 1) := by decide +kernel
theorem dX4_perform_1 : decode cX4_perform 1 = .ok (.getfield 28, 3) := by decide +kernel
theorem dX4_perform_4 : decode cX4_perform 4 = .ok (.invokevirtual 50, 3) := by decide +kernel
theorem dX4_perform_7 : decode cX4_perform 7 = .ok (.aload_n 0, 1) := by decide +kernel
theorem dX4_perform_8 : decode cX4_perform 8 = .ok (.lconst 0, 1) := by decide +kernel
theorem dX4_perform_9 : decode cX4_perform 9 = .ok (.putfield 53, 3) := by decide +kernel
theorem dX4_perform_12 : decode cX4_perform 12 = .ok (.aload_n 0, 1) := by decide +kernel
theorem dX4_perform_13 : decode cX4_perform 13 = .ok (.iconst 0, 1) := by decide +kernel
theorem dX4_perform_14 : decode cX4_perform 14 = .ok (.putfield 57, 3) := by decide +kernel
theorem dX4_perform_17 : decode cX4_perform 17 = .ok (.aload_n 0, 1) := by decide +kernel
theorem dX4_perform_18 : decode cX4_perform 18 = .ok (.iconst 0, 1) := by decide +kernel
theorem dX4_perform_19 : decode cX4_perform 19 = .ok (.putfield 60, 3) := by decide +kernel
theorem dX4_perform_22 : decode cX4_perform 22 = .ok (.aload_n 0, 1) := by decide +kernel
theorem dX4_perform_23 : decode cX4_perform 23 = .ok (.iconst 0, 1) := by decide +kernel
theorem dX4_perform_24 : decode cX4_perform 24 = .ok (.putfield 63, 3) := by decide +kernel
theorem dX4_perform_27 : decode cX4_perform 27 = .ok (.aload_n 0, 1) := by decide +kernel
theorem dX4_perform_28 : decode cX4_perform 28 = .ok (.iconst (-1), 1) := by decide +kernel
theorem dX4_perform_29 : decode cX4_perform 29 = .ok (.putfield 66, 3) := by decide +kernel
theorem dX4_perform_32 : decode cX4_perform 32 = .ok (.aload_n 0, 1) := by decide +kernel
theorem dX4_perform_33 : decode cX4_perform 33 = .ok (.aload_n 1, 1) := by decide +kernel
theorem dX4_perform_34 : decode cX4_perform 34 = .ok (.lload_n 2, 1) := by decide +kernel
theorem dX4_perform_35 : decode cX4_perform 35 = .ok (.lload 4, 2) := by decide +kernel
theorem dX4_perform_37 : decode cX4_perform 37 = .ok (.invokevirtual 69, 3) := by decide +kernel
theorem dX4_perform_40 : decode cX4_perform 40 = .ok (.aload_n 0, 1) := by decide +kernel
theorem dX4_perform_41 : decode cX4_perform 41 = .ok (.getfield 57, 3) := by decide +kernel
theorem dX4_perform_44 : decode cX4_perform 44 = .ok (.iload 6, 2) := by decide +kernel
theorem dX4_perform_46 : decode cX4_perform 46 = .ok (.if_icmp .ge 41, 3) := by decide +kernel
theorem dX4_perform_49 : decode cX4_perform 49 = .ok (.aload_n 0, 1) := by decide +kernel
theorem dX4_perform_50 : decode cX4_perform 50 = .ok (.getfield 66, 3) := by decide +kernel
theorem dX4_perform_53 : decode cX4_perform 53 = .ok (.iconst (-1), 1) := by decide +kernel
theorem dX4_perform_54 : decode cX4_perform 54 = .ok (.if_icmp .ne 33, 3) := by decide +kernel
theorem dX4_perform_57 : decode cX4_perform 57 = .ok (.aload_n 0, 1) := by decide +kernel
theorem dX4_perform_58 : decode cX4_perform 58 = .ok (.dup, 1) := by decide +kernel
theorem dX4_perform_59 : decode cX4_perform 59 = .ok (.getfield 57, 3) := by decide +kernel
theorem dX4_perform_62 : decode cX4_perform 62 = .ok (.iconst 1, 1) := by decide +kernel
theorem dX4_perform_63 : decode cX4_perform 63 = .ok (.iadd, 1) := by decide +kernel
theorem dX4_perform_64 : decode cX4_perform 64 = .ok (.putfield 57, 3) := by decide +kernel
theorem dX4_perform_67 : decode cX4_perform 67 = .ok (.aload_n 0, 1) := by decide +kernel
theorem dX4_perform_68 : decode cX4_perform 68 = .ok (.invokevirtual 73, 3) := by decide +kernel
theorem dX4_perform_71 : decode cX4_perform 71 = .ok (.istore 7, 2) := by decide +kernel
theorem dX4_perform_73 : decode cX4_perform 73 = .ok (.iload 7, 2) := by decide +kernel
theorem dX4_perform_75 : decode cX4_perform 75 = .ok (.ifCond .eq 9, 3) := by decide +kernel
theorem dX4_perform_78 : decode cX4_perform 78 = .ok (.aload_n 0, 1) := by decide +kernel
theorem dX4_perform_79 : decode cX4_perform 79 = .ok (.iload 7, 2) := by decide +kernel
theorem dX4_perform_81 : decode cX4_perform 81 = .ok (.invokevirtual 77, 3) := by decide +kernel
theorem dX4_perform_84 : decode cX4_perform 84 = .ok (.goto (-44), 3) := by decide +kernel
theorem dX4_perform_87 : decode cX4_perform 87 = .ok (.aload_n 0, 1) := by decide +kernel
theorem dX4_perform_88 : decode cX4_perform 88 = .ok (.getfield 66, 3) := by decide +kernel
theorem dX4_perform_91 : decode cX4_perform 91 = .ok (.iconst (-1), 1) := by decide +kernel
theorem dX4_perform_92 : decode cX4_perform 92 = .ok (.if_icmp .ne 8, 3) := by decide +kernel
theorem dX4_perform_95 : decode cX4_perform 95 = .ok (.aload_n 0, 1) := by decide +kernel
theorem dX4_perform_96 : decode cX4_perform 96 = .ok (.iconst 2, 1) := by decide +kernel
theorem dX4_perform_97 : decode cX4_perform 97 = .ok (.putfield 66, 3) := by decide +kernel
theorem dX4_perform_100 : decode cX4_perform 100 = .ok (.aload_n 0, 1) := by decide +kernel
theorem dX4_perform_101 : decode cX4_perform 101 = .ok (.getfield 66, 3) := by decide +kernel
theorem dX4_perform_104 : decode cX4_perform 104 = .ok (.ireturn, 1) := by decide +kernel
theorem dX8_run_0 : decode cX8_run 0 = .ok (.iload_n 1, 1) := by decide +kernel
theorem dX8_run_1 : decode cX8_run 1 = .ok (.ifCond .lt 14, 3) := by decide +kernel
theorem dX8_run_4 : decode cX8_run 4 = .ok (.iload_n 1, 1) := by decide +kernel
theorem dX8_run_5 : decode cX8_run 5 = .ok (.aload_n 0, 1) := by decide +kernel
theorem dX8_run_6 : decode cX8_run 6 = .ok (.getfield 26, 3) := by decide +kernel
theorem dX8_run_9 : decode cX8_run 9 = .ok (.invokevirtual 128, 3) := by decide +kernel
theorem dX8_run_12 : decode cX8_run 12 = .ok (.if_icmp .lt 13, 3) := by decide +kernel
theorem dX8_run_18 : decode cX8_run 18 = .ok (.dup, 1) := by decide +kernel
theorem dX8_run_19 : decode cX8_run 19 = .ok (.ldc 157, 2) := by decide +kernel
theorem dX8_run_21 : decode cX8_run 21 = .ok (.invokespecial 85, 3) := by decide +kernel
theorem dX8_run_24 : decode cX8_run 24 = .ok (.athrow, 1) := by decide +kernel
theorem dX8_run_15 : decode cX8_run 15 = .ok (.new 81, 3) := by decide +kernel
theorem dX8_run_25 : decode cX8_run 25 = .ok (.iload 6, 2) := by decide +kernel
theorem dX8_run_27 : decode cX8_run 27 = .ok (.ifCond .lt 11, 3) := by decide +kernel
theorem dX8_run_30 : decode cX8_run 30 = .ok (.iload 6, 2) := by decide +kernel
theorem dX8_run_32 : decode cX8_run 32 = .ok (.sipush 20000, 3) := by decide +kernel
theorem dX8_run_35 : decode cX8_run 35 = .ok (.if_icmp .le 13, 3) := by decide +kernel
theorem dX8_run_41 : decode cX8_run 41 = .ok (.dup, 1) := by decide +kernel
theorem dX8_run_42 : decode cX8_run 42 = .ok (.ldc 159, 2) := by decide +kernel
theorem dX8_run_44 : decode cX8_run 44 = .ok (.invokespecial 61, 3) := by decide +kernel
theorem dX8_run_47 : decode cX8_run 47 = .ok (.athrow, 1) := by decide +kernel
theorem dX8_run_38 : decode cX8_run 38 = .ok (.new 57, 3) := by decide +kernel
theorem dX8_run_48 : decode cX8_run 48 = .ok (.aload_n 0, 1) := by decide +kernel
theorem dX8_run_49 : decode cX8_run 49 = .ok (.getfield 53, 3) := by decide +kernel
theorem dX8_run_52 : decode cX8_run 52 = .ok (.aload_n 0, 1) := by decide +kernel
theorem dX8_run_53 : decode cX8_run 53 = .ok (.getfield 26, 3) := by decide +kernel
theorem dX8_run_56 : decode cX8_run 56 = .ok (.iload_n 1, 1) := by decide +kernel
theorem dX8_run_57 : decode cX8_run 57 = .ok (.invokevirtual 161, 3) := by decide +kernel
theorem dX8_run_60 : decode cX8_run 60 = .ok (.checkcast 134, 3) := by decide +kernel
theorem dX8_run_63 : decode cX8_run 63 = .ok (.lload_n 2, 1) := by decide +kernel
theorem dX8_run_64 : decode cX8_run 64 = .ok (.lload 4, 2) := by decide +kernel
theorem dX8_run_66 : decode cX8_run 66 = .ok (.iload 6, 2) := by decide +kernel
theorem dX8_run_68 : decode cX8_run 68 = .ok (.invokevirtual 165, 3) := by decide +kernel
theorem dX8_run_71 : decode cX8_run 71 = .ok (.ireturn, 1) := by decide +kernel
theorem dX8_result_0 : decode cX8_result 0 = .ok (.aload_n 0, 1) := by decide +kernel
theorem dX8_result_1 : decode cX8_result 1 = .ok (.getfield 53, 3) := by decide +kernel
theorem dX8_result_4 : decode cX8_result 4 = .ok (.getfield 169, 3) := by decide +kernel
theorem dX8_result_7 : decode cX8_result 7 = .ok (.lreturn, 1) := by decide +kernel
theorem dX8_steps_0 : decode cX8_steps 0 = .ok (.aload_n 0, 1) := by decide +kernel
theorem dX8_steps_1 : decode cX8_steps 1 = .ok (.getfield 53, 3) := by decide +kernel
theorem dX8_steps_4 : decode cX8_steps 4 = .ok (.getfield 173, 3) := by decide +kernel
theorem dX8_steps_7 : decode cX8_steps 7 = .ok (.ireturn, 1) := by decide +kernel
theorem dX8_count_0 : decode cX8_count 0 = .ok (.iload_n 1, 1) := by decide +kernel
theorem dX8_count_1 : decode cX8_count 1 = .ok (.tableswitch 75 0 4 #[35, 43, 51, 59, 67], 35) := by decide +kernel
theorem dX8_count_36 : decode cX8_count 36 = .ok (.aload_n 0, 1) := by decide +kernel
theorem dX8_count_37 : decode cX8_count 37 = .ok (.getfield 10, 3) := by decide +kernel
theorem dX8_count_40 : decode cX8_count 40 = .ok (.getfield 92, 3) := by decide +kernel
theorem dX8_count_43 : decode cX8_count 43 = .ok (.ireturn, 1) := by decide +kernel
theorem dX8_count_44 : decode cX8_count 44 = .ok (.aload_n 0, 1) := by decide +kernel
theorem dX8_count_45 : decode cX8_count 45 = .ok (.getfield 26, 3) := by decide +kernel
theorem dX8_count_48 : decode cX8_count 48 = .ok (.invokevirtual 128, 3) := by decide +kernel
theorem dX8_count_51 : decode cX8_count 51 = .ok (.ireturn, 1) := by decide +kernel
theorem dX8_count_52 : decode cX8_count 52 = .ok (.aload_n 0, 1) := by decide +kernel
theorem dX8_count_53 : decode cX8_count 53 = .ok (.getfield 19, 3) := by decide +kernel
theorem dX8_count_56 : decode cX8_count 56 = .ok (.getfield 64, 3) := by decide +kernel
theorem dX8_count_59 : decode cX8_count 59 = .ok (.ireturn, 1) := by decide +kernel
theorem dX8_count_60 : decode cX8_count 60 = .ok (.aload_n 0, 1) := by decide +kernel
theorem dX8_count_61 : decode cX8_count 61 = .ok (.getfield 53, 3) := by decide +kernel
theorem dX8_count_64 : decode cX8_count 64 = .ok (.getfield 176, 3) := by decide +kernel
theorem dX8_count_67 : decode cX8_count 67 = .ok (.ireturn, 1) := by decide +kernel
theorem dX8_count_68 : decode cX8_count 68 = .ok (.aload_n 0, 1) := by decide +kernel
theorem dX8_count_69 : decode cX8_count 69 = .ok (.getfield 53, 3) := by decide +kernel
theorem dX8_count_72 : decode cX8_count 72 = .ok (.getfield 179, 3) := by decide +kernel
theorem dX8_count_75 : decode cX8_count 75 = .ok (.ireturn, 1) := by decide +kernel
theorem dX8_count_79 : decode cX8_count 79 = .ok (.dup, 1) := by decide +kernel
theorem dX8_count_80 : decode cX8_count 80 = .ok (.ldc 182, 2) := by decide +kernel
theorem dX8_count_82 : decode cX8_count 82 = .ok (.invokespecial 85, 3) := by decide +kernel
theorem dX8_count_85 : decode cX8_count 85 = .ok (.athrow, 1) := by decide +kernel
theorem dX8_count_76 : decode cX8_count 76 = .ok (.new 81, 3) := by decide +kernel
theorem dL_cell_0 : decode cL_cell 0 = .ok (.iload_n 1, 1) := by decide +kernel
theorem dL_cell_1 : decode cL_cell 1 = .ok (.aload_n 0, 1) := by decide +kernel
theorem dL_cell_2 : decode cL_cell 2 = .ok (.arraylength, 1) := by decide +kernel
theorem dL_cell_3 : decode cL_cell 3 = .ok (.if_icmp .ge 9, 3) := by decide +kernel
theorem dL_cell_6 : decode cL_cell 6 = .ok (.aload_n 0, 1) := by decide +kernel
theorem dL_cell_7 : decode cL_cell 7 = .ok (.iload_n 1, 1) := by decide +kernel
theorem dL_cell_8 : decode cL_cell 8 = .ok (.iaload, 1) := by decide +kernel
theorem dL_cell_9 : decode cL_cell 9 = .ok (.goto 4, 3) := by decide +kernel
theorem dL_cell_12 : decode cL_cell 12 = .ok (.iconst 0, 1) := by decide +kernel
theorem dL_cell_13 : decode cL_cell 13 = .ok (.ireturn, 1) := by decide +kernel
