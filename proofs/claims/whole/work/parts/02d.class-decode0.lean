theorem dJxa1e45_init_da8c8_0 : decode cJxa1e45_init_da8c8 0 = .ok (.aload_n 0, 1) := by decide +kernel
theorem dJxa1e45_init_da8c8_1 : decode cJxa1e45_init_da8c8 1 = .ok (.invokespecial 1, 3) := by decide +kernel
theorem dJxa1e45_init_da8c8_4 : decode cJxa1e45_init_da8c8 4 = .ok (.return_, 1) := by decide +kernel
theorem dJxc12de_init_da8c8_0 : decode cJxc12de_init_da8c8 0 = .ok (.aload_n 0, 1) := by decide +kernel
theorem dJxc12de_init_da8c8_1 : decode cJxc12de_init_da8c8 1 = .ok (.invokespecial 1, 3) := by decide +kernel
theorem dJxc12de_init_da8c8_4 : decode cJxc12de_init_da8c8 4 = .ok (.aload_n 0, 1) := by decide +kernel
theorem dJxc12de_init_da8c8_5 : decode cJxc12de_init_da8c8 5 = .ok (.iconst 0, 1) := by decide +kernel
theorem dJxc12de_init_da8c8_6 : decode cJxc12de_init_da8c8 6 = .ok (.putfield 7, 3) := by decide +kernel
theorem dJxc12de_init_da8c8_9 : decode cJxc12de_init_da8c8 9 = .ok (.return_, 1) := by decide +kernel
theorem dJx4a65c_init_da8c8_0 : decode cJx4a65c_init_da8c8 0 = .ok (.aload_n 0, 1) := by decide +kernel
theorem dJx4a65c_init_da8c8_1 : decode cJx4a65c_init_da8c8 1 = .ok (.invokespecial 1, 3) := by decide +kernel
theorem dJx4a65c_init_da8c8_4 : decode cJx4a65c_init_da8c8 4 = .ok (.aload_n 0, 1) := by decide +kernel
theorem dJx4a65c_init_da8c8_5 : decode cJx4a65c_init_da8c8 5 = .ok (.getstatic 39, 3) := by decide +kernel
theorem dJx4a65c_init_da8c8_8 : decode cJx4a65c_init_da8c8 8 = .ok (.putfield 9, 3) := by decide +kernel
theorem dJx4a65c_init_da8c8_11 : decode cJx4a65c_init_da8c8 11 = .ok (.return_, 1) := by decide +kernel
theorem dX0_init_0 : decode cX0_init 0 = .ok (.aload_n 0, 1) := by decide +kernel
theorem dX0_init_1 : decode cX0_init 1 = .ok (.invokespecial 3, 3) := by decide +kernel
theorem dX0_init_4 : decode cX0_init 4 = .ok (.aload_n 0, 1) := by decide +kernel
theorem dX0_init_5 : decode cX0_init 5 = .ok (.sipush 200, 3) := by decide +kernel
theorem dX0_init_8 : decode cX0_init 8 = .ok (.newarray .byte, 2) := by decide +kernel
theorem dX0_init_10 : decode cX0_init 10 = .ok (.putfield 9, 3) := by decide +kernel
theorem dX0_init_13 : decode cX0_init 13 = .ok (.aload_n 0, 1) := by decide +kernel
theorem dX0_init_14 : decode cX0_init 14 = .ok (.bipush 32, 2) := by decide +kernel
theorem dX0_init_16 : decode cX0_init 16 = .ok (.newarray .int, 2) := by decide +kernel
theorem dX0_init_18 : decode cX0_init 18 = .ok (.putfield 17, 3) := by decide +kernel
theorem dX0_init_21 : decode cX0_init 21 = .ok (.return_, 1) := by decide +kernel
theorem dX3_init_0 : decode cX3_init 0 = .ok (.aload_n 0, 1) := by decide +kernel
theorem dX3_init_1 : decode cX3_init 1 = .ok (.invokespecial 3, 3) := by decide +kernel
theorem dX3_init_4 : decode cX3_init 4 = .ok (.aload_n 0, 1) := by decide +kernel
theorem dX3_init_5 : decode cX3_init 5 = .ok (.sipush 200, 3) := by decide +kernel
theorem dX3_init_8 : decode cX3_init 8 = .ok (.newarray .boolean, 2) := by decide +kernel
theorem dX3_init_10 : decode cX3_init 10 = .ok (.putfield 9, 3) := by decide +kernel
theorem dX3_init_13 : decode cX3_init 13 = .ok (.aload_n 0, 1) := by decide +kernel
theorem dX3_init_14 : decode cX3_init 14 = .ok (.sipush 200, 3) := by decide +kernel
theorem dX3_init_17 : decode cX3_init 17 = .ok (.newarray .boolean, 2) := by decide +kernel
theorem dX3_init_19 : decode cX3_init 19 = .ok (.putfield 15, 3) := by decide +kernel
theorem dX3_init_22 : decode cX3_init 22 = .ok (.aload_n 0, 1) := by decide +kernel
theorem dX3_init_23 : decode cX3_init 23 = .ok (.sipush 200, 3) := by decide +kernel
theorem dX3_init_26 : decode cX3_init 26 = .ok (.newarray .int, 2) := by decide +kernel
theorem dX3_init_28 : decode cX3_init 28 = .ok (.putfield 18, 3) := by decide +kernel
theorem dX3_init_31 : decode cX3_init 31 = .ok (.aload_n 0, 1) := by decide +kernel
theorem dX3_init_32 : decode cX3_init 32 = .ok (.sipush 200, 3) := by decide +kernel
theorem dX3_init_35 : decode cX3_init 35 = .ok (.newarray .int, 2) := by decide +kernel
theorem dX3_init_37 : decode cX3_init 37 = .ok (.putfield 22, 3) := by decide +kernel
theorem dX3_init_40 : decode cX3_init 40 = .ok (.aload_n 0, 1) := by decide +kernel
theorem dX3_init_41 : decode cX3_init 41 = .ok (.sipush 200, 3) := by decide +kernel
theorem dX3_init_44 : decode cX3_init 44 = .ok (.newarray .int, 2) := by decide +kernel
theorem dX3_init_46 : decode cX3_init 46 = .ok (.putfield 25, 3) := by decide +kernel
theorem dX3_init_49 : decode cX3_init 49 = .ok (.aload_n 0, 1) := by decide +kernel
theorem dX3_init_50 : decode cX3_init 50 = .ok (.aload_n 1, 1) := by decide +kernel
theorem dX3_init_51 : decode cX3_init 51 = .ok (.putfield 28, 3) := by decide +kernel
theorem dX3_init_54 : decode cX3_init 54 = .ok (.aload_n 0, 1) := by decide +kernel
theorem dX3_init_55 : decode cX3_init 55 = .ok (.aload_n 2, 1) := by decide +kernel
theorem dX3_init_56 : decode cX3_init 56 = .ok (.putfield 32, 3) := by decide +kernel
theorem dX3_init_59 : decode cX3_init 59 = .ok (.return_, 1) := by decide +kernel
theorem dX1_init_0 : decode cX1_init 0 = .ok (.aload_n 0, 1) := by decide +kernel
theorem dX1_init_1 : decode cX1_init 1 = .ok (.invokespecial 3, 3) := by decide +kernel
theorem dX1_init_4 : decode cX1_init 4 = .ok (.aload_n 0, 1) := by decide +kernel
theorem dX1_init_5 : decode cX1_init 5 = .ok (.bipush 28, 2) := by decide +kernel
theorem dX1_init_7 : decode cX1_init 7 = .ok (.newarray .long, 2) := by decide +kernel
theorem dX1_init_9 : decode cX1_init 9 = .ok (.putfield 11, 3) := by decide +kernel
theorem dX1_init_12 : decode cX1_init 12 = .ok (.aload_n 0, 1) := by decide +kernel
theorem dX1_init_13 : decode cX1_init 13 = .ok (.bipush 28, 2) := by decide +kernel
theorem dX1_init_15 : decode cX1_init 15 = .ok (.newarray .int, 2) := by decide +kernel
theorem dX1_init_17 : decode cX1_init 17 = .ok (.putfield 15, 3) := by decide +kernel
theorem dX1_init_20 : decode cX1_init 20 = .ok (.aload_n 0, 1) := by decide +kernel
theorem dX1_init_21 : decode cX1_init 21 = .ok (.bipush 16, 2) := by decide +kernel
theorem dX1_init_23 : decode cX1_init 23 = .ok (.putfield 19, 3) := by decide +kernel
theorem dX1_init_26 : decode cX1_init 26 = .ok (.aload_n 0, 1) := by decide +kernel
theorem dX1_init_27 : decode cX1_init 27 = .ok (.aload_n 1, 1) := by decide +kernel
theorem dX1_init_28 : decode cX1_init 28 = .ok (.putfield 23, 3) := by decide +kernel
theorem dX1_init_31 : decode cX1_init 31 = .ok (.return_, 1) := by decide +kernel
theorem dX2_init_0 : decode cX2_init 0 = .ok (.aload_n 0, 1) := by decide +kernel
theorem dX2_init_1 : decode cX2_init 1 = .ok (.invokespecial 3, 3) := by decide +kernel
theorem dX2_init_4 : decode cX2_init 4 = .ok (.aload_n 0, 1) := by decide +kernel
theorem dX2_init_5 : decode cX2_init 5 = .ok (.aload_n 1, 1) := by decide +kernel
theorem dX2_init_6 : decode cX2_init 6 = .ok (.putfield 9, 3) := by decide +kernel
theorem dX2_init_9 : decode cX2_init 9 = .ok (.iload_n 2, 1) := by decide +kernel
theorem dX2_init_10 : decode cX2_init 10 = .ok (.iconst 2, 1) := by decide +kernel
theorem dX2_init_11 : decode cX2_init 11 = .ok (.idiv, 1) := by decide +kernel
theorem dX2_init_12 : decode cX2_init 12 = .ok (.istore_n 3, 1) := by decide +kernel
theorem dX2_init_13 : decode cX2_init 13 = .ok (.aload_n 0, 1) := by decide +kernel
theorem dX2_init_14 : decode cX2_init 14 = .ok (.iload_n 2, 1) := by decide +kernel
theorem dX2_init_15 : decode cX2_init 15 = .ok (.newarray .int, 2) := by decide +kernel
theorem dX2_init_17 : decode cX2_init 17 = .ok (.putfield 15, 3) := by decide +kernel
theorem dX2_init_20 : decode cX2_init 20 = .ok (.aload_n 0, 1) := by decide +kernel
theorem dX2_init_21 : decode cX2_init 21 = .ok (.iload_n 3, 1) := by decide +kernel
theorem dX2_init_22 : decode cX2_init 22 = .ok (.iconst 1, 1) := by decide +kernel
theorem dX2_init_23 : decode cX2_init 23 = .ok (.iadd, 1) := by decide +kernel
theorem dX2_init_24 : decode cX2_init 24 = .ok (.newarray .int, 2) := by decide +kernel
theorem dX2_init_26 : decode cX2_init 26 = .ok (.putfield 19, 3) := by decide +kernel
theorem dX2_init_29 : decode cX2_init 29 = .ok (.aload_n 0, 1) := by decide +kernel
theorem dX2_init_30 : decode cX2_init 30 = .ok (.iload_n 3, 1) := by decide +kernel
theorem dX2_init_31 : decode cX2_init 31 = .ok (.iconst 1, 1) := by decide +kernel
theorem dX2_init_32 : decode cX2_init 32 = .ok (.iadd, 1) := by decide +kernel
theorem dX2_init_33 : decode cX2_init 33 = .ok (.newarray .int, 2) := by decide +kernel
theorem dX2_init_35 : decode cX2_init 35 = .ok (.putfield 22, 3) := by decide +kernel
theorem dX2_init_38 : decode cX2_init 38 = .ok (.aload_n 0, 1) := by decide +kernel
theorem dX2_init_39 : decode cX2_init 39 = .ok (.iload_n 3, 1) := by decide +kernel
theorem dX2_init_40 : decode cX2_init 40 = .ok (.iconst 1, 1) := by decide +kernel
theorem dX2_init_41 : decode cX2_init 41 = .ok (.iadd, 1) := by decide +kernel
theorem dX2_init_42 : decode cX2_init 42 = .ok (.newarray .int, 2) := by decide +kernel
theorem dX2_init_44 : decode cX2_init 44 = .ok (.putfield 25, 3) := by decide +kernel
theorem dX2_init_47 : decode cX2_init 47 = .ok (.aload_n 0, 1) := by decide +kernel
theorem dX2_init_48 : decode cX2_init 48 = .ok (.iload_n 3, 1) := by decide +kernel
theorem dX2_init_49 : decode cX2_init 49 = .ok (.newarray .int, 2) := by decide +kernel
theorem dX2_init_51 : decode cX2_init 51 = .ok (.putfield 28, 3) := by decide +kernel
theorem dX2_init_54 : decode cX2_init 54 = .ok (.aload_n 0, 1) := by decide +kernel
theorem dX2_init_55 : decode cX2_init 55 = .ok (.iload_n 3, 1) := by decide +kernel
theorem dX2_init_56 : decode cX2_init 56 = .ok (.newarray .int, 2) := by decide +kernel
theorem dX2_init_58 : decode cX2_init 58 = .ok (.putfield 31, 3) := by decide +kernel
theorem dX2_init_61 : decode cX2_init 61 = .ok (.iconst 0, 1) := by decide +kernel
theorem dX2_init_62 : decode cX2_init 62 = .ok (.istore 4, 2) := by decide +kernel
theorem dX2_init_64 : decode cX2_init 64 = .ok (.iload 4, 2) := by decide +kernel
theorem dX2_init_66 : decode cX2_init 66 = .ok (.iload_n 3, 1) := by decide +kernel
theorem dX2_init_67 : decode cX2_init 67 = .ok (.if_icmp .ge 20, 3) := by decide +kernel
theorem dX2_init_70 : decode cX2_init 70 = .ok (.aload_n 0, 1) := by decide +kernel
theorem dX2_init_71 : decode cX2_init 71 = .ok (.getfield 28, 3) := by decide +kernel
theorem dX2_init_74 : decode cX2_init 74 = .ok (.iload 4, 2) := by decide +kernel
theorem dX2_init_76 : decode cX2_init 76 = .ok (.iload 4, 2) := by decide +kernel
theorem dX2_init_78 : decode cX2_init 78 = .ok (.iconst 1, 1) := by decide +kernel
theorem dX2_init_79 : decode cX2_init 79 = .ok (.iadd, 1) := by decide +kernel
theorem dX2_init_80 : decode cX2_init 80 = .ok (.iastore, 1) := by decide +kernel
theorem dX2_init_81 : decode cX2_init 81 = .ok (.iinc 4 1, 3) := by decide +kernel
theorem dX2_init_84 : decode cX2_init 84 = .ok (.goto (-20), 3) := by decide +kernel
theorem dX2_init_87 : decode cX2_init 87 = .ok (.return_, 1) := by decide +kernel
theorem dX8_argumentsIn_0 : decode cX8_argumentsIn 0 = .ok (.iconst 0, 1) := by decide +kernel
theorem dX8_argumentsIn_1 : decode cX8_argumentsIn 1 = .ok (.istore_n 1, 1) := by decide +kernel
theorem dX8_argumentsIn_2 : decode cX8_argumentsIn 2 = .ok (.iload_n 1, 1) := by decide +kernel
theorem dX8_argumentsIn_3 : decode cX8_argumentsIn 3 = .ok (.iconst 4, 1) := by decide +kernel
theorem dX8_argumentsIn_4 : decode cX8_argumentsIn 4 = .ok (.if_icmp .ge 19, 3) := by decide +kernel
theorem dX8_argumentsIn_7 : decode cX8_argumentsIn 7 = .ok (.iload_n 0, 1) := by decide +kernel
theorem dX8_argumentsIn_8 : decode cX8_argumentsIn 8 = .ok (.iconst 2, 1) := by decide +kernel
theorem dX8_argumentsIn_9 : decode cX8_argumentsIn 9 = .ok (.iload_n 1, 1) := by decide +kernel
theorem dX8_argumentsIn_10 : decode cX8_argumentsIn 10 = .ok (.imul, 1) := by decide +kernel
theorem dX8_argumentsIn_11 : decode cX8_argumentsIn 11 = .ok (.ishr, 1) := by decide +kernel
theorem dX8_argumentsIn_12 : decode cX8_argumentsIn 12 = .ok (.iconst 3, 1) := by decide +kernel
theorem dX8_argumentsIn_13 : decode cX8_argumentsIn 13 = .ok (.iand, 1) := by decide +kernel
theorem dX8_argumentsIn_14 : decode cX8_argumentsIn 14 = .ok (.ifCond .eq 9, 3) := by decide +kernel
theorem dX8_argumentsIn_17 : decode cX8_argumentsIn 17 = .ok (.iinc 1 1, 3) := by decide +kernel
theorem dX8_argumentsIn_20 : decode cX8_argumentsIn 20 = .ok (.goto (-18), 3) := by decide +kernel
theorem dX8_argumentsIn_23 : decode cX8_argumentsIn 23 = .ok (.iload_n 1, 1) := by decide +kernel
theorem dX8_argumentsIn_24 : decode cX8_argumentsIn 24 = .ok (.ireturn, 1) := by decide +kernel
theorem dX6_init_0 : decode cX6_init 0 = .ok (.aload_n 0, 1) := by decide +kernel
theorem dX6_init_1 : decode cX6_init 1 = .ok (.invokespecial 3, 3) := by decide +kernel
theorem dX6_init_4 : decode cX6_init 4 = .ok (.aload_n 0, 1) := by decide +kernel
theorem dX6_init_5 : decode cX6_init 5 = .ok (.aload_n 1, 1) := by decide +kernel
theorem dX6_init_6 : decode cX6_init 6 = .ok (.putfield 9, 3) := by decide +kernel
theorem dX6_init_9 : decode cX6_init 9 = .ok (.aload_n 0, 1) := by decide +kernel
theorem dX6_init_10 : decode cX6_init 10 = .ok (.aload_n 2, 1) := by decide +kernel
theorem dX6_init_11 : decode cX6_init 11 = .ok (.putfield 15, 3) := by decide +kernel
theorem dX6_init_14 : decode cX6_init 14 = .ok (.aload_n 0, 1) := by decide +kernel
theorem dX6_init_15 : decode cX6_init 15 = .ok (.iload_n 3, 1) := by decide +kernel
theorem dX6_init_16 : decode cX6_init 16 = .ok (.invokestatic 19, 3) := by decide +kernel
theorem dX6_init_19 : decode cX6_init 19 = .ok (.putfield 23, 3) := by decide +kernel
theorem dX6_init_22 : decode cX6_init 22 = .ok (.aload_n 0, 1) := by decide +kernel
theorem dX6_init_23 : decode cX6_init 23 = .ok (.iload_n 3, 1) := by decide +kernel
theorem dX6_init_24 : decode cX6_init 24 = .ok (.iconst 1, 1) := by decide +kernel
theorem dX6_init_25 : decode cX6_init 25 = .ok (.iconst 2, 1) := by decide +kernel
theorem dX6_init_26 : decode cX6_init 26 = .ok (.aload_n 0, 1) := by decide +kernel
theorem dX6_init_27 : decode cX6_init 27 = .ok (.getfield 23, 3) := by decide +kernel
theorem dX6_init_30 : decode cX6_init 30 = .ok (.imul, 1) := by decide +kernel
theorem dX6_init_31 : decode cX6_init 31 = .ok (.ishl, 1) := by decide +kernel
theorem dX6_init_32 : decode cX6_init 32 = .ok (.iconst 1, 1) := by decide +kernel
theorem dX6_init_33 : decode cX6_init 33 = .ok (.isub, 1) := by decide +kernel
theorem dX6_init_34 : decode cX6_init 34 = .ok (.iand, 1) := by decide +kernel
theorem dX6_init_35 : decode cX6_init 35 = .ok (.putfield 27, 3) := by decide +kernel
theorem dX6_init_38 : decode cX6_init 38 = .ok (.aload_n 0, 1) := by decide +kernel
theorem dX6_init_39 : decode cX6_init 39 = .ok (.iload 4, 2) := by decide +kernel
theorem dX6_init_41 : decode cX6_init 41 = .ok (.putfield 30, 3) := by decide +kernel
theorem dX6_init_44 : decode cX6_init 44 = .ok (.aload_n 0, 1) := by decide +kernel
theorem dX6_init_45 : decode cX6_init 45 = .ok (.iload 5, 2) := by decide +kernel
theorem dX6_init_47 : decode cX6_init 47 = .ok (.putfield 33, 3) := by decide +kernel
theorem dX6_init_50 : decode cX6_init 50 = .ok (.aload_n 0, 1) := by decide +kernel
theorem dX6_init_51 : decode cX6_init 51 = .ok (.iload 6, 2) := by decide +kernel
theorem dX6_init_53 : decode cX6_init 53 = .ok (.putfield 36, 3) := by decide +kernel
theorem dX6_init_56 : decode cX6_init 56 = .ok (.return_, 1) := by decide +kernel
theorem dX4_init_0 : decode cX4_init 0 = .ok (.aload_n 0, 1) := by decide +kernel
theorem dX4_init_1 : decode cX4_init 1 = .ok (.invokespecial 3, 3) := by decide +kernel
theorem dX4_init_4 : decode cX4_init 4 = .ok (.aload_n 0, 1) := by decide +kernel
theorem dX4_init_5 : decode cX4_init 5 = .ok (.aload_n 1, 1) := by decide +kernel
theorem dX4_init_6 : decode cX4_init 6 = .ok (.putfield 9, 3) := by decide +kernel
theorem dX4_init_9 : decode cX4_init 9 = .ok (.aload_n 0, 1) := by decide +kernel
theorem dX4_init_10 : decode cX4_init 10 = .ok (.aload_n 2, 1) := by decide +kernel
theorem dX4_init_11 : decode cX4_init 11 = .ok (.putfield 15, 3) := by decide +kernel
theorem dX4_init_14 : decode cX4_init 14 = .ok (.aload_n 0, 1) := by decide +kernel
theorem dX4_init_15 : decode cX4_init 15 = .ok (.iload_n 3, 1) := by decide +kernel
theorem dX4_init_16 : decode cX4_init 16 = .ok (.putfield 19, 3) := by decide +kernel
theorem dX4_init_19 : decode cX4_init 19 = .ok (.aload_n 0, 1) := by decide +kernel
theorem dX4_init_20 : decode cX4_init 20 = .ok (.new 23, 3) := by decide +kernel
theorem dX4_init_23 : decode cX4_init 23 = .ok (.dup, 1) := by decide +kernel
theorem dX4_init_24 : decode cX4_init 24 = .ok (.aload_n 1, 1) := by decide +kernel
theorem dX4_init_25 : decode cX4_init 25 = .ok (.iload_n 3, 1) := by decide +kernel
theorem dX4_init_26 : decode cX4_init 26 = .ok (.invokespecial 25, 3) := by decide +kernel
theorem dX4_init_29 : decode cX4_init 29 = .ok (.putfield 28, 3) := by decide +kernel
theorem dX4_init_32 : decode cX4_init 32 = .ok (.aload_n 0, 1) := by decide +kernel
theorem dX4_init_33 : decode cX4_init 33 = .ok (.bipush 16, 2) := by decide +kernel
theorem dX4_init_35 : decode cX4_init 35 = .ok (.anewarray 32, 3) := by decide +kernel
theorem dX4_init_38 : decode cX4_init 38 = .ok (.putfield 34, 3) := by decide +kernel
theorem dX4_init_41 : decode cX4_init 41 = .ok (.new 38, 3) := by decide +kernel
theorem dX4_init_44 : decode cX4_init 44 = .ok (.dup, 1) := by decide +kernel
theorem dX4_init_45 : decode cX4_init 45 = .ok (.iconst 0, 1) := by decide +kernel
theorem dX4_init_46 : decode cX4_init 46 = .ok (.newarray .byte, 2) := by decide +kernel
theorem dX4_init_48 : decode cX4_init 48 = .ok (.iconst 0, 1) := by decide +kernel
theorem dX4_init_49 : decode cX4_init 49 = .ok (.newarray .int, 2) := by decide +kernel
theorem dX4_init_51 : decode cX4_init 51 = .ok (.iconst 0, 1) := by decide +kernel
theorem dX4_init_52 : decode cX4_init 52 = .ok (.iconst 0, 1) := by decide +kernel
theorem dX4_init_53 : decode cX4_init 53 = .ok (.iconst 0, 1) := by decide +kernel
theorem dX4_init_54 : decode cX4_init 54 = .ok (.iconst 0, 1) := by decide +kernel
theorem dX4_init_55 : decode cX4_init 55 = .ok (.invokespecial 40, 3) := by decide +kernel
theorem dX4_init_58 : decode cX4_init 58 = .ok (.astore 4, 2) := by decide +kernel
theorem dX4_init_60 : decode cX4_init 60 = .ok (.iconst 0, 1) := by decide +kernel
theorem dX4_init_61 : decode cX4_init 61 = .ok (.istore 5, 2) := by decide +kernel
theorem dX4_init_63 : decode cX4_init 63 = .ok (.iload 5, 2) := by decide +kernel
theorem dX4_init_65 : decode cX4_init 65 = .ok (.bipush 16, 2) := by decide +kernel
theorem dX4_init_67 : decode cX4_init 67 = .ok (.if_icmp .ge 25, 3) := by decide +kernel
theorem dX4_init_70 : decode cX4_init 70 = .ok (.aload_n 0, 1) := by decide +kernel
theorem dX4_init_71 : decode cX4_init 71 = .ok (.getfield 34, 3) := by decide +kernel
theorem dX4_init_74 : decode cX4_init 74 = .ok (.iload 5, 2) := by decide +kernel
theorem dX4_init_76 : decode cX4_init 76 = .ok (.new 32, 3) := by decide +kernel
theorem dX4_init_79 : decode cX4_init 79 = .ok (.dup, 1) := by decide +kernel
theorem dX4_init_80 : decode cX4_init 80 = .ok (.aload 4, 2) := by decide +kernel
theorem dX4_init_82 : decode cX4_init 82 = .ok (.invokespecial 43, 3) := by decide +kernel
theorem dX4_init_85 : decode cX4_init 85 = .ok (.aastore, 1) := by decide +kernel
theorem dX4_init_86 : decode cX4_init 86 = .ok (.iinc 5 1, 3) := by decide +kernel
theorem dX4_init_89 : decode cX4_init 89 = .ok (.goto (-26), 3) := by decide +kernel
theorem dX4_init_92 : decode cX4_init 92 = .ok (.aload_n 0, 1) := by decide +kernel
theorem dX4_init_93 : decode cX4_init 93 = .ok (.aload_n 0, 1) := by decide +kernel
theorem dX4_init_94 : decode cX4_init 94 = .ok (.getfield 34, 3) := by decide +kernel
theorem dX4_init_97 : decode cX4_init 97 = .ok (.iconst 0, 1) := by decide +kernel
theorem dX4_init_98 : decode cX4_init 98 = .ok (.aaload, 1) := by decide +kernel
theorem dX4_init_99 : decode cX4_init 99 = .ok (.putfield 46, 3) := by decide +kernel
theorem dX4_init_102 : decode cX4_init 102 = .ok (.return_, 1) := by decide +kernel
theorem dX7_init_0 : decode cX7_init 0 = .ok (.aload_n 0, 1) := by decide +kernel
theorem dX7_init_1 : decode cX7_init 1 = .ok (.invokespecial 3, 3) := by decide +kernel
theorem dX7_init_4 : decode cX7_init 4 = .ok (.aload_n 0, 1) := by decide +kernel
theorem dX7_init_5 : decode cX7_init 5 = .ok (.bipush 30, 2) := by decide +kernel
theorem dX7_init_7 : decode cX7_init 7 = .ok (.newarray .int, 2) := by decide +kernel
theorem dX7_init_9 : decode cX7_init 9 = .ok (.putfield 9, 3) := by decide +kernel
theorem dX7_init_12 : decode cX7_init 12 = .ok (.aload_n 0, 1) := by decide +kernel
theorem dX7_init_13 : decode cX7_init 13 = .ok (.bipush 30, 2) := by decide +kernel
theorem dX7_init_15 : decode cX7_init 15 = .ok (.newarray .int, 2) := by decide +kernel
theorem dX7_init_17 : decode cX7_init 17 = .ok (.putfield 15, 3) := by decide +kernel
theorem dX7_init_20 : decode cX7_init 20 = .ok (.aload_n 0, 1) := by decide +kernel
theorem dX7_init_21 : decode cX7_init 21 = .ok (.bipush 30, 2) := by decide +kernel
theorem dX7_init_23 : decode cX7_init 23 = .ok (.newarray .int, 2) := by decide +kernel
theorem dX7_init_25 : decode cX7_init 25 = .ok (.putfield 18, 3) := by decide +kernel
theorem dX7_init_28 : decode cX7_init 28 = .ok (.iconst 0, 1) := by decide +kernel
theorem dX7_init_29 : decode cX7_init 29 = .ok (.istore_n 1, 1) := by decide +kernel
theorem dX7_init_30 : decode cX7_init 30 = .ok (.iload_n 1, 1) := by decide +kernel
theorem dX7_init_31 : decode cX7_init 31 = .ok (.bipush 6, 2) := by decide +kernel
theorem dX7_init_33 : decode cX7_init 33 = .ok (.if_icmp .gt 20, 3) := by decide +kernel
theorem dX7_init_36 : decode cX7_init 36 = .ok (.aload_n 0, 1) := by decide +kernel
theorem dX7_init_37 : decode cX7_init 37 = .ok (.getfield 9, 3) := by decide +kernel
theorem dX7_init_40 : decode cX7_init 40 = .ok (.iload_n 1, 1) := by decide +kernel
theorem dX7_init_41 : decode cX7_init 41 = .ok (.iconst 1, 1) := by decide +kernel
theorem dX7_init_42 : decode cX7_init 42 = .ok (.iconst 1, 1) := by decide +kernel
theorem dX7_init_43 : decode cX7_init 43 = .ok (.iload_n 1, 1) := by decide +kernel
theorem dX7_init_44 : decode cX7_init 44 = .ok (.ishl, 1) := by decide +kernel
theorem dX7_init_45 : decode cX7_init 45 = .ok (.ior, 1) := by decide +kernel
theorem dX7_init_46 : decode cX7_init 46 = .ok (.iastore, 1) := by decide +kernel
theorem dX7_init_47 : decode cX7_init 47 = .ok (.iinc 1 1, 3) := by decide +kernel
theorem dX7_init_50 : decode cX7_init 50 = .ok (.goto (-20), 3) := by decide +kernel
theorem dX7_init_53 : decode cX7_init 53 = .ok (.aload_n 0, 1) := by decide +kernel
theorem dX7_init_54 : decode cX7_init 54 = .ok (.bipush 7, 2) := by decide +kernel
theorem dX7_init_56 : decode cX7_init 56 = .ok (.putfield 21, 3) := by decide +kernel
theorem dX7_init_59 : decode cX7_init 59 = .ok (.return_, 1) := by decide +kernel
theorem dX8_init_0 : decode cX8_init 0 = .ok (.aload_n 0, 1) := by decide +kernel
theorem dX8_init_1 : decode cX8_init 1 = .ok (.invokespecial 1, 3) := by decide +kernel
theorem dX8_init_4 : decode cX8_init 4 = .ok (.aload_n 0, 1) := by decide +kernel
theorem dX8_init_5 : decode cX8_init 5 = .ok (.new 7, 3) := by decide +kernel
theorem dX8_init_8 : decode cX8_init 8 = .ok (.dup, 1) := by decide +kernel
theorem dX8_init_9 : decode cX8_init 9 = .ok (.invokespecial 9, 3) := by decide +kernel
theorem dX8_init_12 : decode cX8_init 12 = .ok (.putfield 10, 3) := by decide +kernel
theorem dX8_init_15 : decode cX8_init 15 = .ok (.aload_n 0, 1) := by decide +kernel
theorem dX8_init_16 : decode cX8_init 16 = .ok (.new 16, 3) := by decide +kernel
theorem dX8_init_19 : decode cX8_init 19 = .ok (.dup, 1) := by decide +kernel
theorem dX8_init_20 : decode cX8_init 20 = .ok (.invokespecial 18, 3) := by decide +kernel
theorem dX8_init_23 : decode cX8_init 23 = .ok (.putfield 19, 3) := by decide +kernel
theorem dX8_init_26 : decode cX8_init 26 = .ok (.aload_n 0, 1) := by decide +kernel
theorem dX8_init_27 : decode cX8_init 27 = .ok (.new 23, 3) := by decide +kernel
theorem dX8_init_30 : decode cX8_init 30 = .ok (.dup, 1) := by decide +kernel
theorem dX8_init_31 : decode cX8_init 31 = .ok (.invokespecial 25, 3) := by decide +kernel
theorem dX8_init_34 : decode cX8_init 34 = .ok (.putfield 26, 3) := by decide +kernel
theorem dX8_init_37 : decode cX8_init 37 = .ok (.aload_n 0, 1) := by decide +kernel
theorem dX8_init_38 : decode cX8_init 38 = .ok (.new 30, 3) := by decide +kernel
theorem dX8_init_41 : decode cX8_init 41 = .ok (.dup, 1) := by decide +kernel
theorem dX8_init_42 : decode cX8_init 42 = .ok (.aload_n 0, 1) := by decide +kernel
theorem dX8_init_43 : decode cX8_init 43 = .ok (.getfield 10, 3) := by decide +kernel
theorem dX8_init_46 : decode cX8_init 46 = .ok (.aload_n 0, 1) := by decide +kernel
theorem dX8_init_47 : decode cX8_init 47 = .ok (.getfield 26, 3) := by decide +kernel
theorem dX8_init_50 : decode cX8_init 50 = .ok (.invokespecial 32, 3) := by decide +kernel
theorem dX8_init_53 : decode cX8_init 53 = .ok (.putfield 35, 3) := by decide +kernel
theorem dX8_init_56 : decode cX8_init 56 = .ok (.aload_n 0, 1) := by decide +kernel
theorem dX8_init_57 : decode cX8_init 57 = .ok (.new 39, 3) := by decide +kernel
theorem dX8_init_60 : decode cX8_init 60 = .ok (.dup, 1) := by decide +kernel
theorem dX8_init_61 : decode cX8_init 61 = .ok (.aload_n 0, 1) := by decide +kernel
theorem dX8_init_62 : decode cX8_init 62 = .ok (.getfield 10, 3) := by decide +kernel
theorem dX8_init_65 : decode cX8_init 65 = .ok (.aload_n 0, 1) := by decide +kernel
theorem dX8_init_66 : decode cX8_init 66 = .ok (.getfield 26, 3) := by decide +kernel
theorem dX8_init_69 : decode cX8_init 69 = .ok (.bipush 16, 2) := by decide +kernel
theorem dX8_init_71 : decode cX8_init 71 = .ok (.sipush 400, 3) := by decide +kernel
theorem dX8_init_74 : decode cX8_init 74 = .ok (.iload_n 1, 1) := by decide +kernel
theorem dX8_init_75 : decode cX8_init 75 = .ok (.invokestatic 41, 3) := by decide +kernel
theorem dX8_init_78 : decode cX8_init 78 = .ok (.invokestatic 47, 3) := by decide +kernel
theorem dX8_init_81 : decode cX8_init 81 = .ok (.invokespecial 50, 3) := by decide +kernel
theorem dX8_init_84 : decode cX8_init 84 = .ok (.putfield 53, 3) := by decide +kernel
theorem dX8_init_87 : decode cX8_init 87 = .ok (.return_, 1) := by decide +kernel
theorem dX0_append_0 : decode cX0_append 0 = .ok (.iconst 4, 1) := by decide +kernel
theorem dX0_append_1 : decode cX0_append 1 = .ok (.iload_n 2, 1) := by decide +kernel
theorem dX0_append_2 : decode cX0_append 2 = .ok (.invokestatic 21, 3) := by decide +kernel
theorem dX0_append_5 : decode cX0_append 5 = .ok (.istore_n 3, 1) := by decide +kernel
theorem dX0_append_6 : decode cX0_append 6 = .ok (.iconst 0, 1) := by decide +kernel
theorem dX0_append_7 : decode cX0_append 7 = .ok (.istore 4, 2) := by decide +kernel
theorem dX0_append_9 : decode cX0_append 9 = .ok (.iload 4, 2) := by decide +kernel
theorem dX0_append_11 : decode cX0_append 11 = .ok (.iload_n 3, 1) := by decide +kernel
theorem dX0_append_12 : decode cX0_append 12 = .ok (.if_icmp .ge 39, 3) := by decide +kernel
theorem dX0_append_15 : decode cX0_append 15 = .ok (.aload_n 0, 1) := by decide +kernel
theorem dX0_append_16 : decode cX0_append 16 = .ok (.getfield 9, 3) := by decide +kernel
theorem dX0_append_19 : decode cX0_append 19 = .ok (.aload_n 0, 1) := by decide +kernel
theorem dX0_append_20 : decode cX0_append 20 = .ok (.getfield 27, 3) := by decide +kernel
theorem dX0_append_23 : decode cX0_append 23 = .ok (.iload_n 1, 1) := by decide +kernel
theorem dX0_append_24 : decode cX0_append 24 = .ok (.bipush 24, 2) := by decide +kernel
theorem dX0_append_26 : decode cX0_append 26 = .ok (.bipush 8, 2) := by decide +kernel
theorem dX0_append_28 : decode cX0_append 28 = .ok (.iload 4, 2) := by decide +kernel
theorem dX0_append_30 : decode cX0_append 30 = .ok (.imul, 1) := by decide +kernel
theorem dX0_append_31 : decode cX0_append 31 = .ok (.isub, 1) := by decide +kernel
theorem dX0_append_32 : decode cX0_append 32 = .ok (.ishr, 1) := by decide +kernel
theorem dX0_append_33 : decode cX0_append 33 = .ok (.i2b, 1) := by decide +kernel
theorem dX0_append_34 : decode cX0_append 34 = .ok (.bastore, 1) := by decide +kernel
theorem dX0_append_35 : decode cX0_append 35 = .ok (.aload_n 0, 1) := by decide +kernel
theorem dX0_append_36 : decode cX0_append 36 = .ok (.dup, 1) := by decide +kernel
theorem dX0_append_37 : decode cX0_append 37 = .ok (.getfield 27, 3) := by decide +kernel
theorem dX0_append_40 : decode cX0_append 40 = .ok (.iconst 1, 1) := by decide +kernel
theorem dX0_append_41 : decode cX0_append 41 = .ok (.iadd, 1) := by decide +kernel
theorem dX0_append_42 : decode cX0_append 42 = .ok (.putfield 27, 3) := by decide +kernel
theorem dX0_append_45 : decode cX0_append 45 = .ok (.iinc 4 1, 3) := by decide +kernel
theorem dX0_append_48 : decode cX0_append 48 = .ok (.goto (-39), 3) := by decide +kernel
theorem dX0_append_51 : decode cX0_append 51 = .ok (.return_, 1) := by decide +kernel
theorem dX8_feed_0 : decode cX8_feed 0 = .ok (.iload 6, 2) := by decide +kernel
theorem dX8_feed_2 : decode cX8_feed 2 = .ok (.iconst 1, 1) := by decide +kernel
theorem dX8_feed_3 : decode cX8_feed 3 = .ok (.if_icmp .lt 10, 3) := by decide +kernel
theorem dX8_feed_6 : decode cX8_feed 6 = .ok (.iload 6, 2) := by decide +kernel
theorem dX8_feed_8 : decode cX8_feed 8 = .ok (.bipush 20, 2) := by decide +kernel
theorem dX8_feed_10 : decode cX8_feed 10 = .ok (.if_icmp .le 13, 3) := by decide +kernel
theorem dX8_feed_16 : decode cX8_feed 16 = .ok (.dup, 1) := by decide +kernel
theorem dX8_feed_17 : decode cX8_feed 17 = .ok (.ldc 59, 2) := by decide +kernel
theorem dX8_feed_19 : decode cX8_feed 19 = .ok (.invokespecial 61, 3) := by decide +kernel
theorem dX8_feed_22 : decode cX8_feed 22 = .ok (.athrow, 1) := by decide +kernel
theorem dX8_feed_13 : decode cX8_feed 13 = .ok (.new 57, 3) := by decide +kernel
theorem dX8_feed_23 : decode cX8_feed 23 = .ok (.aload_n 0, 1) := by decide +kernel
theorem dX8_feed_24 : decode cX8_feed 24 = .ok (.getfield 19, 3) := by decide +kernel
theorem dX8_feed_27 : decode cX8_feed 27 = .ok (.getfield 64, 3) := by decide +kernel
theorem dX8_feed_30 : decode cX8_feed 30 = .ok (.iload 6, 2) := by decide +kernel
theorem dX8_feed_32 : decode cX8_feed 32 = .ok (.iadd, 1) := by decide +kernel
theorem dX8_feed_33 : decode cX8_feed 33 = .ok (.sipush 200, 3) := by decide +kernel
theorem dX8_feed_36 : decode cX8_feed 36 = .ok (.if_icmp .le 13, 3) := by decide +kernel
theorem dX8_feed_42 : decode cX8_feed 42 = .ok (.dup, 1) := by decide +kernel
theorem dX8_feed_43 : decode cX8_feed 43 = .ok (.ldc 70, 2) := by decide +kernel
theorem dX8_feed_45 : decode cX8_feed 45 = .ok (.invokespecial 72, 3) := by decide +kernel
theorem dX8_feed_48 : decode cX8_feed 48 = .ok (.athrow, 1) := by decide +kernel
theorem dX8_feed_39 : decode cX8_feed 39 = .ok (.new 68, 3) := by decide +kernel
theorem dX8_feed_49 : decode cX8_feed 49 = .ok (.aload_n 0, 1) := by decide +kernel
theorem dX8_feed_50 : decode cX8_feed 50 = .ok (.getfield 19, 3) := by decide +kernel
theorem dX8_feed_53 : decode cX8_feed 53 = .ok (.iload_n 1, 1) := by decide +kernel
theorem dX8_feed_54 : decode cX8_feed 54 = .ok (.iload 6, 2) := by decide +kernel
theorem dX8_feed_56 : decode cX8_feed 56 = .ok (.invokevirtual 73, 3) := by decide +kernel
theorem dX8_feed_59 : decode cX8_feed 59 = .ok (.aload_n 0, 1) := by decide +kernel
theorem dX8_feed_60 : decode cX8_feed 60 = .ok (.getfield 19, 3) := by decide +kernel
theorem dX8_feed_63 : decode cX8_feed 63 = .ok (.iload_n 2, 1) := by decide +kernel
theorem dX8_feed_64 : decode cX8_feed 64 = .ok (.iload 6, 2) := by decide +kernel
theorem dX8_feed_66 : decode cX8_feed 66 = .ok (.iconst 4, 1) := by decide +kernel
theorem dX8_feed_67 : decode cX8_feed 67 = .ok (.isub, 1) := by decide +kernel
theorem dX8_feed_68 : decode cX8_feed 68 = .ok (.invokevirtual 73, 3) := by decide +kernel
theorem dX8_feed_71 : decode cX8_feed 71 = .ok (.aload_n 0, 1) := by decide +kernel
theorem dX8_feed_72 : decode cX8_feed 72 = .ok (.getfield 19, 3) := by decide +kernel
theorem dX8_feed_75 : decode cX8_feed 75 = .ok (.iload_n 3, 1) := by decide +kernel
theorem dX8_feed_76 : decode cX8_feed 76 = .ok (.iload 6, 2) := by decide +kernel
theorem dX8_feed_78 : decode cX8_feed 78 = .ok (.bipush 8, 2) := by decide +kernel
theorem dX8_feed_80 : decode cX8_feed 80 = .ok (.isub, 1) := by decide +kernel
theorem dX8_feed_81 : decode cX8_feed 81 = .ok (.invokevirtual 73, 3) := by decide +kernel
theorem dX8_feed_84 : decode cX8_feed 84 = .ok (.aload_n 0, 1) := by decide +kernel
theorem dX8_feed_85 : decode cX8_feed 85 = .ok (.getfield 19, 3) := by decide +kernel
theorem dX8_feed_88 : decode cX8_feed 88 = .ok (.iload 4, 2) := by decide +kernel
theorem dX8_feed_90 : decode cX8_feed 90 = .ok (.iload 6, 2) := by decide +kernel
theorem dX8_feed_92 : decode cX8_feed 92 = .ok (.bipush 12, 2) := by decide +kernel
theorem dX8_feed_94 : decode cX8_feed 94 = .ok (.isub, 1) := by decide +kernel
theorem dX8_feed_95 : decode cX8_feed 95 = .ok (.invokevirtual 73, 3) := by decide +kernel
theorem dX8_feed_98 : decode cX8_feed 98 = .ok (.aload_n 0, 1) := by decide +kernel
theorem dX8_feed_99 : decode cX8_feed 99 = .ok (.getfield 19, 3) := by decide +kernel
theorem dX8_feed_102 : decode cX8_feed 102 = .ok (.iload 5, 2) := by decide +kernel
theorem dX8_feed_104 : decode cX8_feed 104 = .ok (.iload 6, 2) := by decide +kernel
theorem dX8_feed_106 : decode cX8_feed 106 = .ok (.bipush 16, 2) := by decide +kernel
theorem dX8_feed_108 : decode cX8_feed 108 = .ok (.isub, 1) := by decide +kernel
theorem dX8_feed_109 : decode cX8_feed 109 = .ok (.invokevirtual 73, 3) := by decide +kernel
theorem dX8_feed_112 : decode cX8_feed 112 = .ok (.aload_n 0, 1) := by decide +kernel
theorem dX8_feed_113 : decode cX8_feed 113 = .ok (.getfield 19, 3) := by decide +kernel
theorem dX8_feed_116 : decode cX8_feed 116 = .ok (.getfield 64, 3) := by decide +kernel
theorem dX8_feed_119 : decode cX8_feed 119 = .ok (.ireturn, 1) := by decide +kernel
theorem dX7_add_0 : decode cX7_add 0 = .ok (.aload_n 0, 1) := by decide +kernel
theorem dX7_add_1 : decode cX7_add 1 = .ok (.getfield 21, 3) := by decide +kernel
theorem dX7_add_4 : decode cX7_add 4 = .ok (.istore 4, 2) := by decide +kernel
theorem dX7_add_6 : decode cX7_add 6 = .ok (.aload_n 0, 1) := by decide +kernel
theorem dX7_add_7 : decode cX7_add 7 = .ok (.getfield 15, 3) := by decide +kernel
theorem dX7_add_10 : decode cX7_add 10 = .ok (.iload_n 1, 1) := by decide +kernel
theorem dX7_add_11 : decode cX7_add 11 = .ok (.iaload, 1) := by decide +kernel
theorem dX7_add_12 : decode cX7_add 12 = .ok (.istore 5, 2) := by decide +kernel
theorem dX7_add_14 : decode cX7_add 14 = .ok (.aload_n 0, 1) := by decide +kernel
theorem dX7_add_15 : decode cX7_add 15 = .ok (.getfield 9, 3) := by decide +kernel
theorem dX7_add_18 : decode cX7_add 18 = .ok (.iload 4, 2) := by decide +kernel
theorem dX7_add_20 : decode cX7_add 20 = .ok (.aload_n 0, 1) := by decide +kernel
theorem dX7_add_21 : decode cX7_add 21 = .ok (.getfield 9, 3) := by decide +kernel
theorem dX7_add_24 : decode cX7_add 24 = .ok (.iload_n 1, 1) := by decide +kernel
theorem dX7_add_25 : decode cX7_add 25 = .ok (.iaload, 1) := by decide +kernel
theorem dX7_add_26 : decode cX7_add 26 = .ok (.iconst 1, 1) := by decide +kernel
theorem dX7_add_27 : decode cX7_add 27 = .ok (.iload 4, 2) := by decide +kernel
theorem dX7_add_29 : decode cX7_add 29 = .ok (.ishl, 1) := by decide +kernel
theorem dX7_add_30 : decode cX7_add 30 = .ok (.ior, 1) := by decide +kernel
theorem dX7_add_31 : decode cX7_add 31 = .ok (.iastore, 1) := by decide +kernel
theorem dX7_add_32 : decode cX7_add 32 = .ok (.aload_n 0, 1) := by decide +kernel
theorem dX7_add_33 : decode cX7_add 33 = .ok (.getfield 15, 3) := by decide +kernel
theorem dX7_add_36 : decode cX7_add 36 = .ok (.iload 4, 2) := by decide +kernel
theorem dX7_add_38 : decode cX7_add 38 = .ok (.iload 5, 2) := by decide +kernel
theorem dX7_add_40 : decode cX7_add 40 = .ok (.iload_n 2, 1) := by decide +kernel
theorem dX7_add_41 : decode cX7_add 41 = .ok (.iadd, 1) := by decide +kernel
theorem dX7_add_42 : decode cX7_add 42 = .ok (.iastore, 1) := by decide +kernel
theorem dX7_add_43 : decode cX7_add 43 = .ok (.aload_n 0, 1) := by decide +kernel
theorem dX7_add_44 : decode cX7_add 44 = .ok (.getfield 18, 3) := by decide +kernel
theorem dX7_add_47 : decode cX7_add 47 = .ok (.iload 4, 2) := by decide +kernel
theorem dX7_add_49 : decode cX7_add 49 = .ok (.aload_n 0, 1) := by decide +kernel
theorem dX7_add_50 : decode cX7_add 50 = .ok (.getfield 18, 3) := by decide +kernel
theorem dX7_add_53 : decode cX7_add 53 = .ok (.iload_n 1, 1) := by decide +kernel
theorem dX7_add_54 : decode cX7_add 54 = .ok (.iaload, 1) := by decide +kernel
theorem dX7_add_55 : decode cX7_add 55 = .ok (.iload_n 3, 1) := by decide +kernel
theorem dX7_add_56 : decode cX7_add 56 = .ok (.iconst 1, 1) := by decide +kernel
theorem dX7_add_57 : decode cX7_add 57 = .ok (.iload_n 2, 1) := by decide +kernel
theorem dX7_add_58 : decode cX7_add 58 = .ok (.ishl, 1) := by decide +kernel
theorem dX7_add_59 : decode cX7_add 59 = .ok (.iconst 1, 1) := by decide +kernel
theorem dX7_add_60 : decode cX7_add 60 = .ok (.isub, 1) := by decide +kernel
theorem dX7_add_61 : decode cX7_add 61 = .ok (.iand, 1) := by decide +kernel
theorem dX7_add_62 : decode cX7_add 62 = .ok (.iload 5, 2) := by decide +kernel
theorem dX7_add_64 : decode cX7_add 64 = .ok (.ishl, 1) := by decide +kernel
theorem dX7_add_65 : decode cX7_add 65 = .ok (.ior, 1) := by decide +kernel
theorem dX7_add_66 : decode cX7_add 66 = .ok (.iastore, 1) := by decide +kernel
theorem dX7_add_67 : decode cX7_add 67 = .ok (.aload_n 0, 1) := by decide +kernel
theorem dX7_add_68 : decode cX7_add 68 = .ok (.dup, 1) := by decide +kernel
theorem dX7_add_69 : decode cX7_add 69 = .ok (.getfield 21, 3) := by decide +kernel
theorem dX7_add_72 : decode cX7_add 72 = .ok (.iconst 1, 1) := by decide +kernel
theorem dX7_add_73 : decode cX7_add 73 = .ok (.iadd, 1) := by decide +kernel
theorem dX7_add_74 : decode cX7_add 74 = .ok (.putfield 21, 3) := by decide +kernel
theorem dX7_add_77 : decode cX7_add 77 = .ok (.iload 4, 2) := by decide +kernel
theorem dX7_add_79 : decode cX7_add 79 = .ok (.ireturn, 1) := by decide +kernel
theorem dX7_has_0 : decode cX7_has 0 = .ok (.iload_n 1, 1) := by decide +kernel
theorem dX7_has_1 : decode cX7_has 1 = .ok (.ifCond .lt 15, 3) := by decide +kernel
theorem dX7_has_4 : decode cX7_has 4 = .ok (.iload_n 1, 1) := by decide +kernel
theorem dX7_has_5 : decode cX7_has 5 = .ok (.aload_n 0, 1) := by decide +kernel
theorem dX7_has_6 : decode cX7_has 6 = .ok (.getfield 21, 3) := by decide +kernel
theorem dX7_has_9 : decode cX7_has 9 = .ok (.if_icmp .ge 7, 3) := by decide +kernel
theorem dX7_has_12 : decode cX7_has 12 = .ok (.iconst 1, 1) := by decide +kernel
theorem dX7_has_13 : decode cX7_has 13 = .ok (.goto 4, 3) := by decide +kernel
theorem dX7_has_16 : decode cX7_has 16 = .ok (.iconst 0, 1) := by decide +kernel
theorem dX7_has_17 : decode cX7_has 17 = .ok (.ireturn, 1) := by decide +kernel
theorem dX8_type_0 : decode cX8_type 0 = .ok (.aload_n 0, 1) := by decide +kernel
theorem dX8_type_1 : decode cX8_type 1 = .ok (.getfield 10, 3) := by decide +kernel
theorem dX8_type_4 : decode cX8_type 4 = .ok (.iload_n 1, 1) := by decide +kernel
theorem dX8_type_5 : decode cX8_type 5 = .ok (.invokevirtual 77, 3) := by decide +kernel
theorem dX8_type_8 : decode cX8_type 8 = .ok (.ifCond .ne 13, 3) := by decide +kernel
theorem dX8_type_14 : decode cX8_type 14 = .ok (.dup, 1) := by decide +kernel
theorem dX8_type_15 : decode cX8_type 15 = .ok (.ldc 83, 2) := by decide +kernel
theorem dX8_type_17 : decode cX8_type 17 = .ok (.invokespecial 85, 3) := by decide +kernel
theorem dX8_type_20 : decode cX8_type 20 = .ok (.athrow, 1) := by decide +kernel
theorem dX8_type_11 : decode cX8_type 11 = .ok (.new 81, 3) := by decide +kernel
theorem dX8_type_21 : decode cX8_type 21 = .ok (.iload_n 2, 1) := by decide +kernel
theorem dX8_type_22 : decode cX8_type 22 = .ok (.ifCond .lt 19, 3) := by decide +kernel
theorem dX8_type_25 : decode cX8_type 25 = .ok (.iload_n 2, 1) := by decide +kernel
theorem dX8_type_26 : decode cX8_type 26 = .ok (.bipush 8, 2) := by decide +kernel
theorem dX8_type_28 : decode cX8_type 28 = .ok (.aload_n 0, 1) := by decide +kernel
theorem dX8_type_29 : decode cX8_type 29 = .ok (.getfield 10, 3) := by decide +kernel
theorem dX8_type_32 : decode cX8_type 32 = .ok (.getfield 86, 3) := by decide +kernel
theorem dX8_type_35 : decode cX8_type 35 = .ok (.iload_n 1, 1) := by decide +kernel
theorem dX8_type_36 : decode cX8_type 36 = .ok (.iaload, 1) := by decide +kernel
theorem dX8_type_37 : decode cX8_type 37 = .ok (.isub, 1) := by decide +kernel
theorem dX8_type_38 : decode cX8_type 38 = .ok (.if_icmp .le 13, 3) := by decide +kernel
theorem dX8_type_44 : decode cX8_type 44 = .ok (.dup, 1) := by decide +kernel
theorem dX8_type_45 : decode cX8_type 45 = .ok (.ldc 90, 2) := by decide +kernel
theorem dX8_type_47 : decode cX8_type 47 = .ok (.invokespecial 61, 3) := by decide +kernel
theorem dX8_type_50 : decode cX8_type 50 = .ok (.athrow, 1) := by decide +kernel
theorem dX8_type_41 : decode cX8_type 41 = .ok (.new 57, 3) := by decide +kernel
theorem dX8_type_51 : decode cX8_type 51 = .ok (.aload_n 0, 1) := by decide +kernel
theorem dX8_type_52 : decode cX8_type 52 = .ok (.getfield 10, 3) := by decide +kernel
theorem dX8_type_55 : decode cX8_type 55 = .ok (.getfield 92, 3) := by decide +kernel
theorem dX8_type_58 : decode cX8_type 58 = .ok (.bipush 30, 2) := by decide +kernel
theorem dX8_type_60 : decode cX8_type 60 = .ok (.if_icmp .ne 13, 3) := by decide +kernel
theorem dX8_type_66 : decode cX8_type 66 = .ok (.dup, 1) := by decide +kernel
theorem dX8_type_67 : decode cX8_type 67 = .ok (.ldc 95, 2) := by decide +kernel
theorem dX8_type_69 : decode cX8_type 69 = .ok (.invokespecial 72, 3) := by decide +kernel
theorem dX8_type_72 : decode cX8_type 72 = .ok (.athrow, 1) := by decide +kernel
theorem dX8_type_63 : decode cX8_type 63 = .ok (.new 68, 3) := by decide +kernel
theorem dX8_type_73 : decode cX8_type 73 = .ok (.aload_n 0, 1) := by decide +kernel
theorem dX8_type_74 : decode cX8_type 74 = .ok (.getfield 10, 3) := by decide +kernel
theorem dX8_type_77 : decode cX8_type 77 = .ok (.iload_n 1, 1) := by decide +kernel
theorem dX8_type_78 : decode cX8_type 78 = .ok (.iload_n 2, 1) := by decide +kernel
theorem dX8_type_79 : decode cX8_type 79 = .ok (.iload_n 3, 1) := by decide +kernel
theorem dX8_type_80 : decode cX8_type 80 = .ok (.invokevirtual 97, 3) := by decide +kernel
theorem dX8_type_83 : decode cX8_type 83 = .ok (.ireturn, 1) := by decide +kernel
theorem dX0_appendHandler_0 : decode cX0_appendHandler 0 = .ok (.aload_n 0, 1) := by decide +kernel
theorem dX0_appendHandler_1 : decode cX0_appendHandler 1 = .ok (.getfield 31, 3) := by decide +kernel
theorem dX0_appendHandler_4 : decode cX0_appendHandler 4 = .ok (.iconst 4, 1) := by decide +kernel
theorem dX0_appendHandler_5 : decode cX0_appendHandler 5 = .ok (.imul, 1) := by decide +kernel
theorem dX0_appendHandler_6 : decode cX0_appendHandler 6 = .ok (.istore 5, 2) := by decide +kernel
theorem dX0_appendHandler_8 : decode cX0_appendHandler 8 = .ok (.aload_n 0, 1) := by decide +kernel
theorem dX0_appendHandler_9 : decode cX0_appendHandler 9 = .ok (.getfield 17, 3) := by decide +kernel
theorem dX0_appendHandler_12 : decode cX0_appendHandler 12 = .ok (.iload 5, 2) := by decide +kernel
theorem dX0_appendHandler_14 : decode cX0_appendHandler 14 = .ok (.iload_n 1, 1) := by decide +kernel
theorem dX0_appendHandler_15 : decode cX0_appendHandler 15 = .ok (.iastore, 1) := by decide +kernel
theorem dX0_appendHandler_16 : decode cX0_appendHandler 16 = .ok (.aload_n 0, 1) := by decide +kernel
theorem dX0_appendHandler_17 : decode cX0_appendHandler 17 = .ok (.getfield 17, 3) := by decide +kernel
theorem dX0_appendHandler_20 : decode cX0_appendHandler 20 = .ok (.iload 5, 2) := by decide +kernel
theorem dX0_appendHandler_22 : decode cX0_appendHandler 22 = .ok (.iconst 1, 1) := by decide +kernel
theorem dX0_appendHandler_23 : decode cX0_appendHandler 23 = .ok (.iadd, 1) := by decide +kernel
theorem dX0_appendHandler_24 : decode cX0_appendHandler 24 = .ok (.iload_n 2, 1) := by decide +kernel
theorem dX0_appendHandler_25 : decode cX0_appendHandler 25 = .ok (.iastore, 1) := by decide +kernel
theorem dX0_appendHandler_26 : decode cX0_appendHandler 26 = .ok (.aload_n 0, 1) := by decide +kernel
theorem dX0_appendHandler_27 : decode cX0_appendHandler 27 = .ok (.getfield 17, 3) := by decide +kernel
theorem dX0_appendHandler_30 : decode cX0_appendHandler 30 = .ok (.iload 5, 2) := by decide +kernel
theorem dX0_appendHandler_32 : decode cX0_appendHandler 32 = .ok (.iconst 2, 1) := by decide +kernel
theorem dX0_appendHandler_33 : decode cX0_appendHandler 33 = .ok (.iadd, 1) := by decide +kernel
theorem dX0_appendHandler_34 : decode cX0_appendHandler 34 = .ok (.iload_n 3, 1) := by decide +kernel
theorem dX0_appendHandler_35 : decode cX0_appendHandler 35 = .ok (.iastore, 1) := by decide +kernel
theorem dX0_appendHandler_36 : decode cX0_appendHandler 36 = .ok (.aload_n 0, 1) := by decide +kernel
theorem dX0_appendHandler_37 : decode cX0_appendHandler 37 = .ok (.getfield 17, 3) := by decide +kernel
theorem dX0_appendHandler_40 : decode cX0_appendHandler 40 = .ok (.iload 5, 2) := by decide +kernel
theorem dX0_appendHandler_42 : decode cX0_appendHandler 42 = .ok (.iconst 3, 1) := by decide +kernel
theorem dX0_appendHandler_43 : decode cX0_appendHandler 43 = .ok (.iadd, 1) := by decide +kernel
theorem dX0_appendHandler_44 : decode cX0_appendHandler 44 = .ok (.iload 4, 2) := by decide +kernel
theorem dX0_appendHandler_46 : decode cX0_appendHandler 46 = .ok (.iastore, 1) := by decide +kernel
theorem dX0_appendHandler_47 : decode cX0_appendHandler 47 = .ok (.aload_n 0, 1) := by decide +kernel
theorem dX0_appendHandler_48 : decode cX0_appendHandler 48 = .ok (.dup, 1) := by decide +kernel
theorem dX0_appendHandler_49 : decode cX0_appendHandler 49 = .ok (.getfield 31, 3) := by decide +kernel
theorem dX0_appendHandler_52 : decode cX0_appendHandler 52 = .ok (.iconst 1, 1) := by decide +kernel
theorem dX0_appendHandler_53 : decode cX0_appendHandler 53 = .ok (.iadd, 1) := by decide +kernel
theorem dX0_appendHandler_54 : decode cX0_appendHandler 54 = .ok (.putfield 31, 3) := by decide +kernel
theorem dX0_appendHandler_57 : decode cX0_appendHandler 57 = .ok (.return_, 1) := by decide +kernel
theorem dX8_handler_0 : decode cX8_handler 0 = .ok (.iload_n 1, 1) := by decide +kernel
theorem dX8_handler_1 : decode cX8_handler 1 = .ok (.ifCond .lt 15, 3) := by decide +kernel
theorem dX8_handler_4 : decode cX8_handler 4 = .ok (.iload_n 2, 1) := by decide +kernel
theorem dX8_handler_5 : decode cX8_handler 5 = .ok (.iload_n 1, 1) := by decide +kernel
theorem dX8_handler_6 : decode cX8_handler 6 = .ok (.if_icmp .le 10, 3) := by decide +kernel
theorem dX8_handler_9 : decode cX8_handler 9 = .ok (.iload_n 2, 1) := by decide +kernel
theorem dX8_handler_10 : decode cX8_handler 10 = .ok (.sipush 200, 3) := by decide +kernel
theorem dX8_handler_13 : decode cX8_handler 13 = .ok (.if_icmp .le 13, 3) := by decide +kernel
theorem dX8_handler_19 : decode cX8_handler 19 = .ok (.dup, 1) := by decide +kernel
theorem dX8_handler_20 : decode cX8_handler 20 = .ok (.ldc 101, 2) := by decide +kernel
theorem dX8_handler_22 : decode cX8_handler 22 = .ok (.invokespecial 61, 3) := by decide +kernel
theorem dX8_handler_25 : decode cX8_handler 25 = .ok (.athrow, 1) := by decide +kernel
theorem dX8_handler_16 : decode cX8_handler 16 = .ok (.new 57, 3) := by decide +kernel
theorem dX8_handler_26 : decode cX8_handler 26 = .ok (.iload_n 3, 1) := by decide +kernel
theorem dX8_handler_27 : decode cX8_handler 27 = .ok (.ifCond .lt 10, 3) := by decide +kernel
theorem dX8_handler_30 : decode cX8_handler 30 = .ok (.iload_n 3, 1) := by decide +kernel
theorem dX8_handler_31 : decode cX8_handler 31 = .ok (.sipush 200, 3) := by decide +kernel
theorem dX8_handler_34 : decode cX8_handler 34 = .ok (.if_icmp .le 13, 3) := by decide +kernel
theorem dX8_handler_40 : decode cX8_handler 40 = .ok (.dup, 1) := by decide +kernel
theorem dX8_handler_41 : decode cX8_handler 41 = .ok (.ldc 103, 2) := by decide +kernel
theorem dX8_handler_43 : decode cX8_handler 43 = .ok (.invokespecial 61, 3) := by decide +kernel
theorem dX8_handler_46 : decode cX8_handler 46 = .ok (.athrow, 1) := by decide +kernel
theorem dX8_handler_37 : decode cX8_handler 37 = .ok (.new 57, 3) := by decide +kernel
theorem dX8_handler_47 : decode cX8_handler 47 = .ok (.aload_n 0, 1) := by decide +kernel
theorem dX8_handler_48 : decode cX8_handler 48 = .ok (.getfield 10, 3) := by decide +kernel
theorem dX8_handler_51 : decode cX8_handler 51 = .ok (.iload 4, 2) := by decide +kernel
theorem dX8_handler_53 : decode cX8_handler 53 = .ok (.invokevirtual 77, 3) := by decide +kernel
theorem dX8_handler_56 : decode cX8_handler 56 = .ok (.ifCond .ne 13, 3) := by decide +kernel
theorem dX8_handler_62 : decode cX8_handler 62 = .ok (.dup, 1) := by decide +kernel
theorem dX8_handler_63 : decode cX8_handler 63 = .ok (.ldc 105, 2) := by decide +kernel
theorem dX8_handler_65 : decode cX8_handler 65 = .ok (.invokespecial 61, 3) := by decide +kernel
theorem dX8_handler_68 : decode cX8_handler 68 = .ok (.athrow, 1) := by decide +kernel
theorem dX8_handler_59 : decode cX8_handler 59 = .ok (.new 57, 3) := by decide +kernel
theorem dX8_handler_69 : decode cX8_handler 69 = .ok (.aload_n 0, 1) := by decide +kernel
theorem dX8_handler_70 : decode cX8_handler 70 = .ok (.getfield 19, 3) := by decide +kernel
theorem dX8_handler_73 : decode cX8_handler 73 = .ok (.getfield 107, 3) := by decide +kernel
theorem dX8_handler_76 : decode cX8_handler 76 = .ok (.bipush 8, 2) := by decide +kernel
theorem dX8_handler_78 : decode cX8_handler 78 = .ok (.if_icmp .ne 13, 3) := by decide +kernel
theorem dX8_handler_84 : decode cX8_handler 84 = .ok (.dup, 1) := by decide +kernel
theorem dX8_handler_85 : decode cX8_handler 85 = .ok (.ldc 110, 2) := by decide +kernel
theorem dX8_handler_87 : decode cX8_handler 87 = .ok (.invokespecial 72, 3) := by decide +kernel
theorem dX8_handler_90 : decode cX8_handler 90 = .ok (.athrow, 1) := by decide +kernel
theorem dX8_handler_81 : decode cX8_handler 81 = .ok (.new 68, 3) := by decide +kernel
theorem dX8_handler_91 : decode cX8_handler 91 = .ok (.aload_n 0, 1) := by decide +kernel
theorem dX8_handler_92 : decode cX8_handler 92 = .ok (.getfield 19, 3) := by decide +kernel
theorem dX8_handler_95 : decode cX8_handler 95 = .ok (.iload_n 1, 1) := by decide +kernel
theorem dX8_handler_96 : decode cX8_handler 96 = .ok (.iload_n 2, 1) := by decide +kernel
theorem dX8_handler_97 : decode cX8_handler 97 = .ok (.iload_n 3, 1) := by decide +kernel
theorem dX8_handler_98 : decode cX8_handler 98 = .ok (.iload 4, 2) := by decide +kernel
theorem dX8_handler_100 : decode cX8_handler 100 = .ok (.invokevirtual 112, 3) := by decide +kernel
theorem dX8_handler_103 : decode cX8_handler 103 = .ok (.aload_n 0, 1) := by decide +kernel
theorem dX8_handler_104 : decode cX8_handler 104 = .ok (.getfield 19, 3) := by decide +kernel
theorem dX8_handler_107 : decode cX8_handler 107 = .ok (.getfield 107, 3) := by decide +kernel
theorem dX8_handler_110 : decode cX8_handler 110 = .ok (.ireturn, 1) := by decide +kernel
theorem dJ7_copyOf_6403c_0 : decode cJ7_copyOf_6403c 0 = .ok (.aload_n 2, 1) := by decide +kernel
theorem dJ7_copyOf_6403c_1 : decode cJ7_copyOf_6403c 1 = .ok (.ldc 110, 2) := by decide +kernel
theorem dJ7_copyOf_6403c_3 : decode cJ7_copyOf_6403c 3 = .ok (.if_acmp .ne 10, 3) := by decide +kernel
theorem dJ7_copyOf_6403c_6 : decode cJ7_copyOf_6403c 6 = .ok (.iload_n 1, 1) := by decide +kernel
theorem dJ7_copyOf_6403c_7 : decode cJ7_copyOf_6403c 7 = .ok (.anewarray 2, 3) := by decide +kernel
theorem dJ7_copyOf_6403c_10 : decode cJ7_copyOf_6403c 10 = .ok (.goto 14, 3) := by decide +kernel
theorem dJ7_copyOf_6403c_13 : decode cJ7_copyOf_6403c 13 = .ok (.aload_n 2, 1) := by decide +kernel
theorem dJ7_copyOf_6403c_24 : decode cJ7_copyOf_6403c 24 = .ok (.astore_n 3, 1) := by decide +kernel
theorem dJ7_copyOf_6403c_25 : decode cJ7_copyOf_6403c 25 = .ok (.aload_n 0, 1) := by decide +kernel
theorem dJ7_copyOf_6403c_26 : decode cJ7_copyOf_6403c 26 = .ok (.iconst 0, 1) := by decide +kernel
theorem dJ7_copyOf_6403c_27 : decode cJ7_copyOf_6403c 27 = .ok (.aload_n 3, 1) := by decide +kernel
theorem dJ7_copyOf_6403c_28 : decode cJ7_copyOf_6403c 28 = .ok (.iconst 0, 1) := by decide +kernel
theorem dJ7_copyOf_6403c_29 : decode cJ7_copyOf_6403c 29 = .ok (.aload_n 0, 1) := by decide +kernel
theorem dJ7_copyOf_6403c_30 : decode cJ7_copyOf_6403c 30 = .ok (.arraylength, 1) := by decide +kernel
theorem dJ7_copyOf_6403c_31 : decode cJ7_copyOf_6403c 31 = .ok (.iload_n 1, 1) := by decide +kernel
theorem dJ7_copyOf_6403c_32 : decode cJ7_copyOf_6403c 32 = .ok (.invokestatic 304, 3) := by decide +kernel
theorem dJ7_copyOf_6403c_35 : decode cJ7_copyOf_6403c 35 = .ok (.invokestatic 150, 3) := by decide +kernel
theorem dJ7_copyOf_6403c_38 : decode cJ7_copyOf_6403c 38 = .ok (.aload_n 3, 1) := by decide +kernel
theorem dJ7_copyOf_6403c_39 : decode cJ7_copyOf_6403c 39 = .ok (.areturn, 1) := by decide +kernel
theorem dJ7_copyOf_1904c_0 : decode cJ7_copyOf_1904c 0 = .ok (.aload_n 0, 1) := by decide +kernel
theorem dJ7_copyOf_1904c_1 : decode cJ7_copyOf_1904c 1 = .ok (.iload_n 1, 1) := by decide +kernel
theorem dJ7_copyOf_1904c_2 : decode cJ7_copyOf_1904c 2 = .ok (.aload_n 0, 1) := by decide +kernel
theorem dJ7_copyOf_1904c_3 : decode cJ7_copyOf_1904c 3 = .ok (.invokevirtual 86, 3) := by decide +kernel
theorem dJ7_copyOf_1904c_6 : decode cJ7_copyOf_1904c 6 = .ok (.invokestatic 300, 3) := by decide +kernel
theorem dJ7_copyOf_1904c_9 : decode cJ7_copyOf_1904c 9 = .ok (.areturn, 1) := by decide +kernel
theorem dJ8_hugeLength_7cf53_0 : decode cJ8_hugeLength_7cf53 0 = .ok (.iload_n 0, 1) := by decide +kernel
theorem dJ8_hugeLength_7cf53_1 : decode cJ8_hugeLength_7cf53 1 = .ok (.iload_n 1, 1) := by decide +kernel
theorem dJ8_hugeLength_7cf53_2 : decode cJ8_hugeLength_7cf53 2 = .ok (.iadd, 1) := by decide +kernel
theorem dJ8_hugeLength_7cf53_3 : decode cJ8_hugeLength_7cf53 3 = .ok (.istore_n 2, 1) := by decide +kernel
theorem dJ8_hugeLength_7cf53_4 : decode cJ8_hugeLength_7cf53 4 = .ok (.iload_n 2, 1) := by decide +kernel
theorem dJ8_hugeLength_7cf53_5 : decode cJ8_hugeLength_7cf53 5 = .ok (.ifCond .ge 44, 3) := by decide +kernel
theorem dJ8_hugeLength_7cf53_49 : decode cJ8_hugeLength_7cf53 49 = .ok (.iload_n 2, 1) := by decide +kernel
theorem dJ8_hugeLength_7cf53_50 : decode cJ8_hugeLength_7cf53 50 = .ok (.ldc 200, 2) := by decide +kernel
theorem dJ8_hugeLength_7cf53_52 : decode cJ8_hugeLength_7cf53 52 = .ok (.if_icmp .gt 6, 3) := by decide +kernel
theorem dJ8_hugeLength_7cf53_55 : decode cJ8_hugeLength_7cf53 55 = .ok (.ldc 200, 2) := by decide +kernel
theorem dJ8_hugeLength_7cf53_57 : decode cJ8_hugeLength_7cf53 57 = .ok (.ireturn, 1) := by decide +kernel
theorem dJ8_hugeLength_7cf53_58 : decode cJ8_hugeLength_7cf53 58 = .ok (.iload_n 2, 1) := by decide +kernel
theorem dJ8_hugeLength_7cf53_59 : decode cJ8_hugeLength_7cf53 59 = .ok (.ireturn, 1) := by decide +kernel
theorem dJ8_newLength_cabcc_0 : decode cJ8_newLength_cabcc 0 = .ok (.iload_n 0, 1) := by decide +kernel
theorem dJ8_newLength_cabcc_1 : decode cJ8_newLength_cabcc 1 = .ok (.iload_n 1, 1) := by decide +kernel
theorem dJ8_newLength_cabcc_2 : decode cJ8_newLength_cabcc 2 = .ok (.iload_n 2, 1) := by decide +kernel
theorem dJ8_newLength_cabcc_3 : decode cJ8_newLength_cabcc 3 = .ok (.invokestatic 194, 3) := by decide +kernel
theorem dJ8_newLength_cabcc_6 : decode cJ8_newLength_cabcc 6 = .ok (.iadd, 1) := by decide +kernel
theorem dJ8_newLength_cabcc_7 : decode cJ8_newLength_cabcc 7 = .ok (.istore_n 3, 1) := by decide +kernel
theorem dJ8_newLength_cabcc_8 : decode cJ8_newLength_cabcc 8 = .ok (.iconst 0, 1) := by decide +kernel
theorem dJ8_newLength_cabcc_9 : decode cJ8_newLength_cabcc 9 = .ok (.iload_n 3, 1) := by decide +kernel
theorem dJ8_newLength_cabcc_10 : decode cJ8_newLength_cabcc 10 = .ok (.if_icmp .ge 11, 3) := by decide +kernel
theorem dJ8_newLength_cabcc_13 : decode cJ8_newLength_cabcc 13 = .ok (.iload_n 3, 1) := by decide +kernel
theorem dJ8_newLength_cabcc_14 : decode cJ8_newLength_cabcc 14 = .ok (.ldc 200, 2) := by decide +kernel
theorem dJ8_newLength_cabcc_16 : decode cJ8_newLength_cabcc 16 = .ok (.if_icmp .gt 5, 3) := by decide +kernel
theorem dJ8_newLength_cabcc_19 : decode cJ8_newLength_cabcc 19 = .ok (.iload_n 3, 1) := by decide +kernel
theorem dJ8_newLength_cabcc_20 : decode cJ8_newLength_cabcc 20 = .ok (.ireturn, 1) := by decide +kernel
theorem dJ8_newLength_cabcc_21 : decode cJ8_newLength_cabcc 21 = .ok (.iload_n 0, 1) := by decide +kernel
theorem dJ8_newLength_cabcc_22 : decode cJ8_newLength_cabcc 22 = .ok (.iload_n 1, 1) := by decide +kernel
theorem dJ8_newLength_cabcc_23 : decode cJ8_newLength_cabcc 23 = .ok (.invokestatic 201, 3) := by decide +kernel
theorem dJ8_newLength_cabcc_26 : decode cJ8_newLength_cabcc 26 = .ok (.ireturn, 1) := by decide +kernel
theorem dJx4a65c_grow_92f84_0 : decode cJx4a65c_grow_92f84 0 = .ok (.aload_n 0, 1) := by decide +kernel
theorem dJx4a65c_grow_92f84_1 : decode cJx4a65c_grow_92f84 1 = .ok (.getfield 9, 3) := by decide +kernel
theorem dJx4a65c_grow_92f84_4 : decode cJx4a65c_grow_92f84 4 = .ok (.arraylength, 1) := by decide +kernel
theorem dJx4a65c_grow_92f84_5 : decode cJx4a65c_grow_92f84 5 = .ok (.istore_n 2, 1) := by decide +kernel
theorem dJx4a65c_grow_92f84_6 : decode cJx4a65c_grow_92f84 6 = .ok (.iload_n 2, 1) := by decide +kernel
theorem dJx4a65c_grow_92f84_7 : decode cJx4a65c_grow_92f84 7 = .ok (.ifCond .gt 13, 3) := by decide +kernel
theorem dJx4a65c_grow_92f84_10 : decode cJx4a65c_grow_92f84 10 = .ok (.aload_n 0, 1) := by decide +kernel
theorem dJx4a65c_grow_92f84_11 : decode cJx4a65c_grow_92f84 11 = .ok (.getfield 9, 3) := by decide +kernel
theorem dJx4a65c_grow_92f84_14 : decode cJx4a65c_grow_92f84 14 = .ok (.getstatic 39, 3) := by decide +kernel
theorem dJx4a65c_grow_92f84_17 : decode cJx4a65c_grow_92f84 17 = .ok (.if_acmp .eq 28, 3) := by decide +kernel
theorem dJx4a65c_grow_92f84_20 : decode cJx4a65c_grow_92f84 20 = .ok (.iload_n 2, 1) := by decide +kernel
theorem dJx4a65c_grow_92f84_21 : decode cJx4a65c_grow_92f84 21 = .ok (.iload_n 1, 1) := by decide +kernel
theorem dJx4a65c_grow_92f84_22 : decode cJx4a65c_grow_92f84 22 = .ok (.iload_n 2, 1) := by decide +kernel
theorem dJx4a65c_grow_92f84_23 : decode cJx4a65c_grow_92f84 23 = .ok (.isub, 1) := by decide +kernel
theorem dJx4a65c_grow_92f84_24 : decode cJx4a65c_grow_92f84 24 = .ok (.iload_n 2, 1) := by decide +kernel
theorem dJx4a65c_grow_92f84_25 : decode cJx4a65c_grow_92f84 25 = .ok (.iconst 1, 1) := by decide +kernel
theorem dJx4a65c_grow_92f84_26 : decode cJx4a65c_grow_92f84 26 = .ok (.ishr, 1) := by decide +kernel
theorem dJx4a65c_grow_92f84_27 : decode cJx4a65c_grow_92f84 27 = .ok (.invokestatic 73, 3) := by decide +kernel
theorem dJx4a65c_grow_92f84_30 : decode cJx4a65c_grow_92f84 30 = .ok (.istore_n 3, 1) := by decide +kernel
theorem dJx4a65c_grow_92f84_31 : decode cJx4a65c_grow_92f84 31 = .ok (.aload_n 0, 1) := by decide +kernel
theorem dJx4a65c_grow_92f84_32 : decode cJx4a65c_grow_92f84 32 = .ok (.aload_n 0, 1) := by decide +kernel
theorem dJx4a65c_grow_92f84_33 : decode cJx4a65c_grow_92f84 33 = .ok (.getfield 9, 3) := by decide +kernel
theorem dJx4a65c_grow_92f84_36 : decode cJx4a65c_grow_92f84 36 = .ok (.iload_n 3, 1) := by decide +kernel
theorem dJx4a65c_grow_92f84_37 : decode cJx4a65c_grow_92f84 37 = .ok (.invokestatic 66, 3) := by decide +kernel
theorem dJx4a65c_grow_92f84_40 : decode cJx4a65c_grow_92f84 40 = .ok (.dup_x1, 1) := by decide +kernel
theorem dJx4a65c_grow_92f84_41 : decode cJx4a65c_grow_92f84 41 = .ok (.putfield 9, 3) := by decide +kernel
theorem dJx4a65c_grow_92f84_44 : decode cJx4a65c_grow_92f84 44 = .ok (.areturn, 1) := by decide +kernel
theorem dJx4a65c_grow_92f84_45 : decode cJx4a65c_grow_92f84 45 = .ok (.aload_n 0, 1) := by decide +kernel
theorem dJx4a65c_grow_92f84_46 : decode cJx4a65c_grow_92f84 46 = .ok (.bipush 10, 2) := by decide +kernel
theorem dJx4a65c_grow_92f84_48 : decode cJx4a65c_grow_92f84 48 = .ok (.iload_n 1, 1) := by decide +kernel
theorem dJx4a65c_grow_92f84_49 : decode cJx4a65c_grow_92f84 49 = .ok (.invokestatic 79, 3) := by decide +kernel
theorem dJx4a65c_grow_92f84_52 : decode cJx4a65c_grow_92f84 52 = .ok (.anewarray 7, 3) := by decide +kernel
theorem dJx4a65c_grow_92f84_55 : decode cJx4a65c_grow_92f84 55 = .ok (.dup_x1, 1) := by decide +kernel
theorem dJx4a65c_grow_92f84_56 : decode cJx4a65c_grow_92f84 56 = .ok (.putfield 9, 3) := by decide +kernel
theorem dJx4a65c_grow_92f84_59 : decode cJx4a65c_grow_92f84 59 = .ok (.areturn, 1) := by decide +kernel
theorem dJx4a65c_grow_d5877_0 : decode cJx4a65c_grow_d5877 0 = .ok (.aload_n 0, 1) := by decide +kernel
theorem dJx4a65c_grow_d5877_1 : decode cJx4a65c_grow_d5877 1 = .ok (.aload_n 0, 1) := by decide +kernel
theorem dJx4a65c_grow_d5877_2 : decode cJx4a65c_grow_d5877 2 = .ok (.getfield 48, 3) := by decide +kernel
theorem dJx4a65c_grow_d5877_5 : decode cJx4a65c_grow_d5877 5 = .ok (.iconst 1, 1) := by decide +kernel
theorem dJx4a65c_grow_d5877_6 : decode cJx4a65c_grow_d5877 6 = .ok (.iadd, 1) := by decide +kernel
theorem dJx4a65c_grow_d5877_7 : decode cJx4a65c_grow_d5877 7 = .ok (.invokevirtual 69, 3) := by decide +kernel
theorem dJx4a65c_grow_d5877_10 : decode cJx4a65c_grow_d5877 10 = .ok (.areturn, 1) := by decide +kernel
theorem dJx4a65c_add_72be8_0 : decode cJx4a65c_add_72be8 0 = .ok (.iload_n 3, 1) := by decide +kernel
theorem dJx4a65c_add_72be8_1 : decode cJx4a65c_add_72be8 1 = .ok (.aload_n 2, 1) := by decide +kernel
theorem dJx4a65c_add_72be8_2 : decode cJx4a65c_add_72be8 2 = .ok (.arraylength, 1) := by decide +kernel
theorem dJx4a65c_add_72be8_3 : decode cJx4a65c_add_72be8 3 = .ok (.if_icmp .ne 8, 3) := by decide +kernel
theorem dJx4a65c_add_72be8_6 : decode cJx4a65c_add_72be8 6 = .ok (.aload_n 0, 1) := by decide +kernel
theorem dJx4a65c_add_72be8_7 : decode cJx4a65c_add_72be8 7 = .ok (.invokevirtual 129, 3) := by decide +kernel
theorem dJx4a65c_add_72be8_10 : decode cJx4a65c_add_72be8 10 = .ok (.astore_n 2, 1) := by decide +kernel
theorem dJx4a65c_add_72be8_11 : decode cJx4a65c_add_72be8 11 = .ok (.aload_n 2, 1) := by decide +kernel
theorem dJx4a65c_add_72be8_12 : decode cJx4a65c_add_72be8 12 = .ok (.iload_n 3, 1) := by decide +kernel
theorem dJx4a65c_add_72be8_13 : decode cJx4a65c_add_72be8 13 = .ok (.aload_n 1, 1) := by decide +kernel
theorem dJx4a65c_add_72be8_14 : decode cJx4a65c_add_72be8 14 = .ok (.aastore, 1) := by decide +kernel
theorem dJx4a65c_add_72be8_15 : decode cJx4a65c_add_72be8 15 = .ok (.aload_n 0, 1) := by decide +kernel
theorem dJx4a65c_add_72be8_16 : decode cJx4a65c_add_72be8 16 = .ok (.iload_n 3, 1) := by decide +kernel
theorem dJx4a65c_add_72be8_17 : decode cJx4a65c_add_72be8 17 = .ok (.iconst 1, 1) := by decide +kernel
theorem dJx4a65c_add_72be8_18 : decode cJx4a65c_add_72be8 18 = .ok (.iadd, 1) := by decide +kernel
theorem dJx4a65c_add_72be8_19 : decode cJx4a65c_add_72be8 19 = .ok (.putfield 48, 3) := by decide +kernel
theorem dJx4a65c_add_72be8_22 : decode cJx4a65c_add_72be8 22 = .ok (.return_, 1) := by decide +kernel
theorem dJx4a65c_add_9ea2d_0 : decode cJx4a65c_add_9ea2d 0 = .ok (.aload_n 0, 1) := by decide +kernel
theorem dJx4a65c_add_9ea2d_1 : decode cJx4a65c_add_9ea2d 1 = .ok (.dup, 1) := by decide +kernel
theorem dJx4a65c_add_9ea2d_2 : decode cJx4a65c_add_9ea2d 2 = .ok (.getfield 63, 3) := by decide +kernel
theorem dJx4a65c_add_9ea2d_5 : decode cJx4a65c_add_9ea2d 5 = .ok (.iconst 1, 1) := by decide +kernel
theorem dJx4a65c_add_9ea2d_6 : decode cJx4a65c_add_9ea2d 6 = .ok (.iadd, 1) := by decide +kernel
theorem dJx4a65c_add_9ea2d_7 : decode cJx4a65c_add_9ea2d 7 = .ok (.putfield 63, 3) := by decide +kernel
theorem dJx4a65c_add_9ea2d_10 : decode cJx4a65c_add_9ea2d 10 = .ok (.aload_n 0, 1) := by decide +kernel
theorem dJx4a65c_add_9ea2d_11 : decode cJx4a65c_add_9ea2d 11 = .ok (.aload_n 1, 1) := by decide +kernel
theorem dJx4a65c_add_9ea2d_12 : decode cJx4a65c_add_9ea2d 12 = .ok (.aload_n 0, 1) := by decide +kernel
theorem dJx4a65c_add_9ea2d_13 : decode cJx4a65c_add_9ea2d 13 = .ok (.getfield 9, 3) := by decide +kernel
theorem dJx4a65c_add_9ea2d_16 : decode cJx4a65c_add_9ea2d 16 = .ok (.aload_n 0, 1) := by decide +kernel
theorem dJx4a65c_add_9ea2d_17 : decode cJx4a65c_add_9ea2d 17 = .ok (.getfield 48, 3) := by decide +kernel
theorem dJx4a65c_add_9ea2d_20 : decode cJx4a65c_add_9ea2d 20 = .ok (.invokevirtual 131, 3) := by decide +kernel
theorem dJx4a65c_add_9ea2d_23 : decode cJx4a65c_add_9ea2d 23 = .ok (.iconst 1, 1) := by decide +kernel
theorem dJx4a65c_add_9ea2d_24 : decode cJx4a65c_add_9ea2d 24 = .ok (.ireturn, 1) := by decide +kernel
theorem dJx4a65c_size_8abf5_0 : decode cJx4a65c_size_8abf5 0 = .ok (.aload_n 0, 1) := by decide +kernel
theorem dJx4a65c_size_8abf5_1 : decode cJx4a65c_size_8abf5 1 = .ok (.getfield 48, 3) := by decide +kernel
theorem dJx4a65c_size_8abf5_4 : decode cJx4a65c_size_8abf5 4 = .ok (.ireturn, 1) := by decide +kernel
theorem dJ7_copyOf_9075b_0 : decode cJ7_copyOf_9075b 0 = .ok (.iload_n 1, 1) := by decide +kernel
theorem dJ7_copyOf_9075b_1 : decode cJ7_copyOf_9075b 1 = .ok (.aload_n 0, 1) := by decide +kernel
theorem dJ7_copyOf_9075b_2 : decode cJ7_copyOf_9075b 2 = .ok (.arraylength, 1) := by decide +kernel
theorem dJ7_copyOf_9075b_3 : decode cJ7_copyOf_9075b 3 = .ok (.if_icmp .ne 11, 3) := by decide +kernel
theorem dJ7_copyOf_9075b_6 : decode cJ7_copyOf_9075b 6 = .ok (.aload_n 0, 1) := by decide +kernel
theorem dJ7_copyOf_9075b_7 : decode cJ7_copyOf_9075b 7 = .ok (.invokevirtual 310, 3) := by decide +kernel
theorem dJ7_copyOf_9075b_10 : decode cJ7_copyOf_9075b 10 = .ok (.checkcast 311, 3) := by decide +kernel
theorem dJ7_copyOf_9075b_13 : decode cJ7_copyOf_9075b 13 = .ok (.areturn, 1) := by decide +kernel
theorem dJ7_copyOf_9075b_14 : decode cJ7_copyOf_9075b 14 = .ok (.iload_n 1, 1) := by decide +kernel
theorem dJ7_copyOf_9075b_15 : decode cJ7_copyOf_9075b 15 = .ok (.newarray .byte, 2) := by decide +kernel
theorem dJ7_copyOf_9075b_17 : decode cJ7_copyOf_9075b 17 = .ok (.astore_n 2, 1) := by decide +kernel
theorem dJ7_copyOf_9075b_18 : decode cJ7_copyOf_9075b 18 = .ok (.aload_n 0, 1) := by decide +kernel
theorem dJ7_copyOf_9075b_19 : decode cJ7_copyOf_9075b 19 = .ok (.iconst 0, 1) := by decide +kernel
theorem dJ7_copyOf_9075b_20 : decode cJ7_copyOf_9075b 20 = .ok (.aload_n 2, 1) := by decide +kernel
theorem dJ7_copyOf_9075b_21 : decode cJ7_copyOf_9075b 21 = .ok (.iconst 0, 1) := by decide +kernel
theorem dJ7_copyOf_9075b_22 : decode cJ7_copyOf_9075b 22 = .ok (.aload_n 0, 1) := by decide +kernel
theorem dJ7_copyOf_9075b_23 : decode cJ7_copyOf_9075b 23 = .ok (.arraylength, 1) := by decide +kernel
theorem dJ7_copyOf_9075b_24 : decode cJ7_copyOf_9075b 24 = .ok (.iload_n 1, 1) := by decide +kernel
theorem dJ7_copyOf_9075b_25 : decode cJ7_copyOf_9075b 25 = .ok (.invokestatic 304, 3) := by decide +kernel
theorem dJ7_copyOf_9075b_28 : decode cJ7_copyOf_9075b 28 = .ok (.invokestatic 150, 3) := by decide +kernel
theorem dJ7_copyOf_9075b_31 : decode cJ7_copyOf_9075b 31 = .ok (.aload_n 2, 1) := by decide +kernel
theorem dJ7_copyOf_9075b_32 : decode cJ7_copyOf_9075b 32 = .ok (.areturn, 1) := by decide +kernel
theorem dX0_code_0 : decode cX0_code 0 = .ok (.aload_n 0, 1) := by decide +kernel
theorem dX0_code_1 : decode cX0_code 1 = .ok (.getfield 9, 3) := by decide +kernel
theorem dX0_code_4 : decode cX0_code 4 = .ok (.aload_n 0, 1) := by decide +kernel
theorem dX0_code_5 : decode cX0_code 5 = .ok (.getfield 27, 3) := by decide +kernel
theorem dX0_code_8 : decode cX0_code 8 = .ok (.invokestatic 34, 3) := by decide +kernel
theorem dX0_code_11 : decode cX0_code 11 = .ok (.areturn, 1) := by decide +kernel
theorem dX0_empty_0 : decode cX0_empty 0 = .ok (.aload_n 0, 1) := by decide +kernel
theorem dX0_empty_1 : decode cX0_empty 1 = .ok (.iconst 0, 1) := by decide +kernel
theorem dX0_empty_2 : decode cX0_empty 2 = .ok (.putfield 27, 3) := by decide +kernel
theorem dX0_empty_5 : decode cX0_empty 5 = .ok (.aload_n 0, 1) := by decide +kernel
theorem dX0_empty_6 : decode cX0_empty 6 = .ok (.iconst 0, 1) := by decide +kernel
theorem dX0_empty_7 : decode cX0_empty 7 = .ok (.putfield 31, 3) := by decide +kernel
theorem dX0_empty_10 : decode cX0_empty 10 = .ok (.return_, 1) := by decide +kernel
theorem dJ7_copyOf_59c91_0 : decode cJ7_copyOf_59c91 0 = .ok (.iload_n 1, 1) := by decide +kernel
theorem dJ7_copyOf_59c91_1 : decode cJ7_copyOf_59c91 1 = .ok (.aload_n 0, 1) := by decide +kernel
theorem dJ7_copyOf_59c91_2 : decode cJ7_copyOf_59c91 2 = .ok (.arraylength, 1) := by decide +kernel
theorem dJ7_copyOf_59c91_3 : decode cJ7_copyOf_59c91 3 = .ok (.if_icmp .ne 11, 3) := by decide +kernel
theorem dJ7_copyOf_59c91_6 : decode cJ7_copyOf_59c91 6 = .ok (.aload_n 0, 1) := by decide +kernel
theorem dJ7_copyOf_59c91_7 : decode cJ7_copyOf_59c91 7 = .ok (.invokevirtual 316, 3) := by decide +kernel
theorem dJ7_copyOf_59c91_10 : decode cJ7_copyOf_59c91 10 = .ok (.checkcast 317, 3) := by decide +kernel
theorem dJ7_copyOf_59c91_13 : decode cJ7_copyOf_59c91 13 = .ok (.areturn, 1) := by decide +kernel
theorem dJ7_copyOf_59c91_14 : decode cJ7_copyOf_59c91 14 = .ok (.iload_n 1, 1) := by decide +kernel
theorem dJ7_copyOf_59c91_15 : decode cJ7_copyOf_59c91 15 = .ok (.newarray .int, 2) := by decide +kernel
theorem dJ7_copyOf_59c91_17 : decode cJ7_copyOf_59c91 17 = .ok (.astore_n 2, 1) := by decide +kernel
theorem dJ7_copyOf_59c91_18 : decode cJ7_copyOf_59c91 18 = .ok (.aload_n 0, 1) := by decide +kernel
theorem dJ7_copyOf_59c91_19 : decode cJ7_copyOf_59c91 19 = .ok (.iconst 0, 1) := by decide +kernel
theorem dJ7_copyOf_59c91_20 : decode cJ7_copyOf_59c91 20 = .ok (.aload_n 2, 1) := by decide +kernel
theorem dJ7_copyOf_59c91_21 : decode cJ7_copyOf_59c91 21 = .ok (.iconst 0, 1) := by decide +kernel
theorem dJ7_copyOf_59c91_22 : decode cJ7_copyOf_59c91 22 = .ok (.aload_n 0, 1) := by decide +kernel
theorem dJ7_copyOf_59c91_23 : decode cJ7_copyOf_59c91 23 = .ok (.arraylength, 1) := by decide +kernel
theorem dJ7_copyOf_59c91_24 : decode cJ7_copyOf_59c91 24 = .ok (.iload_n 1, 1) := by decide +kernel
theorem dJ7_copyOf_59c91_25 : decode cJ7_copyOf_59c91 25 = .ok (.invokestatic 304, 3) := by decide +kernel
theorem dJ7_copyOf_59c91_28 : decode cJ7_copyOf_59c91 28 = .ok (.invokestatic 150, 3) := by decide +kernel
theorem dJ7_copyOf_59c91_31 : decode cJ7_copyOf_59c91 31 = .ok (.aload_n 2, 1) := by decide +kernel
theorem dJ7_copyOf_59c91_32 : decode cJ7_copyOf_59c91 32 = .ok (.areturn, 1) := by decide +kernel
theorem dX0_handlerRows_0 : decode cX0_handlerRows 0 = .ok (.aload_n 0, 1) := by decide +kernel
theorem dX0_handlerRows_1 : decode cX0_handlerRows 1 = .ok (.getfield 17, 3) := by decide +kernel
theorem dX0_handlerRows_4 : decode cX0_handlerRows 4 = .ok (.aload_n 0, 1) := by decide +kernel
theorem dX0_handlerRows_5 : decode cX0_handlerRows 5 = .ok (.getfield 31, 3) := by decide +kernel
theorem dX0_handlerRows_8 : decode cX0_handlerRows 8 = .ok (.iconst 4, 1) := by decide +kernel
theorem dX0_handlerRows_9 : decode cX0_handlerRows 9 = .ok (.imul, 1) := by decide +kernel
theorem dX0_handlerRows_10 : decode cX0_handlerRows 10 = .ok (.invokestatic 40, 3) := by decide +kernel
theorem dX0_handlerRows_13 : decode cX0_handlerRows 13 = .ok (.areturn, 1) := by decide +kernel
theorem dX3_await_0 : decode cX3_await 0 = .ok (.aload_n 0, 1) := by decide +kernel
theorem dX3_await_1 : decode cX3_await 1 = .ok (.getfield 15, 3) := by decide +kernel
theorem dX3_await_4 : decode cX3_await 4 = .ok (.iload_n 1, 1) := by decide +kernel
theorem dX3_await_5 : decode cX3_await 5 = .ok (.baload, 1) := by decide +kernel
theorem dX3_await_6 : decode cX3_await 6 = .ok (.ifCond .eq 4, 3) := by decide +kernel
theorem dX3_await_9 : decode cX3_await 9 = .ok (.return_, 1) := by decide +kernel
theorem dX3_await_10 : decode cX3_await 10 = .ok (.aload_n 0, 1) := by decide +kernel
theorem dX3_await_11 : decode cX3_await 11 = .ok (.getfield 15, 3) := by decide +kernel
theorem dX3_await_14 : decode cX3_await 14 = .ok (.iload_n 1, 1) := by decide +kernel
theorem dX3_await_15 : decode cX3_await 15 = .ok (.iconst 1, 1) := by decide +kernel
theorem dX3_await_16 : decode cX3_await 16 = .ok (.bastore, 1) := by decide +kernel
theorem dX3_await_17 : decode cX3_await 17 = .ok (.aload_n 0, 1) := by decide +kernel
theorem dX3_await_18 : decode cX3_await 18 = .ok (.getfield 18, 3) := by decide +kernel
theorem dX3_await_21 : decode cX3_await 21 = .ok (.aload_n 0, 1) := by decide +kernel
theorem dX3_await_22 : decode cX3_await 22 = .ok (.getfield 44, 3) := by decide +kernel
theorem dX3_await_25 : decode cX3_await 25 = .ok (.iload_n 1, 1) := by decide +kernel
theorem dX3_await_26 : decode cX3_await 26 = .ok (.iastore, 1) := by decide +kernel
theorem dX3_await_27 : decode cX3_await 27 = .ok (.aload_n 0, 1) := by decide +kernel
theorem dX3_await_28 : decode cX3_await 28 = .ok (.dup, 1) := by decide +kernel
theorem dX3_await_29 : decode cX3_await 29 = .ok (.getfield 44, 3) := by decide +kernel
theorem dX3_await_32 : decode cX3_await 32 = .ok (.iconst 1, 1) := by decide +kernel
theorem dX3_await_33 : decode cX3_await 33 = .ok (.iadd, 1) := by decide +kernel
theorem dX3_await_34 : decode cX3_await 34 = .ok (.putfield 44, 3) := by decide +kernel
theorem dX3_await_37 : decode cX3_await 37 = .ok (.return_, 1) := by decide +kernel
theorem dX3_commonKinds_0 : decode cX3_commonKinds 0 = .ok (.iload_n 0, 1) := by decide +kernel
theorem dX3_commonKinds_1 : decode cX3_commonKinds 1 = .ok (.iload_n 1, 1) := by decide +kernel
theorem dX3_commonKinds_2 : decode cX3_commonKinds 2 = .ok (.ixor, 1) := by decide +kernel
theorem dX3_commonKinds_3 : decode cX3_commonKinds 3 = .ok (.istore_n 2, 1) := by decide +kernel
theorem dX3_commonKinds_4 : decode cX3_commonKinds 4 = .ok (.iload_n 2, 1) := by decide +kernel
theorem dX3_commonKinds_5 : decode cX3_commonKinds 5 = .ok (.iload_n 2, 1) := by decide +kernel
theorem dX3_commonKinds_6 : decode cX3_commonKinds 6 = .ok (.iconst 1, 1) := by decide +kernel
theorem dX3_commonKinds_7 : decode cX3_commonKinds 7 = .ok (.iushr, 1) := by decide +kernel
theorem dX3_commonKinds_8 : decode cX3_commonKinds 8 = .ok (.ior, 1) := by decide +kernel
theorem dX3_commonKinds_9 : decode cX3_commonKinds 9 = .ok (.ldc 130, 2) := by decide +kernel
theorem dX3_commonKinds_11 : decode cX3_commonKinds 11 = .ok (.iand, 1) := by decide +kernel
theorem dX3_commonKinds_12 : decode cX3_commonKinds 12 = .ok (.istore_n 3, 1) := by decide +kernel
theorem dX3_commonKinds_13 : decode cX3_commonKinds 13 = .ok (.iload_n 0, 1) := by decide +kernel
theorem dX3_commonKinds_14 : decode cX3_commonKinds 14 = .ok (.iload_n 3, 1) := by decide +kernel
theorem dX3_commonKinds_15 : decode cX3_commonKinds 15 = .ok (.iload_n 3, 1) := by decide +kernel
theorem dX3_commonKinds_16 : decode cX3_commonKinds 16 = .ok (.iconst 1, 1) := by decide +kernel
theorem dX3_commonKinds_17 : decode cX3_commonKinds 17 = .ok (.ishl, 1) := by decide +kernel
theorem dX3_commonKinds_18 : decode cX3_commonKinds 18 = .ok (.ior, 1) := by decide +kernel
theorem dX3_commonKinds_19 : decode cX3_commonKinds 19 = .ok (.iconst (-1), 1) := by decide +kernel
theorem dX3_commonKinds_20 : decode cX3_commonKinds 20 = .ok (.ixor, 1) := by decide +kernel
theorem dX3_commonKinds_21 : decode cX3_commonKinds 21 = .ok (.iand, 1) := by decide +kernel
theorem dX3_commonKinds_22 : decode cX3_commonKinds 22 = .ok (.ireturn, 1) := by decide +kernel
theorem dX3_require_0 : decode cX3_require 0 = .ok (.iload_n 1, 1) := by decide +kernel
theorem dX3_require_1 : decode cX3_require 1 = .ok (.ifCond .ne 8, 3) := by decide +kernel
theorem dX3_require_4 : decode cX3_require 4 = .ok (.aload_n 0, 1) := by decide +kernel
theorem dX3_require_5 : decode cX3_require 5 = .ok (.iconst 0, 1) := by decide +kernel
theorem dX3_require_6 : decode cX3_require 6 = .ok (.putfield 40, 3) := by decide +kernel
theorem dX3_require_9 : decode cX3_require 9 = .ok (.return_, 1) := by decide +kernel
theorem dX3_lead_0 : decode cX3_lead 0 = .ok (.aload_n 0, 1) := by decide +kernel
theorem dX3_lead_1 : decode cX3_lead 1 = .ok (.iload_n 1, 1) := by decide +kernel
theorem dX3_lead_2 : decode cX3_lead 2 = .ok (.ifCond .lt 19, 3) := by decide +kernel
theorem dX3_lead_5 : decode cX3_lead 5 = .ok (.iload_n 1, 1) := by decide +kernel
theorem dX3_lead_6 : decode cX3_lead 6 = .ok (.aload_n 0, 1) := by decide +kernel
theorem dX3_lead_7 : decode cX3_lead 7 = .ok (.getfield 36, 3) := by decide +kernel
theorem dX3_lead_10 : decode cX3_lead 10 = .ok (.getfield 73, 3) := by decide +kernel
theorem dX3_lead_13 : decode cX3_lead 13 = .ok (.arraylength, 1) := by decide +kernel
theorem dX3_lead_14 : decode cX3_lead 14 = .ok (.if_icmp .ge 7, 3) := by decide +kernel
theorem dX3_lead_17 : decode cX3_lead 17 = .ok (.iconst 1, 1) := by decide +kernel
theorem dX3_lead_18 : decode cX3_lead 18 = .ok (.goto 4, 3) := by decide +kernel
theorem dX3_lead_21 : decode cX3_lead 21 = .ok (.iconst 0, 1) := by decide +kernel
theorem dX3_lead_22 : decode cX3_lead 22 = .ok (.invokevirtual 77, 3) := by decide +kernel
theorem dX3_lead_25 : decode cX3_lead 25 = .ok (.aload_n 0, 1) := by decide +kernel
theorem dX3_lead_26 : decode cX3_lead 26 = .ok (.getfield 40, 3) := by decide +kernel
theorem dX3_lead_29 : decode cX3_lead 29 = .ok (.ifCond .ne 4, 3) := by decide +kernel
theorem dX3_lead_32 : decode cX3_lead 32 = .ok (.return_, 1) := by decide +kernel
theorem dX3_lead_33 : decode cX3_lead 33 = .ok (.aload_n 0, 1) := by decide +kernel
theorem dX3_lead_34 : decode cX3_lead 34 = .ok (.getfield 9, 3) := by decide +kernel
theorem dX3_lead_37 : decode cX3_lead 37 = .ok (.iload_n 1, 1) := by decide +kernel
theorem dX3_lead_38 : decode cX3_lead 38 = .ok (.baload, 1) := by decide +kernel
theorem dX3_lead_39 : decode cX3_lead 39 = .ok (.ifCond .ne 30, 3) := by decide +kernel
theorem dX3_lead_42 : decode cX3_lead 42 = .ok (.aload_n 0, 1) := by decide +kernel
theorem dX3_lead_43 : decode cX3_lead 43 = .ok (.getfield 9, 3) := by decide +kernel
theorem dX3_lead_46 : decode cX3_lead 46 = .ok (.iload_n 1, 1) := by decide +kernel
theorem dX3_lead_47 : decode cX3_lead 47 = .ok (.iconst 1, 1) := by decide +kernel
theorem dX3_lead_48 : decode cX3_lead 48 = .ok (.bastore, 1) := by decide +kernel
theorem dX3_lead_49 : decode cX3_lead 49 = .ok (.aload_n 0, 1) := by decide +kernel
theorem dX3_lead_50 : decode cX3_lead 50 = .ok (.getfield 22, 3) := by decide +kernel
theorem dX3_lead_53 : decode cX3_lead 53 = .ok (.iload_n 1, 1) := by decide +kernel
theorem dX3_lead_54 : decode cX3_lead 54 = .ok (.iload_n 2, 1) := by decide +kernel
theorem dX3_lead_55 : decode cX3_lead 55 = .ok (.iastore, 1) := by decide +kernel
theorem dX3_lead_56 : decode cX3_lead 56 = .ok (.aload_n 0, 1) := by decide +kernel
theorem dX3_lead_57 : decode cX3_lead 57 = .ok (.getfield 25, 3) := by decide +kernel
theorem dX3_lead_60 : decode cX3_lead 60 = .ok (.iload_n 1, 1) := by decide +kernel
theorem dX3_lead_61 : decode cX3_lead 61 = .ok (.iload_n 3, 1) := by decide +kernel
theorem dX3_lead_62 : decode cX3_lead 62 = .ok (.iastore, 1) := by decide +kernel
theorem dX3_lead_63 : decode cX3_lead 63 = .ok (.aload_n 0, 1) := by decide +kernel
theorem dX3_lead_64 : decode cX3_lead 64 = .ok (.iload_n 1, 1) := by decide +kernel
theorem dX3_lead_65 : decode cX3_lead 65 = .ok (.invokevirtual 123, 3) := by decide +kernel
theorem dX3_lead_68 : decode cX3_lead 68 = .ok (.return_, 1) := by decide +kernel
theorem dX3_lead_69 : decode cX3_lead 69 = .ok (.aload_n 0, 1) := by decide +kernel
theorem dX3_lead_70 : decode cX3_lead 70 = .ok (.aload_n 0, 1) := by decide +kernel
theorem dX3_lead_71 : decode cX3_lead 71 = .ok (.getfield 22, 3) := by decide +kernel
theorem dX3_lead_74 : decode cX3_lead 74 = .ok (.iload_n 1, 1) := by decide +kernel
theorem dX3_lead_75 : decode cX3_lead 75 = .ok (.iaload, 1) := by decide +kernel
theorem dX3_lead_76 : decode cX3_lead 76 = .ok (.iload_n 2, 1) := by decide +kernel
theorem dX3_lead_77 : decode cX3_lead 77 = .ok (.if_icmp .ne 7, 3) := by decide +kernel
theorem dX3_lead_80 : decode cX3_lead 80 = .ok (.iconst 1, 1) := by decide +kernel
theorem dX3_lead_81 : decode cX3_lead 81 = .ok (.goto 4, 3) := by decide +kernel
theorem dX3_lead_84 : decode cX3_lead 84 = .ok (.iconst 0, 1) := by decide +kernel
theorem dX3_lead_85 : decode cX3_lead 85 = .ok (.invokevirtual 77, 3) := by decide +kernel
theorem dX3_lead_88 : decode cX3_lead 88 = .ok (.aload_n 0, 1) := by decide +kernel
theorem dX3_lead_89 : decode cX3_lead 89 = .ok (.getfield 25, 3) := by decide +kernel
theorem dX3_lead_92 : decode cX3_lead 92 = .ok (.iload_n 1, 1) := by decide +kernel
theorem dX3_lead_93 : decode cX3_lead 93 = .ok (.iaload, 1) := by decide +kernel
theorem dX3_lead_94 : decode cX3_lead 94 = .ok (.iload_n 3, 1) := by decide +kernel
theorem dX3_lead_95 : decode cX3_lead 95 = .ok (.invokestatic 126, 3) := by decide +kernel
theorem dX3_lead_98 : decode cX3_lead 98 = .ok (.istore 4, 2) := by decide +kernel
theorem dX3_lead_100 : decode cX3_lead 100 = .ok (.iload 4, 2) := by decide +kernel
theorem dX3_lead_102 : decode cX3_lead 102 = .ok (.aload_n 0, 1) := by decide +kernel
theorem dX3_lead_103 : decode cX3_lead 103 = .ok (.getfield 25, 3) := by decide +kernel
theorem dX3_lead_106 : decode cX3_lead 106 = .ok (.iload_n 1, 1) := by decide +kernel
theorem dX3_lead_107 : decode cX3_lead 107 = .ok (.iaload, 1) := by decide +kernel
theorem dX3_lead_108 : decode cX3_lead 108 = .ok (.if_icmp .eq 16, 3) := by decide +kernel
theorem dX3_lead_111 : decode cX3_lead 111 = .ok (.aload_n 0, 1) := by decide +kernel
theorem dX3_lead_112 : decode cX3_lead 112 = .ok (.getfield 25, 3) := by decide +kernel
theorem dX3_lead_115 : decode cX3_lead 115 = .ok (.iload_n 1, 1) := by decide +kernel
theorem dX3_lead_116 : decode cX3_lead 116 = .ok (.iload 4, 2) := by decide +kernel
theorem dX3_lead_118 : decode cX3_lead 118 = .ok (.iastore, 1) := by decide +kernel
theorem dX3_lead_119 : decode cX3_lead 119 = .ok (.aload_n 0, 1) := by decide +kernel
theorem dX3_lead_120 : decode cX3_lead 120 = .ok (.iload_n 1, 1) := by decide +kernel
theorem dX3_lead_121 : decode cX3_lead 121 = .ok (.invokevirtual 123, 3) := by decide +kernel
theorem dX3_lead_124 : decode cX3_lead 124 = .ok (.return_, 1) := by decide +kernel
theorem dX3_give_0 : decode cX3_give 0 = .ok (.iload_n 1, 1) := by decide +kernel
theorem dX3_give_1 : decode cX3_give 1 = .ok (.ifCond .ne 4, 3) := by decide +kernel
theorem dX3_give_4 : decode cX3_give 4 = .ok (.return_, 1) := by decide +kernel
theorem dX3_give_5 : decode cX3_give 5 = .ok (.aload_n 0, 1) := by decide +kernel
theorem dX3_give_6 : decode cX3_give 6 = .ok (.aload_n 0, 1) := by decide +kernel
theorem dX3_give_7 : decode cX3_give 7 = .ok (.getfield 81, 3) := by decide +kernel
theorem dX3_give_10 : decode cX3_give 10 = .ok (.iconst 2, 1) := by decide +kernel
theorem dX3_give_11 : decode cX3_give 11 = .ok (.ishl, 1) := by decide +kernel
theorem dX3_give_12 : decode cX3_give 12 = .ok (.iload_n 1, 1) := by decide +kernel
theorem dX3_give_13 : decode cX3_give 13 = .ok (.ior, 1) := by decide +kernel
theorem dX3_give_14 : decode cX3_give 14 = .ok (.putfield 81, 3) := by decide +kernel
theorem dX3_give_17 : decode cX3_give 17 = .ok (.aload_n 0, 1) := by decide +kernel
theorem dX3_give_18 : decode cX3_give 18 = .ok (.aload_n 0, 1) := by decide +kernel
theorem dX3_give_19 : decode cX3_give 19 = .ok (.getfield 81, 3) := by decide +kernel
theorem dX3_give_22 : decode cX3_give 22 = .ok (.iconst 2, 1) := by decide +kernel
theorem dX3_give_23 : decode cX3_give 23 = .ok (.aload_n 0, 1) := by decide +kernel
theorem dX3_give_24 : decode cX3_give 24 = .ok (.getfield 36, 3) := by decide +kernel
theorem dX3_give_27 : decode cX3_give 27 = .ok (.getfield 122, 3) := by decide +kernel
theorem dX3_give_30 : decode cX3_give 30 = .ok (.imul, 1) := by decide +kernel
theorem dX3_give_31 : decode cX3_give 31 = .ok (.iushr, 1) := by decide +kernel
theorem dX3_give_32 : decode cX3_give 32 = .ok (.ifCond .ne 7, 3) := by decide +kernel
theorem dX3_give_35 : decode cX3_give 35 = .ok (.iconst 1, 1) := by decide +kernel
theorem dX3_give_36 : decode cX3_give 36 = .ok (.goto 4, 3) := by decide +kernel
theorem dX3_give_39 : decode cX3_give 39 = .ok (.iconst 0, 1) := by decide +kernel
theorem dX3_give_40 : decode cX3_give 40 = .ok (.invokevirtual 77, 3) := by decide +kernel
theorem dX3_give_43 : decode cX3_give 43 = .ok (.return_, 1) := by decide +kernel
theorem dX3_takeNarrow_0 : decode cX3_takeNarrow 0 = .ok (.aload_n 0, 1) := by decide +kernel
theorem dX3_takeNarrow_1 : decode cX3_takeNarrow 1 = .ok (.getfield 81, 3) := by decide +kernel
theorem dX3_takeNarrow_4 : decode cX3_takeNarrow 4 = .ok (.iconst 3, 1) := by decide +kernel
theorem dX3_takeNarrow_5 : decode cX3_takeNarrow 5 = .ok (.iand, 1) := by decide +kernel
theorem dX3_takeNarrow_6 : decode cX3_takeNarrow 6 = .ok (.istore_n 1, 1) := by decide +kernel
theorem dX3_takeNarrow_7 : decode cX3_takeNarrow 7 = .ok (.aload_n 0, 1) := by decide +kernel
theorem dX3_takeNarrow_8 : decode cX3_takeNarrow 8 = .ok (.iload_n 1, 1) := by decide +kernel
theorem dX3_takeNarrow_9 : decode cX3_takeNarrow 9 = .ok (.iconst 1, 1) := by decide +kernel
theorem dX3_takeNarrow_10 : decode cX3_takeNarrow 10 = .ok (.if_icmp .eq 8, 3) := by decide +kernel
theorem dX3_takeNarrow_13 : decode cX3_takeNarrow 13 = .ok (.iload_n 1, 1) := by decide +kernel
theorem dX3_takeNarrow_14 : decode cX3_takeNarrow 14 = .ok (.iconst 3, 1) := by decide +kernel
theorem dX3_takeNarrow_15 : decode cX3_takeNarrow 15 = .ok (.if_icmp .ne 7, 3) := by decide +kernel
theorem dX3_takeNarrow_18 : decode cX3_takeNarrow 18 = .ok (.iconst 1, 1) := by decide +kernel
theorem dX3_takeNarrow_19 : decode cX3_takeNarrow 19 = .ok (.goto 4, 3) := by decide +kernel
theorem dX3_takeNarrow_22 : decode cX3_takeNarrow 22 = .ok (.iconst 0, 1) := by decide +kernel
theorem dX3_takeNarrow_23 : decode cX3_takeNarrow 23 = .ok (.invokevirtual 77, 3) := by decide +kernel
theorem dX3_takeNarrow_26 : decode cX3_takeNarrow 26 = .ok (.aload_n 0, 1) := by decide +kernel
theorem dX3_takeNarrow_27 : decode cX3_takeNarrow 27 = .ok (.dup, 1) := by decide +kernel
theorem dX3_takeNarrow_28 : decode cX3_takeNarrow 28 = .ok (.getfield 81, 3) := by decide +kernel
theorem dX3_takeNarrow_31 : decode cX3_takeNarrow 31 = .ok (.iconst 2, 1) := by decide +kernel
theorem dX3_takeNarrow_32 : decode cX3_takeNarrow 32 = .ok (.iushr, 1) := by decide +kernel
theorem dX3_takeNarrow_33 : decode cX3_takeNarrow 33 = .ok (.putfield 81, 3) := by decide +kernel
theorem dX3_takeNarrow_36 : decode cX3_takeNarrow 36 = .ok (.iload_n 1, 1) := by decide +kernel
theorem dX3_takeNarrow_37 : decode cX3_takeNarrow 37 = .ok (.ireturn, 1) := by decide +kernel
theorem dX3_duplicate_0 : decode cX3_duplicate 0 = .ok (.aload_n 0, 1) := by decide +kernel
theorem dX3_duplicate_1 : decode cX3_duplicate 1 = .ok (.invokevirtual 138, 3) := by decide +kernel
theorem dX3_duplicate_4 : decode cX3_duplicate 4 = .ok (.istore_n 1, 1) := by decide +kernel
theorem dX3_duplicate_5 : decode cX3_duplicate 5 = .ok (.aload_n 0, 1) := by decide +kernel
theorem dX3_duplicate_6 : decode cX3_duplicate 6 = .ok (.iload_n 1, 1) := by decide +kernel
theorem dX3_duplicate_7 : decode cX3_duplicate 7 = .ok (.invokevirtual 102, 3) := by decide +kernel
theorem dX3_duplicate_10 : decode cX3_duplicate 10 = .ok (.aload_n 0, 1) := by decide +kernel
theorem dX3_duplicate_11 : decode cX3_duplicate 11 = .ok (.iload_n 1, 1) := by decide +kernel
theorem dX3_duplicate_12 : decode cX3_duplicate 12 = .ok (.invokevirtual 102, 3) := by decide +kernel
theorem dX3_duplicate_15 : decode cX3_duplicate 15 = .ok (.return_, 1) := by decide +kernel
theorem dX3_exchange_0 : decode cX3_exchange 0 = .ok (.aload_n 0, 1) := by decide +kernel
theorem dX3_exchange_1 : decode cX3_exchange 1 = .ok (.invokevirtual 138, 3) := by decide +kernel
theorem dX3_exchange_4 : decode cX3_exchange 4 = .ok (.istore_n 1, 1) := by decide +kernel
theorem dX3_exchange_5 : decode cX3_exchange 5 = .ok (.aload_n 0, 1) := by decide +kernel
theorem dX3_exchange_6 : decode cX3_exchange 6 = .ok (.invokevirtual 138, 3) := by decide +kernel
theorem dX3_exchange_9 : decode cX3_exchange 9 = .ok (.istore_n 2, 1) := by decide +kernel
theorem dX3_exchange_10 : decode cX3_exchange 10 = .ok (.aload_n 0, 1) := by decide +kernel
theorem dX3_exchange_11 : decode cX3_exchange 11 = .ok (.iload_n 1, 1) := by decide +kernel
theorem dX3_exchange_12 : decode cX3_exchange 12 = .ok (.invokevirtual 102, 3) := by decide +kernel
theorem dX3_exchange_15 : decode cX3_exchange 15 = .ok (.aload_n 0, 1) := by decide +kernel
theorem dX3_exchange_16 : decode cX3_exchange 16 = .ok (.iload_n 2, 1) := by decide +kernel
theorem dX3_exchange_17 : decode cX3_exchange 17 = .ok (.invokevirtual 102, 3) := by decide +kernel
theorem dX3_exchange_20 : decode cX3_exchange 20 = .ok (.return_, 1) := by decide +kernel
theorem dX6_at_0 : decode cX6_at 0 = .ok (.aload_n 0, 1) := by decide +kernel
theorem dX6_at_1 : decode cX6_at 1 = .ok (.getfield 9, 3) := by decide +kernel
theorem dX6_at_4 : decode cX6_at 4 = .ok (.iload_n 1, 1) := by decide +kernel
theorem dX6_at_5 : decode cX6_at 5 = .ok (.baload, 1) := by decide +kernel
theorem dX6_at_6 : decode cX6_at 6 = .ok (.sipush 255, 3) := by decide +kernel
theorem dX6_at_9 : decode cX6_at 9 = .ok (.iand, 1) := by decide +kernel
theorem dX6_at_10 : decode cX6_at 10 = .ok (.ireturn, 1) := by decide +kernel
theorem dX7_kindOfField_0 : decode cX7_kindOfField 0 = .ok (.aload_n 0, 1) := by decide +kernel
theorem dX7_kindOfField_1 : decode cX7_kindOfField 1 = .ok (.getfield 18, 3) := by decide +kernel
theorem dX7_kindOfField_4 : decode cX7_kindOfField 4 = .ok (.iload_n 1, 1) := by decide +kernel
theorem dX7_kindOfField_5 : decode cX7_kindOfField 5 = .ok (.iaload, 1) := by decide +kernel
theorem dX7_kindOfField_6 : decode cX7_kindOfField 6 = .ok (.iload_n 2, 1) := by decide +kernel
theorem dX7_kindOfField_7 : decode cX7_kindOfField 7 = .ok (.ishr, 1) := by decide +kernel
theorem dX7_kindOfField_8 : decode cX7_kindOfField 8 = .ok (.iconst 1, 1) := by decide +kernel
theorem dX7_kindOfField_9 : decode cX7_kindOfField 9 = .ok (.iand, 1) := by decide +kernel
theorem dX7_kindOfField_10 : decode cX7_kindOfField 10 = .ok (.iconst 1, 1) := by decide +kernel
theorem dX7_kindOfField_11 : decode cX7_kindOfField 11 = .ok (.if_icmp .ne 7, 3) := by decide +kernel
theorem dX7_kindOfField_14 : decode cX7_kindOfField 14 = .ok (.iconst 3, 1) := by decide +kernel
theorem dX7_kindOfField_15 : decode cX7_kindOfField 15 = .ok (.goto 4, 3) := by decide +kernel
theorem dX7_kindOfField_18 : decode cX7_kindOfField 18 = .ok (.iconst 1, 1) := by decide +kernel
theorem dX7_kindOfField_19 : decode cX7_kindOfField 19 = .ok (.ireturn, 1) := by decide +kernel
theorem dX3_fieldKind_0 : decode cX3_fieldKind 0 = .ok (.aload_n 0, 1) := by decide +kernel
theorem dX3_fieldKind_1 : decode cX3_fieldKind 1 = .ok (.getfield 36, 3) := by decide +kernel
theorem dX3_fieldKind_4 : decode cX3_fieldKind 4 = .ok (.iload_n 1, 1) := by decide +kernel
theorem dX3_fieldKind_5 : decode cX3_fieldKind 5 = .ok (.iconst 1, 1) := by decide +kernel
theorem dX3_fieldKind_6 : decode cX3_fieldKind 6 = .ok (.iadd, 1) := by decide +kernel
theorem dX3_fieldKind_7 : decode cX3_fieldKind 7 = .ok (.invokevirtual 61, 3) := by decide +kernel
theorem dX3_fieldKind_10 : decode cX3_fieldKind 10 = .ok (.istore_n 2, 1) := by decide +kernel
theorem dX3_fieldKind_11 : decode cX3_fieldKind 11 = .ok (.aload_n 0, 1) := by decide +kernel
theorem dX3_fieldKind_12 : decode cX3_fieldKind 12 = .ok (.getfield 36, 3) := by decide +kernel
theorem dX3_fieldKind_15 : decode cX3_fieldKind 15 = .ok (.iload_n 1, 1) := by decide +kernel
theorem dX3_fieldKind_16 : decode cX3_fieldKind 16 = .ok (.iconst 2, 1) := by decide +kernel
theorem dX3_fieldKind_17 : decode cX3_fieldKind 17 = .ok (.iadd, 1) := by decide +kernel
theorem dX3_fieldKind_18 : decode cX3_fieldKind 18 = .ok (.invokevirtual 61, 3) := by decide +kernel
theorem dX3_fieldKind_21 : decode cX3_fieldKind 21 = .ok (.istore_n 3, 1) := by decide +kernel
theorem dX3_fieldKind_22 : decode cX3_fieldKind 22 = .ok (.aload_n 0, 1) := by decide +kernel
theorem dX3_fieldKind_23 : decode cX3_fieldKind 23 = .ok (.getfield 28, 3) := by decide +kernel
theorem dX3_fieldKind_26 : decode cX3_fieldKind 26 = .ok (.iload_n 2, 1) := by decide +kernel
theorem dX3_fieldKind_27 : decode cX3_fieldKind 27 = .ok (.invokevirtual 157, 3) := by decide +kernel
theorem dX3_fieldKind_30 : decode cX3_fieldKind 30 = .ok (.ifCond .eq 20, 3) := by decide +kernel
theorem dX3_fieldKind_33 : decode cX3_fieldKind 33 = .ok (.iload_n 3, 1) := by decide +kernel
theorem dX3_fieldKind_34 : decode cX3_fieldKind 34 = .ok (.aload_n 0, 1) := by decide +kernel
theorem dX3_fieldKind_35 : decode cX3_fieldKind 35 = .ok (.getfield 28, 3) := by decide +kernel
theorem dX3_fieldKind_38 : decode cX3_fieldKind 38 = .ok (.getfield 166, 3) := by decide +kernel
theorem dX3_fieldKind_41 : decode cX3_fieldKind 41 = .ok (.iload_n 2, 1) := by decide +kernel
theorem dX3_fieldKind_42 : decode cX3_fieldKind 42 = .ok (.iaload, 1) := by decide +kernel
theorem dX3_fieldKind_43 : decode cX3_fieldKind 43 = .ok (.if_icmp .ge 7, 3) := by decide +kernel
theorem dX3_fieldKind_46 : decode cX3_fieldKind 46 = .ok (.iconst 1, 1) := by decide +kernel
theorem dX3_fieldKind_47 : decode cX3_fieldKind 47 = .ok (.goto 4, 3) := by decide +kernel
theorem dX3_fieldKind_50 : decode cX3_fieldKind 50 = .ok (.iconst 0, 1) := by decide +kernel
theorem dX3_fieldKind_51 : decode cX3_fieldKind 51 = .ok (.istore 4, 2) := by decide +kernel
theorem dX3_fieldKind_53 : decode cX3_fieldKind 53 = .ok (.aload_n 0, 1) := by decide +kernel
theorem dX3_fieldKind_54 : decode cX3_fieldKind 54 = .ok (.iload 4, 2) := by decide +kernel
theorem dX3_fieldKind_56 : decode cX3_fieldKind 56 = .ok (.invokevirtual 77, 3) := by decide +kernel
theorem dX3_fieldKind_59 : decode cX3_fieldKind 59 = .ok (.iload 4, 2) := by decide +kernel
theorem dX3_fieldKind_61 : decode cX3_fieldKind 61 = .ok (.ifCond .eq 15, 3) := by decide +kernel
theorem dX3_fieldKind_64 : decode cX3_fieldKind 64 = .ok (.aload_n 0, 1) := by decide +kernel
theorem dX3_fieldKind_65 : decode cX3_fieldKind 65 = .ok (.getfield 28, 3) := by decide +kernel
theorem dX3_fieldKind_68 : decode cX3_fieldKind 68 = .ok (.iload_n 2, 1) := by decide +kernel
theorem dX3_fieldKind_69 : decode cX3_fieldKind 69 = .ok (.iload_n 3, 1) := by decide +kernel
theorem dX3_fieldKind_70 : decode cX3_fieldKind 70 = .ok (.invokevirtual 169, 3) := by decide +kernel
theorem dX3_fieldKind_73 : decode cX3_fieldKind 73 = .ok (.goto 4, 3) := by decide +kernel
theorem dX3_fieldKind_76 : decode cX3_fieldKind 76 = .ok (.iconst 0, 1) := by decide +kernel
theorem dX3_fieldKind_77 : decode cX3_fieldKind 77 = .ok (.ireturn, 1) := by decide +kernel
theorem dX3_isSortOfNumbers_0 : decode cX3_isSortOfNumbers 0 = .ok (.iload_n 0, 1) := by decide +kernel
theorem dX3_isSortOfNumbers_1 : decode cX3_isSortOfNumbers 1 = .ok (.iconst 4, 1) := by decide +kernel
theorem dX3_isSortOfNumbers_2 : decode cX3_isSortOfNumbers 2 = .ok (.if_icmp .lt 25, 3) := by decide +kernel
theorem dX3_isSortOfNumbers_5 : decode cX3_isSortOfNumbers 5 = .ok (.iload_n 0, 1) := by decide +kernel
theorem dX3_isSortOfNumbers_6 : decode cX3_isSortOfNumbers 6 = .ok (.bipush 11, 2) := by decide +kernel
theorem dX3_isSortOfNumbers_8 : decode cX3_isSortOfNumbers 8 = .ok (.if_icmp .gt 19, 3) := by decide +kernel
theorem dX3_isSortOfNumbers_11 : decode cX3_isSortOfNumbers 11 = .ok (.iload_n 0, 1) := by decide +kernel
theorem dX3_isSortOfNumbers_12 : decode cX3_isSortOfNumbers 12 = .ok (.bipush 6, 2) := by decide +kernel
theorem dX3_isSortOfNumbers_14 : decode cX3_isSortOfNumbers 14 = .ok (.if_icmp .eq 13, 3) := by decide +kernel
theorem dX3_isSortOfNumbers_17 : decode cX3_isSortOfNumbers 17 = .ok (.iload_n 0, 1) := by decide +kernel
theorem dX3_isSortOfNumbers_18 : decode cX3_isSortOfNumbers 18 = .ok (.bipush 7, 2) := by decide +kernel
theorem dX3_isSortOfNumbers_20 : decode cX3_isSortOfNumbers 20 = .ok (.if_icmp .eq 7, 3) := by decide +kernel
theorem dX3_isSortOfNumbers_23 : decode cX3_isSortOfNumbers 23 = .ok (.iconst 1, 1) := by decide +kernel
theorem dX3_isSortOfNumbers_24 : decode cX3_isSortOfNumbers 24 = .ok (.goto 4, 3) := by decide +kernel
theorem dX3_isSortOfNumbers_27 : decode cX3_isSortOfNumbers 27 = .ok (.iconst 0, 1) := by decide +kernel
theorem dX3_isSortOfNumbers_28 : decode cX3_isSortOfNumbers 28 = .ok (.ireturn, 1) := by decide +kernel
theorem dJ3_checkIndex_8e157_0 : decode cJ3_checkIndex_8e157 0 = .ok (.iload_n 0, 1) := by decide +kernel
theorem dJ3_checkIndex_8e157_1 : decode cJ3_checkIndex_8e157 1 = .ok (.ifCond .lt 8, 3) := by decide +kernel
theorem dJ3_checkIndex_8e157_4 : decode cJ3_checkIndex_8e157 4 = .ok (.iload_n 0, 1) := by decide +kernel
theorem dJ3_checkIndex_8e157_5 : decode cJ3_checkIndex_8e157 5 = .ok (.iload_n 1, 1) := by decide +kernel
theorem dJ3_checkIndex_8e157_6 : decode cJ3_checkIndex_8e157 6 = .ok (.if_icmp .lt 10, 3) := by decide +kernel
theorem dJ3_checkIndex_8e157_9 : decode cJ3_checkIndex_8e157 9 = .ok (.aload_n 2, 1) := by decide +kernel
theorem dJ3_checkIndex_8e157_10 : decode cJ3_checkIndex_8e157 10 = .ok (.iload_n 0, 1) := by decide +kernel
theorem dJ3_checkIndex_8e157_11 : decode cJ3_checkIndex_8e157 11 = .ok (.iload_n 1, 1) := by decide +kernel
theorem dJ3_checkIndex_8e157_16 : decode cJ3_checkIndex_8e157 16 = .ok (.iload_n 0, 1) := by decide +kernel
theorem dJ3_checkIndex_8e157_17 : decode cJ3_checkIndex_8e157 17 = .ok (.ireturn, 1) := by decide +kernel
theorem dJ15_checkIndex_7cf53_0 : decode cJ15_checkIndex_7cf53 0 = .ok (.iload_n 0, 1) := by decide +kernel
theorem dJ15_checkIndex_7cf53_1 : decode cJ15_checkIndex_7cf53 1 = .ok (.iload_n 1, 1) := by decide +kernel
theorem dJ15_checkIndex_7cf53_2 : decode cJ15_checkIndex_7cf53 2 = .ok (.aconst_null, 1) := by decide +kernel
theorem dJ15_checkIndex_7cf53_3 : decode cJ15_checkIndex_7cf53 3 = .ok (.invokestatic 105, 3) := by decide +kernel
theorem dJ15_checkIndex_7cf53_6 : decode cJ15_checkIndex_7cf53 6 = .ok (.ireturn, 1) := by decide +kernel
theorem dJx4a65c_elementData_915e3_0 : decode cJx4a65c_elementData_915e3 0 = .ok (.aload_n 0, 1) := by decide +kernel
theorem dJx4a65c_elementData_915e3_1 : decode cJx4a65c_elementData_915e3 1 = .ok (.getfield 9, 3) := by decide +kernel
theorem dJx4a65c_elementData_915e3_4 : decode cJx4a65c_elementData_915e3 4 = .ok (.iload_n 1, 1) := by decide +kernel
theorem dJx4a65c_elementData_915e3_5 : decode cJx4a65c_elementData_915e3 5 = .ok (.aaload, 1) := by decide +kernel
theorem dJx4a65c_elementData_915e3_6 : decode cJx4a65c_elementData_915e3 6 = .ok (.areturn, 1) := by decide +kernel
theorem dJx4a65c_get_915e3_0 : decode cJx4a65c_get_915e3 0 = .ok (.iload_n 1, 1) := by decide +kernel
theorem dJx4a65c_get_915e3_1 : decode cJx4a65c_get_915e3 1 = .ok (.aload_n 0, 1) := by decide +kernel
theorem dJx4a65c_get_915e3_2 : decode cJx4a65c_get_915e3 2 = .ok (.getfield 48, 3) := by decide +kernel
theorem dJx4a65c_get_915e3_5 : decode cJx4a65c_get_915e3 5 = .ok (.invokestatic 118, 3) := by decide +kernel
theorem dJx4a65c_get_915e3_8 : decode cJx4a65c_get_915e3 8 = .ok (.pop, 1) := by decide +kernel
theorem dJx4a65c_get_915e3_9 : decode cJx4a65c_get_915e3 9 = .ok (.aload_n 0, 1) := by decide +kernel
theorem dJx4a65c_get_915e3_10 : decode cJx4a65c_get_915e3 10 = .ok (.iload_n 1, 1) := by decide +kernel
theorem dJx4a65c_get_915e3_11 : decode cJx4a65c_get_915e3 11 = .ok (.invokevirtual 123, 3) := by decide +kernel
theorem dJx4a65c_get_915e3_14 : decode cJx4a65c_get_915e3 14 = .ok (.areturn, 1) := by decide +kernel
theorem dX3_take_0 : decode cX3_take 0 = .ok (.iload_n 1, 1) := by decide +kernel
theorem dX3_take_1 : decode cX3_take 1 = .ok (.ifCond .ne 7, 3) := by decide +kernel
theorem dX3_take_4 : decode cX3_take 4 = .ok (.iconst 0, 1) := by decide +kernel
theorem dX3_take_5 : decode cX3_take 5 = .ok (.goto 24, 3) := by decide +kernel
theorem dX3_take_8 : decode cX3_take 8 = .ok (.iload_n 1, 1) := by decide +kernel
theorem dX3_take_9 : decode cX3_take 9 = .ok (.iconst 4, 1) := by decide +kernel
theorem dX3_take_10 : decode cX3_take 10 = .ok (.if_icmp .ge 7, 3) := by decide +kernel
theorem dX3_take_13 : decode cX3_take 13 = .ok (.iconst 2, 1) := by decide +kernel
theorem dX3_take_14 : decode cX3_take 14 = .ok (.goto 15, 3) := by decide +kernel
theorem dX3_take_17 : decode cX3_take 17 = .ok (.iload_n 1, 1) := by decide +kernel
theorem dX3_take_18 : decode cX3_take 18 = .ok (.bipush 16, 2) := by decide +kernel
theorem dX3_take_20 : decode cX3_take 20 = .ok (.if_icmp .ge 7, 3) := by decide +kernel
theorem dX3_take_23 : decode cX3_take 23 = .ok (.iconst 4, 1) := by decide +kernel
theorem dX3_take_24 : decode cX3_take 24 = .ok (.goto 5, 3) := by decide +kernel
theorem dX3_take_27 : decode cX3_take 27 = .ok (.bipush 6, 2) := by decide +kernel
theorem dX3_take_29 : decode cX3_take 29 = .ok (.istore_n 2, 1) := by decide +kernel
theorem dX3_take_30 : decode cX3_take 30 = .ok (.aload_n 0, 1) := by decide +kernel
theorem dX3_take_31 : decode cX3_take 31 = .ok (.aload_n 0, 1) := by decide +kernel
theorem dX3_take_32 : decode cX3_take 32 = .ok (.getfield 81, 3) := by decide +kernel
theorem dX3_take_35 : decode cX3_take 35 = .ok (.iconst 1, 1) := by decide +kernel
theorem dX3_take_36 : decode cX3_take 36 = .ok (.iload_n 2, 1) := by decide +kernel
theorem dX3_take_37 : decode cX3_take 37 = .ok (.ishl, 1) := by decide +kernel
theorem dX3_take_38 : decode cX3_take 38 = .ok (.iconst 1, 1) := by decide +kernel
theorem dX3_take_39 : decode cX3_take 39 = .ok (.isub, 1) := by decide +kernel
theorem dX3_take_40 : decode cX3_take 40 = .ok (.iand, 1) := by decide +kernel
theorem dX3_take_41 : decode cX3_take 41 = .ok (.iload_n 1, 1) := by decide +kernel
theorem dX3_take_42 : decode cX3_take 42 = .ok (.if_icmp .ne 7, 3) := by decide +kernel
theorem dX3_take_45 : decode cX3_take 45 = .ok (.iconst 1, 1) := by decide +kernel
theorem dX3_take_46 : decode cX3_take 46 = .ok (.goto 4, 3) := by decide +kernel
theorem dX3_take_49 : decode cX3_take 49 = .ok (.iconst 0, 1) := by decide +kernel
theorem dX3_take_50 : decode cX3_take 50 = .ok (.invokevirtual 77, 3) := by decide +kernel
theorem dX3_take_53 : decode cX3_take 53 = .ok (.aload_n 0, 1) := by decide +kernel
theorem dX3_take_54 : decode cX3_take 54 = .ok (.dup, 1) := by decide +kernel
theorem dX3_take_55 : decode cX3_take 55 = .ok (.getfield 81, 3) := by decide +kernel
theorem dX3_take_58 : decode cX3_take 58 = .ok (.iload_n 2, 1) := by decide +kernel
theorem dX3_take_59 : decode cX3_take 59 = .ok (.iushr, 1) := by decide +kernel
theorem dX3_take_60 : decode cX3_take 60 = .ok (.putfield 81, 3) := by decide +kernel
theorem dX3_take_63 : decode cX3_take 63 = .ok (.return_, 1) := by decide +kernel
theorem dX6_kindOfArgument_0 : decode cX6_kindOfArgument 0 = .ok (.aload_n 0, 1) := by decide +kernel
theorem dX6_kindOfArgument_1 : decode cX6_kindOfArgument 1 = .ok (.getfield 27, 3) := by decide +kernel
theorem dX6_kindOfArgument_4 : decode cX6_kindOfArgument 4 = .ok (.iconst 2, 1) := by decide +kernel
theorem dX6_kindOfArgument_5 : decode cX6_kindOfArgument 5 = .ok (.iload_n 1, 1) := by decide +kernel
theorem dX6_kindOfArgument_6 : decode cX6_kindOfArgument 6 = .ok (.imul, 1) := by decide +kernel
theorem dX6_kindOfArgument_7 : decode cX6_kindOfArgument 7 = .ok (.ishr, 1) := by decide +kernel
theorem dX6_kindOfArgument_8 : decode cX6_kindOfArgument 8 = .ok (.iconst 3, 1) := by decide +kernel
theorem dX6_kindOfArgument_9 : decode cX6_kindOfArgument 9 = .ok (.iand, 1) := by decide +kernel
theorem dX6_kindOfArgument_10 : decode cX6_kindOfArgument 10 = .ok (.ireturn, 1) := by decide +kernel
theorem dX3_passCall_0 : decode cX3_passCall 0 = .ok (.aload_n 0, 1) := by decide +kernel
theorem dX3_passCall_1 : decode cX3_passCall 1 = .ok (.iload_n 1, 1) := by decide +kernel
theorem dX3_passCall_2 : decode cX3_passCall 2 = .ok (.aload_n 0, 1) := by decide +kernel
theorem dX3_passCall_3 : decode cX3_passCall 3 = .ok (.getfield 32, 3) := by decide +kernel
theorem dX3_passCall_6 : decode cX3_passCall 6 = .ok (.invokevirtual 172, 3) := by decide +kernel
theorem dX3_passCall_9 : decode cX3_passCall 9 = .ok (.if_icmp .gt 7, 3) := by decide +kernel
theorem dX3_passCall_12 : decode cX3_passCall 12 = .ok (.iconst 1, 1) := by decide +kernel
theorem dX3_passCall_13 : decode cX3_passCall 13 = .ok (.goto 4, 3) := by decide +kernel
theorem dX3_passCall_16 : decode cX3_passCall 16 = .ok (.iconst 0, 1) := by decide +kernel
theorem dX3_passCall_17 : decode cX3_passCall 17 = .ok (.invokevirtual 77, 3) := by decide +kernel
theorem dX3_passCall_20 : decode cX3_passCall 20 = .ok (.iload_n 1, 1) := by decide +kernel
theorem dX3_passCall_21 : decode cX3_passCall 21 = .ok (.aload_n 0, 1) := by decide +kernel
theorem dX3_passCall_22 : decode cX3_passCall 22 = .ok (.getfield 32, 3) := by decide +kernel
theorem dX3_passCall_25 : decode cX3_passCall 25 = .ok (.invokevirtual 172, 3) := by decide +kernel
theorem dX3_passCall_28 : decode cX3_passCall 28 = .ok (.if_icmp .ge 17, 3) := by decide +kernel
theorem dX3_passCall_31 : decode cX3_passCall 31 = .ok (.aload_n 0, 1) := by decide +kernel
theorem dX3_passCall_32 : decode cX3_passCall 32 = .ok (.getfield 32, 3) := by decide +kernel
theorem dX3_passCall_35 : decode cX3_passCall 35 = .ok (.iload_n 1, 1) := by decide +kernel
theorem dX3_passCall_36 : decode cX3_passCall 36 = .ok (.invokevirtual 177, 3) := by decide +kernel
theorem dX3_passCall_39 : decode cX3_passCall 39 = .ok (.checkcast 49, 3) := by decide +kernel
theorem dX3_passCall_42 : decode cX3_passCall 42 = .ok (.goto 7, 3) := by decide +kernel
theorem dX3_passCall_45 : decode cX3_passCall 45 = .ok (.aload_n 0, 1) := by decide +kernel
theorem dX3_passCall_46 : decode cX3_passCall 46 = .ok (.getfield 36, 3) := by decide +kernel
theorem dX3_passCall_49 : decode cX3_passCall 49 = .ok (.astore_n 2, 1) := by decide +kernel
theorem dX3_passCall_50 : decode cX3_passCall 50 = .ok (.aload_n 2, 1) := by decide +kernel
theorem dX3_passCall_51 : decode cX3_passCall 51 = .ok (.getfield 181, 3) := by decide +kernel
theorem dX3_passCall_54 : decode cX3_passCall 54 = .ok (.iconst 1, 1) := by decide +kernel
theorem dX3_passCall_55 : decode cX3_passCall 55 = .ok (.isub, 1) := by decide +kernel
theorem dX3_passCall_56 : decode cX3_passCall 56 = .ok (.istore_n 3, 1) := by decide +kernel
theorem dX3_passCall_57 : decode cX3_passCall 57 = .ok (.iload_n 3, 1) := by decide +kernel
theorem dX3_passCall_58 : decode cX3_passCall 58 = .ok (.ifCond .lt 18, 3) := by decide +kernel
theorem dX3_passCall_61 : decode cX3_passCall 61 = .ok (.aload_n 0, 1) := by decide +kernel
theorem dX3_passCall_62 : decode cX3_passCall 62 = .ok (.aload_n 2, 1) := by decide +kernel
theorem dX3_passCall_63 : decode cX3_passCall 63 = .ok (.iload_n 3, 1) := by decide +kernel
theorem dX3_passCall_64 : decode cX3_passCall 64 = .ok (.invokevirtual 184, 3) := by decide +kernel
theorem dX3_passCall_67 : decode cX3_passCall 67 = .ok (.invokevirtual 93, 3) := by decide +kernel
theorem dX3_passCall_70 : decode cX3_passCall 70 = .ok (.iinc 3 (-1), 3) := by decide +kernel
theorem dX3_passCall_73 : decode cX3_passCall 73 = .ok (.goto (-16), 3) := by decide +kernel
theorem dX3_passCall_76 : decode cX3_passCall 76 = .ok (.aload_n 0, 1) := by decide +kernel
theorem dX3_passCall_77 : decode cX3_passCall 77 = .ok (.aload_n 2, 1) := by decide +kernel
theorem dX3_passCall_78 : decode cX3_passCall 78 = .ok (.getfield 148, 3) := by decide +kernel
theorem dX3_passCall_81 : decode cX3_passCall 81 = .ok (.invokevirtual 102, 3) := by decide +kernel
theorem dX3_passCall_84 : decode cX3_passCall 84 = .ok (.return_, 1) := by decide +kernel
theorem dX3_readLocal_0 : decode cX3_readLocal 0 = .ok (.aload_n 0, 1) := by decide +kernel
theorem dX3_readLocal_1 : decode cX3_readLocal 1 = .ok (.iload_n 1, 1) := by decide +kernel
theorem dX3_readLocal_2 : decode cX3_readLocal 2 = .ok (.aload_n 0, 1) := by decide +kernel
theorem dX3_readLocal_3 : decode cX3_readLocal 3 = .ok (.getfield 36, 3) := by decide +kernel
theorem dX3_readLocal_6 : decode cX3_readLocal 6 = .ok (.getfield 165, 3) := by decide +kernel
theorem dX3_readLocal_9 : decode cX3_readLocal 9 = .ok (.if_icmp .ge 21, 3) := by decide +kernel
theorem dX3_readLocal_12 : decode cX3_readLocal 12 = .ok (.aload_n 0, 1) := by decide +kernel
theorem dX3_readLocal_13 : decode cX3_readLocal 13 = .ok (.getfield 84, 3) := by decide +kernel
theorem dX3_readLocal_16 : decode cX3_readLocal 16 = .ok (.iconst 2, 1) := by decide +kernel
theorem dX3_readLocal_17 : decode cX3_readLocal 17 = .ok (.iload_n 1, 1) := by decide +kernel
theorem dX3_readLocal_18 : decode cX3_readLocal 18 = .ok (.imul, 1) := by decide +kernel
theorem dX3_readLocal_19 : decode cX3_readLocal 19 = .ok (.iushr, 1) := by decide +kernel
theorem dX3_readLocal_20 : decode cX3_readLocal 20 = .ok (.iconst 3, 1) := by decide +kernel
theorem dX3_readLocal_21 : decode cX3_readLocal 21 = .ok (.iand, 1) := by decide +kernel
theorem dX3_readLocal_22 : decode cX3_readLocal 22 = .ok (.iload_n 2, 1) := by decide +kernel
theorem dX3_readLocal_23 : decode cX3_readLocal 23 = .ok (.if_icmp .ne 7, 3) := by decide +kernel
theorem dX3_readLocal_26 : decode cX3_readLocal 26 = .ok (.iconst 1, 1) := by decide +kernel
theorem dX3_readLocal_27 : decode cX3_readLocal 27 = .ok (.goto 4, 3) := by decide +kernel
theorem dX3_readLocal_30 : decode cX3_readLocal 30 = .ok (.iconst 0, 1) := by decide +kernel
theorem dX3_readLocal_31 : decode cX3_readLocal 31 = .ok (.invokevirtual 77, 3) := by decide +kernel
theorem dX3_readLocal_34 : decode cX3_readLocal 34 = .ok (.return_, 1) := by decide +kernel
theorem dX3_setLocal_0 : decode cX3_setLocal 0 = .ok (.aload_n 0, 1) := by decide +kernel
theorem dX3_setLocal_1 : decode cX3_setLocal 1 = .ok (.iload_n 1, 1) := by decide +kernel
theorem dX3_setLocal_2 : decode cX3_setLocal 2 = .ok (.aload_n 0, 1) := by decide +kernel
theorem dX3_setLocal_3 : decode cX3_setLocal 3 = .ok (.getfield 36, 3) := by decide +kernel
theorem dX3_setLocal_6 : decode cX3_setLocal 6 = .ok (.getfield 165, 3) := by decide +kernel
theorem dX3_setLocal_9 : decode cX3_setLocal 9 = .ok (.if_icmp .ge 7, 3) := by decide +kernel
theorem dX3_setLocal_12 : decode cX3_setLocal 12 = .ok (.iconst 1, 1) := by decide +kernel
theorem dX3_setLocal_13 : decode cX3_setLocal 13 = .ok (.goto 4, 3) := by decide +kernel
theorem dX3_setLocal_16 : decode cX3_setLocal 16 = .ok (.iconst 0, 1) := by decide +kernel
theorem dX3_setLocal_17 : decode cX3_setLocal 17 = .ok (.invokevirtual 77, 3) := by decide +kernel
theorem dX3_setLocal_20 : decode cX3_setLocal 20 = .ok (.aload_n 0, 1) := by decide +kernel
theorem dX3_setLocal_21 : decode cX3_setLocal 21 = .ok (.aload_n 0, 1) := by decide +kernel
theorem dX3_setLocal_22 : decode cX3_setLocal 22 = .ok (.getfield 84, 3) := by decide +kernel
theorem dX3_setLocal_25 : decode cX3_setLocal 25 = .ok (.iconst 3, 1) := by decide +kernel
theorem dX3_setLocal_26 : decode cX3_setLocal 26 = .ok (.iconst 2, 1) := by decide +kernel
theorem dX3_setLocal_27 : decode cX3_setLocal 27 = .ok (.iload_n 1, 1) := by decide +kernel
theorem dX3_setLocal_28 : decode cX3_setLocal 28 = .ok (.imul, 1) := by decide +kernel
theorem dX3_setLocal_29 : decode cX3_setLocal 29 = .ok (.ishl, 1) := by decide +kernel
theorem dX3_setLocal_30 : decode cX3_setLocal 30 = .ok (.iconst (-1), 1) := by decide +kernel
theorem dX3_setLocal_31 : decode cX3_setLocal 31 = .ok (.ixor, 1) := by decide +kernel
theorem dX3_setLocal_32 : decode cX3_setLocal 32 = .ok (.iand, 1) := by decide +kernel
theorem dX3_setLocal_33 : decode cX3_setLocal 33 = .ok (.iload_n 2, 1) := by decide +kernel
theorem dX3_setLocal_34 : decode cX3_setLocal 34 = .ok (.iconst 2, 1) := by decide +kernel
theorem dX3_setLocal_35 : decode cX3_setLocal 35 = .ok (.iload_n 1, 1) := by decide +kernel
theorem dX3_setLocal_36 : decode cX3_setLocal 36 = .ok (.imul, 1) := by decide +kernel
theorem dX3_setLocal_37 : decode cX3_setLocal 37 = .ok (.ishl, 1) := by decide +kernel
theorem dX3_setLocal_38 : decode cX3_setLocal 38 = .ok (.ior, 1) := by decide +kernel
theorem dX3_setLocal_39 : decode cX3_setLocal 39 = .ok (.putfield 84, 3) := by decide +kernel
theorem dX3_setLocal_42 : decode cX3_setLocal 42 = .ok (.return_, 1) := by decide +kernel
theorem dX5_leaves_0 : decode cX5_leaves 0 = .ok (.iload_n 0, 1) := by decide +kernel
theorem dX5_leaves_1 : decode cX5_leaves 1 = .ok (.sipush 255, 3) := by decide +kernel
theorem dX5_leaves_4 : decode cX5_leaves 4 = .ok (.iand, 1) := by decide +kernel
theorem dX5_leaves_5 : decode cX5_leaves 5 = .ok (.ireturn, 1) := by decide +kernel
theorem dX5_takes_0 : decode cX5_takes 0 = .ok (.iload_n 0, 1) := by decide +kernel
theorem dX5_takes_1 : decode cX5_takes 1 = .ok (.bipush 8, 2) := by decide +kernel
theorem dX5_takes_3 : decode cX5_takes 3 = .ok (.ishr, 1) := by decide +kernel
theorem dX5_takes_4 : decode cX5_takes 4 = .ok (.sipush 255, 3) := by decide +kernel
theorem dX5_takes_7 : decode cX5_takes 7 = .ok (.iand, 1) := by decide +kernel
theorem dX5_takes_8 : decode cX5_takes 8 = .ok (.ireturn, 1) := by decide +kernel
theorem dX3_heed_0 : decode cX3_heed 0 = .ok (.iload_n 1, 1) := by decide +kernel
theorem dX3_heed_1 : decode cX3_heed 1 = .ok (.lookupswitch 377 #[(21, 179), (22, 179), (25, 179), (54, 200), (55, 200), (58, 200), (87, 239), (89, 247), (95, 254), (132, 221), (172, 261), (173, 261), (176, 261), (177, 261), (180, 287), (181, 299), (184, 316), (187, 333), (188, 357), (192, 333), (193, 333)], 179) := by decide +kernel
theorem dX3_heed_180 : decode cX3_heed 180 = .ok (.aload_n 0, 1) := by decide +kernel
theorem dX3_heed_181 : decode cX3_heed 181 = .ok (.aload_n 0, 1) := by decide +kernel
theorem dX3_heed_182 : decode cX3_heed 182 = .ok (.getfield 36, 3) := by decide +kernel
theorem dX3_heed_185 : decode cX3_heed 185 = .ok (.iload_n 2, 1) := by decide +kernel
theorem dX3_heed_186 : decode cX3_heed 186 = .ok (.iconst 1, 1) := by decide +kernel
theorem dX3_heed_187 : decode cX3_heed 187 = .ok (.iadd, 1) := by decide +kernel
theorem dX3_heed_188 : decode cX3_heed 188 = .ok (.invokevirtual 61, 3) := by decide +kernel
theorem dX3_heed_191 : decode cX3_heed 191 = .ok (.iload_n 3, 1) := by decide +kernel
theorem dX3_heed_192 : decode cX3_heed 192 = .ok (.invokestatic 99, 3) := by decide +kernel
theorem dX3_heed_195 : decode cX3_heed 195 = .ok (.invokevirtual 131, 3) := by decide +kernel
theorem dX3_heed_198 : decode cX3_heed 198 = .ok (.goto 180, 3) := by decide +kernel
theorem dX3_heed_201 : decode cX3_heed 201 = .ok (.aload_n 0, 1) := by decide +kernel
theorem dX3_heed_202 : decode cX3_heed 202 = .ok (.aload_n 0, 1) := by decide +kernel
theorem dX3_heed_203 : decode cX3_heed 203 = .ok (.getfield 36, 3) := by decide +kernel
theorem dX3_heed_206 : decode cX3_heed 206 = .ok (.iload_n 2, 1) := by decide +kernel
theorem dX3_heed_207 : decode cX3_heed 207 = .ok (.iconst 1, 1) := by decide +kernel
theorem dX3_heed_208 : decode cX3_heed 208 = .ok (.iadd, 1) := by decide +kernel
theorem dX3_heed_209 : decode cX3_heed 209 = .ok (.invokevirtual 61, 3) := by decide +kernel
theorem dX3_heed_212 : decode cX3_heed 212 = .ok (.iload_n 3, 1) := by decide +kernel
theorem dX3_heed_213 : decode cX3_heed 213 = .ok (.invokestatic 90, 3) := by decide +kernel
theorem dX3_heed_216 : decode cX3_heed 216 = .ok (.invokevirtual 135, 3) := by decide +kernel
theorem dX3_heed_219 : decode cX3_heed 219 = .ok (.goto 159, 3) := by decide +kernel
theorem dX3_heed_222 : decode cX3_heed 222 = .ok (.aload_n 0, 1) := by decide +kernel
theorem dX3_heed_223 : decode cX3_heed 223 = .ok (.aload_n 0, 1) := by decide +kernel
theorem dX3_heed_224 : decode cX3_heed 224 = .ok (.getfield 36, 3) := by decide +kernel
theorem dX3_heed_227 : decode cX3_heed 227 = .ok (.iload_n 2, 1) := by decide +kernel
theorem dX3_heed_228 : decode cX3_heed 228 = .ok (.iconst 1, 1) := by decide +kernel
theorem dX3_heed_229 : decode cX3_heed 229 = .ok (.iadd, 1) := by decide +kernel
theorem dX3_heed_230 : decode cX3_heed 230 = .ok (.invokevirtual 61, 3) := by decide +kernel
theorem dX3_heed_233 : decode cX3_heed 233 = .ok (.iconst 1, 1) := by decide +kernel
theorem dX3_heed_234 : decode cX3_heed 234 = .ok (.invokevirtual 131, 3) := by decide +kernel
theorem dX3_heed_237 : decode cX3_heed 237 = .ok (.goto 141, 3) := by decide +kernel
theorem dX3_heed_240 : decode cX3_heed 240 = .ok (.aload_n 0, 1) := by decide +kernel
theorem dX3_heed_241 : decode cX3_heed 241 = .ok (.invokevirtual 138, 3) := by decide +kernel
theorem dX3_heed_244 : decode cX3_heed 244 = .ok (.pop, 1) := by decide +kernel
theorem dX3_heed_245 : decode cX3_heed 245 = .ok (.goto 133, 3) := by decide +kernel
theorem dX3_heed_248 : decode cX3_heed 248 = .ok (.aload_n 0, 1) := by decide +kernel
theorem dX3_heed_249 : decode cX3_heed 249 = .ok (.invokevirtual 142, 3) := by decide +kernel
theorem dX3_heed_252 : decode cX3_heed 252 = .ok (.goto 126, 3) := by decide +kernel
theorem dX3_heed_255 : decode cX3_heed 255 = .ok (.aload_n 0, 1) := by decide +kernel
theorem dX3_heed_256 : decode cX3_heed 256 = .ok (.invokevirtual 145, 3) := by decide +kernel
theorem dX3_heed_259 : decode cX3_heed 259 = .ok (.goto 119, 3) := by decide +kernel
theorem dX3_heed_262 : decode cX3_heed 262 = .ok (.aload_n 0, 1) := by decide +kernel
theorem dX3_heed_263 : decode cX3_heed 263 = .ok (.aload_n 0, 1) := by decide +kernel
theorem dX3_heed_264 : decode cX3_heed 264 = .ok (.getfield 36, 3) := by decide +kernel
theorem dX3_heed_267 : decode cX3_heed 267 = .ok (.getfield 148, 3) := by decide +kernel
theorem dX3_heed_270 : decode cX3_heed 270 = .ok (.iload_n 3, 1) := by decide +kernel
theorem dX3_heed_271 : decode cX3_heed 271 = .ok (.invokestatic 90, 3) := by decide +kernel
theorem dX3_heed_274 : decode cX3_heed 274 = .ok (.if_icmp .ne 7, 3) := by decide +kernel
theorem dX3_heed_277 : decode cX3_heed 277 = .ok (.iconst 1, 1) := by decide +kernel
theorem dX3_heed_278 : decode cX3_heed 278 = .ok (.goto 4, 3) := by decide +kernel
theorem dX3_heed_281 : decode cX3_heed 281 = .ok (.iconst 0, 1) := by decide +kernel
theorem dX3_heed_282 : decode cX3_heed 282 = .ok (.invokevirtual 77, 3) := by decide +kernel
theorem dX3_heed_285 : decode cX3_heed 285 = .ok (.goto 93, 3) := by decide +kernel
theorem dX3_heed_288 : decode cX3_heed 288 = .ok (.aload_n 0, 1) := by decide +kernel
theorem dX3_heed_289 : decode cX3_heed 289 = .ok (.aload_n 0, 1) := by decide +kernel
theorem dX3_heed_290 : decode cX3_heed 290 = .ok (.iload_n 2, 1) := by decide +kernel
theorem dX3_heed_291 : decode cX3_heed 291 = .ok (.invokevirtual 151, 3) := by decide +kernel
theorem dX3_heed_294 : decode cX3_heed 294 = .ok (.invokevirtual 102, 3) := by decide +kernel
theorem dX3_heed_297 : decode cX3_heed 297 = .ok (.goto 81, 3) := by decide +kernel
theorem dX3_heed_300 : decode cX3_heed 300 = .ok (.aload_n 0, 1) := by decide +kernel
theorem dX3_heed_301 : decode cX3_heed 301 = .ok (.aload_n 0, 1) := by decide +kernel
theorem dX3_heed_302 : decode cX3_heed 302 = .ok (.iload_n 2, 1) := by decide +kernel
theorem dX3_heed_303 : decode cX3_heed 303 = .ok (.invokevirtual 151, 3) := by decide +kernel
theorem dX3_heed_306 : decode cX3_heed 306 = .ok (.invokevirtual 93, 3) := by decide +kernel
theorem dX3_heed_309 : decode cX3_heed 309 = .ok (.aload_n 0, 1) := by decide +kernel
theorem dX3_heed_310 : decode cX3_heed 310 = .ok (.iconst 3, 1) := by decide +kernel
theorem dX3_heed_311 : decode cX3_heed 311 = .ok (.invokevirtual 93, 3) := by decide +kernel
theorem dX3_heed_314 : decode cX3_heed 314 = .ok (.goto 64, 3) := by decide +kernel
theorem dX3_heed_317 : decode cX3_heed 317 = .ok (.aload_n 0, 1) := by decide +kernel
theorem dX3_heed_318 : decode cX3_heed 318 = .ok (.aload_n 0, 1) := by decide +kernel
theorem dX3_heed_319 : decode cX3_heed 319 = .ok (.getfield 36, 3) := by decide +kernel
theorem dX3_heed_322 : decode cX3_heed 322 = .ok (.iload_n 2, 1) := by decide +kernel
theorem dX3_heed_323 : decode cX3_heed 323 = .ok (.iconst 1, 1) := by decide +kernel
theorem dX3_heed_324 : decode cX3_heed 324 = .ok (.iadd, 1) := by decide +kernel
theorem dX3_heed_325 : decode cX3_heed 325 = .ok (.invokevirtual 61, 3) := by decide +kernel
theorem dX3_heed_328 : decode cX3_heed 328 = .ok (.invokevirtual 154, 3) := by decide +kernel
theorem dX3_heed_331 : decode cX3_heed 331 = .ok (.goto 47, 3) := by decide +kernel
theorem dX3_heed_334 : decode cX3_heed 334 = .ok (.aload_n 0, 1) := by decide +kernel
theorem dX3_heed_335 : decode cX3_heed 335 = .ok (.aload_n 0, 1) := by decide +kernel
theorem dX3_heed_336 : decode cX3_heed 336 = .ok (.getfield 28, 3) := by decide +kernel
theorem dX3_heed_339 : decode cX3_heed 339 = .ok (.aload_n 0, 1) := by decide +kernel
theorem dX3_heed_340 : decode cX3_heed 340 = .ok (.getfield 36, 3) := by decide +kernel
theorem dX3_heed_343 : decode cX3_heed 343 = .ok (.iload_n 2, 1) := by decide +kernel
theorem dX3_heed_344 : decode cX3_heed 344 = .ok (.iconst 1, 1) := by decide +kernel
theorem dX3_heed_345 : decode cX3_heed 345 = .ok (.iadd, 1) := by decide +kernel
theorem dX3_heed_346 : decode cX3_heed 346 = .ok (.invokevirtual 61, 3) := by decide +kernel
theorem dX3_heed_349 : decode cX3_heed 349 = .ok (.invokevirtual 157, 3) := by decide +kernel
theorem dX3_heed_352 : decode cX3_heed 352 = .ok (.invokevirtual 77, 3) := by decide +kernel
theorem dX3_heed_355 : decode cX3_heed 355 = .ok (.goto 23, 3) := by decide +kernel
theorem dX3_heed_358 : decode cX3_heed 358 = .ok (.aload_n 0, 1) := by decide +kernel
theorem dX3_heed_359 : decode cX3_heed 359 = .ok (.aload_n 0, 1) := by decide +kernel
theorem dX3_heed_360 : decode cX3_heed 360 = .ok (.getfield 36, 3) := by decide +kernel
theorem dX3_heed_363 : decode cX3_heed 363 = .ok (.iload_n 2, 1) := by decide +kernel
theorem dX3_heed_364 : decode cX3_heed 364 = .ok (.iconst 1, 1) := by decide +kernel
theorem dX3_heed_365 : decode cX3_heed 365 = .ok (.iadd, 1) := by decide +kernel
theorem dX3_heed_366 : decode cX3_heed 366 = .ok (.invokevirtual 61, 3) := by decide +kernel
theorem dX3_heed_369 : decode cX3_heed 369 = .ok (.invokestatic 162, 3) := by decide +kernel
theorem dX3_heed_372 : decode cX3_heed 372 = .ok (.invokevirtual 77, 3) := by decide +kernel
theorem dX3_heed_375 : decode cX3_heed 375 = .ok (.goto 3, 3) := by decide +kernel
theorem dX3_heed_378 : decode cX3_heed 378 = .ok (.return_, 1) := by decide +kernel
theorem dX6_guards_0 : decode cX6_guards 0 = .ok (.aload_n 0, 1) := by decide +kernel
theorem dX6_guards_1 : decode cX6_guards 1 = .ok (.getfield 15, 3) := by decide +kernel
theorem dX6_guards_4 : decode cX6_guards 4 = .ok (.iload_n 1, 1) := by decide +kernel
theorem dX6_guards_5 : decode cX6_guards 5 = .ok (.iaload, 1) := by decide +kernel
theorem dX6_guards_6 : decode cX6_guards 6 = .ok (.iload_n 2, 1) := by decide +kernel
theorem dX6_guards_7 : decode cX6_guards 7 = .ok (.if_icmp .gt 19, 3) := by decide +kernel
theorem dX6_guards_10 : decode cX6_guards 10 = .ok (.iload_n 2, 1) := by decide +kernel
theorem dX6_guards_11 : decode cX6_guards 11 = .ok (.aload_n 0, 1) := by decide +kernel
theorem dX6_guards_12 : decode cX6_guards 12 = .ok (.getfield 15, 3) := by decide +kernel
theorem dX6_guards_15 : decode cX6_guards 15 = .ok (.iload_n 1, 1) := by decide +kernel
theorem dX6_guards_16 : decode cX6_guards 16 = .ok (.iconst 1, 1) := by decide +kernel
theorem dX6_guards_17 : decode cX6_guards 17 = .ok (.iadd, 1) := by decide +kernel
theorem dX6_guards_18 : decode cX6_guards 18 = .ok (.iaload, 1) := by decide +kernel
theorem dX6_guards_19 : decode cX6_guards 19 = .ok (.if_icmp .ge 7, 3) := by decide +kernel
theorem dX6_guards_22 : decode cX6_guards 22 = .ok (.iconst 1, 1) := by decide +kernel
theorem dX6_guards_23 : decode cX6_guards 23 = .ok (.goto 4, 3) := by decide +kernel
theorem dX6_guards_26 : decode cX6_guards 26 = .ok (.iconst 0, 1) := by decide +kernel
theorem dX6_guards_27 : decode cX6_guards 27 = .ok (.ireturn, 1) := by decide +kernel
theorem dX3_leadToHandlers_0 : decode cX3_leadToHandlers 0 = .ok (.aload_n 0, 1) := by decide +kernel
theorem dX3_leadToHandlers_1 : decode cX3_leadToHandlers 1 = .ok (.getfield 36, 3) := by decide +kernel
theorem dX3_leadToHandlers_4 : decode cX3_leadToHandlers 4 = .ok (.getfield 115, 3) := by decide +kernel
theorem dX3_leadToHandlers_7 : decode cX3_leadToHandlers 7 = .ok (.astore_n 2, 1) := by decide +kernel
theorem dX3_leadToHandlers_8 : decode cX3_leadToHandlers 8 = .ok (.iconst 0, 1) := by decide +kernel
theorem dX3_leadToHandlers_9 : decode cX3_leadToHandlers 9 = .ok (.istore_n 3, 1) := by decide +kernel
theorem dX3_leadToHandlers_10 : decode cX3_leadToHandlers 10 = .ok (.iload_n 3, 1) := by decide +kernel
theorem dX3_leadToHandlers_11 : decode cX3_leadToHandlers 11 = .ok (.aload_n 2, 1) := by decide +kernel
theorem dX3_leadToHandlers_12 : decode cX3_leadToHandlers 12 = .ok (.arraylength, 1) := by decide +kernel
theorem dX3_leadToHandlers_13 : decode cX3_leadToHandlers 13 = .ok (.if_icmp .ge 57, 3) := by decide +kernel
theorem dX3_leadToHandlers_16 : decode cX3_leadToHandlers 16 = .ok (.aload_n 0, 1) := by decide +kernel
theorem dX3_leadToHandlers_17 : decode cX3_leadToHandlers 17 = .ok (.getfield 36, 3) := by decide +kernel
theorem dX3_leadToHandlers_20 : decode cX3_leadToHandlers 20 = .ok (.iload_n 3, 1) := by decide +kernel
theorem dX3_leadToHandlers_21 : decode cX3_leadToHandlers 21 = .ok (.iload_n 1, 1) := by decide +kernel
theorem dX3_leadToHandlers_22 : decode cX3_leadToHandlers 22 = .ok (.invokevirtual 118, 3) := by decide +kernel
theorem dX3_leadToHandlers_25 : decode cX3_leadToHandlers 25 = .ok (.ifCond .ne 6, 3) := by decide +kernel
theorem dX3_leadToHandlers_28 : decode cX3_leadToHandlers 28 = .ok (.goto 36, 3) := by decide +kernel
theorem dX3_leadToHandlers_31 : decode cX3_leadToHandlers 31 = .ok (.aload_n 0, 1) := by decide +kernel
theorem dX3_leadToHandlers_32 : decode cX3_leadToHandlers 32 = .ok (.aload_n 0, 1) := by decide +kernel
theorem dX3_leadToHandlers_33 : decode cX3_leadToHandlers 33 = .ok (.getfield 36, 3) := by decide +kernel
theorem dX3_leadToHandlers_36 : decode cX3_leadToHandlers 36 = .ok (.getfield 122, 3) := by decide +kernel
theorem dX3_leadToHandlers_39 : decode cX3_leadToHandlers 39 = .ok (.ifCond .le 7, 3) := by decide +kernel
theorem dX3_leadToHandlers_42 : decode cX3_leadToHandlers 42 = .ok (.iconst 1, 1) := by decide +kernel
theorem dX3_leadToHandlers_43 : decode cX3_leadToHandlers 43 = .ok (.goto 4, 3) := by decide +kernel
theorem dX3_leadToHandlers_46 : decode cX3_leadToHandlers 46 = .ok (.iconst 0, 1) := by decide +kernel
theorem dX3_leadToHandlers_47 : decode cX3_leadToHandlers 47 = .ok (.invokevirtual 77, 3) := by decide +kernel
theorem dX3_leadToHandlers_50 : decode cX3_leadToHandlers 50 = .ok (.aload_n 0, 1) := by decide +kernel
theorem dX3_leadToHandlers_51 : decode cX3_leadToHandlers 51 = .ok (.aload_n 2, 1) := by decide +kernel
theorem dX3_leadToHandlers_52 : decode cX3_leadToHandlers 52 = .ok (.iload_n 3, 1) := by decide +kernel
theorem dX3_leadToHandlers_53 : decode cX3_leadToHandlers 53 = .ok (.iconst 2, 1) := by decide +kernel
theorem dX3_leadToHandlers_54 : decode cX3_leadToHandlers 54 = .ok (.iadd, 1) := by decide +kernel
theorem dX3_leadToHandlers_55 : decode cX3_leadToHandlers 55 = .ok (.iaload, 1) := by decide +kernel
theorem dX3_leadToHandlers_56 : decode cX3_leadToHandlers 56 = .ok (.iconst 3, 1) := by decide +kernel
theorem dX3_leadToHandlers_57 : decode cX3_leadToHandlers 57 = .ok (.aload_n 0, 1) := by decide +kernel
theorem dX3_leadToHandlers_58 : decode cX3_leadToHandlers 58 = .ok (.getfield 84, 3) := by decide +kernel
theorem dX3_leadToHandlers_61 : decode cX3_leadToHandlers 61 = .ok (.invokevirtual 53, 3) := by decide +kernel
theorem dX3_leadToHandlers_64 : decode cX3_leadToHandlers 64 = .ok (.iinc 3 4, 3) := by decide +kernel
theorem dX3_leadToHandlers_67 : decode cX3_leadToHandlers 67 = .ok (.goto (-57), 3) := by decide +kernel
theorem dX3_leadToHandlers_70 : decode cX3_leadToHandlers 70 = .ok (.return_, 1) := by decide +kernel
theorem dX5_bytes_0 : decode cX5_bytes 0 = .ok (.iload_n 0, 1) := by decide +kernel
theorem dX5_bytes_1 : decode cX5_bytes 1 = .ok (.bipush 16, 2) := by decide +kernel
theorem dX5_bytes_3 : decode cX5_bytes 3 = .ok (.ishr, 1) := by decide +kernel
theorem dX5_bytes_4 : decode cX5_bytes 4 = .ok (.ireturn, 1) := by decide +kernel
theorem dX5_goesOn_0 : decode cX5_goesOn 0 = .ok (.iload_n 0, 1) := by decide +kernel
theorem dX5_goesOn_1 : decode cX5_goesOn 1 = .ok (.sipush 167, 3) := by decide +kernel
theorem dX5_goesOn_4 : decode cX5_goesOn 4 = .ok (.if_icmp .lt 17, 3) := by decide +kernel
theorem dX5_goesOn_7 : decode cX5_goesOn 7 = .ok (.iload_n 0, 1) := by decide +kernel
theorem dX5_goesOn_8 : decode cX5_goesOn 8 = .ok (.sipush 177, 3) := by decide +kernel
theorem dX5_goesOn_11 : decode cX5_goesOn 11 = .ok (.if_icmp .le 14, 3) := by decide +kernel
theorem dX5_goesOn_14 : decode cX5_goesOn 14 = .ok (.iload_n 0, 1) := by decide +kernel
theorem dX5_goesOn_15 : decode cX5_goesOn 15 = .ok (.sipush 191, 3) := by decide +kernel
theorem dX5_goesOn_18 : decode cX5_goesOn 18 = .ok (.if_icmp .eq 7, 3) := by decide +kernel
theorem dX5_goesOn_21 : decode cX5_goesOn 21 = .ok (.iconst 1, 1) := by decide +kernel
theorem dX5_goesOn_22 : decode cX5_goesOn 22 = .ok (.goto 4, 3) := by decide +kernel
theorem dX5_goesOn_25 : decode cX5_goesOn 25 = .ok (.iconst 0, 1) := by decide +kernel
theorem dX5_goesOn_26 : decode cX5_goesOn 26 = .ok (.ireturn, 1) := by decide +kernel
theorem dX5_jumps_0 : decode cX5_jumps 0 = .ok (.iload_n 0, 1) := by decide +kernel
theorem dX5_jumps_1 : decode cX5_jumps 1 = .ok (.sipush 153, 3) := by decide +kernel
theorem dX5_jumps_4 : decode cX5_jumps 4 = .ok (.if_icmp .lt 10, 3) := by decide +kernel
theorem dX5_jumps_7 : decode cX5_jumps 7 = .ok (.iload_n 0, 1) := by decide +kernel
theorem dX5_jumps_8 : decode cX5_jumps 8 = .ok (.sipush 167, 3) := by decide +kernel
theorem dX5_jumps_11 : decode cX5_jumps 11 = .ok (.if_icmp .le 17, 3) := by decide +kernel
theorem dX5_jumps_14 : decode cX5_jumps 14 = .ok (.iload_n 0, 1) := by decide +kernel
theorem dX5_jumps_15 : decode cX5_jumps 15 = .ok (.sipush 198, 3) := by decide +kernel
theorem dX5_jumps_18 : decode cX5_jumps 18 = .ok (.if_icmp .eq 10, 3) := by decide +kernel
theorem dX5_jumps_21 : decode cX5_jumps 21 = .ok (.iload_n 0, 1) := by decide +kernel
theorem dX5_jumps_22 : decode cX5_jumps 22 = .ok (.sipush 199, 3) := by decide +kernel
theorem dX5_jumps_25 : decode cX5_jumps 25 = .ok (.if_icmp .ne 7, 3) := by decide +kernel
theorem dX5_jumps_28 : decode cX5_jumps 28 = .ok (.iconst 1, 1) := by decide +kernel
theorem dX5_jumps_29 : decode cX5_jumps 29 = .ok (.goto 4, 3) := by decide +kernel
theorem dX5_jumps_32 : decode cX5_jumps 32 = .ok (.iconst 0, 1) := by decide +kernel
theorem dX5_jumps_33 : decode cX5_jumps 33 = .ok (.ireturn, 1) := by decide +kernel
theorem dX5_pack_0 : decode cX5_pack 0 = .ok (.iload_n 0, 1) := by decide +kernel
theorem dX5_pack_1 : decode cX5_pack 1 = .ok (.bipush 16, 2) := by decide +kernel
theorem dX5_pack_3 : decode cX5_pack 3 = .ok (.ishl, 1) := by decide +kernel
theorem dX5_pack_4 : decode cX5_pack 4 = .ok (.iload_n 1, 1) := by decide +kernel
theorem dX5_pack_5 : decode cX5_pack 5 = .ok (.bipush 8, 2) := by decide +kernel
theorem dX5_pack_7 : decode cX5_pack 7 = .ok (.ishl, 1) := by decide +kernel
theorem dX5_pack_8 : decode cX5_pack 8 = .ok (.ior, 1) := by decide +kernel
theorem dX5_pack_9 : decode cX5_pack 9 = .ok (.iload_n 2, 1) := by decide +kernel
theorem dX5_pack_10 : decode cX5_pack 10 = .ok (.ior, 1) := by decide +kernel
theorem dX5_pack_11 : decode cX5_pack 11 = .ok (.ireturn, 1) := by decide +kernel
theorem dX5_shapeOfHeapUse_0 : decode cX5_shapeOfHeapUse 0 = .ok (.iload_n 0, 1) := by decide +kernel
theorem dX5_shapeOfHeapUse_1 : decode cX5_shapeOfHeapUse 1 = .ok (.tableswitch 141 180 193 #[71, 78, 141, 141, 85, 141, 141, 92, 99, 106, 113, 120, 127, 134], 71) := by decide +kernel
theorem dX5_shapeOfHeapUse_72 : decode cX5_shapeOfHeapUse 72 = .ok (.iconst 3, 1) := by decide +kernel
theorem dX5_shapeOfHeapUse_73 : decode cX5_shapeOfHeapUse 73 = .ok (.iconst 3, 1) := by decide +kernel
theorem dX5_shapeOfHeapUse_74 : decode cX5_shapeOfHeapUse 74 = .ok (.iconst 0, 1) := by decide +kernel
theorem dX5_shapeOfHeapUse_75 : decode cX5_shapeOfHeapUse 75 = .ok (.invokestatic 24, 3) := by decide +kernel
theorem dX5_shapeOfHeapUse_78 : decode cX5_shapeOfHeapUse 78 = .ok (.ireturn, 1) := by decide +kernel
theorem dX5_shapeOfHeapUse_79 : decode cX5_shapeOfHeapUse 79 = .ok (.iconst 3, 1) := by decide +kernel
theorem dX5_shapeOfHeapUse_80 : decode cX5_shapeOfHeapUse 80 = .ok (.iconst 0, 1) := by decide +kernel
theorem dX5_shapeOfHeapUse_81 : decode cX5_shapeOfHeapUse 81 = .ok (.iconst 0, 1) := by decide +kernel
theorem dX5_shapeOfHeapUse_82 : decode cX5_shapeOfHeapUse 82 = .ok (.invokestatic 24, 3) := by decide +kernel
theorem dX5_shapeOfHeapUse_85 : decode cX5_shapeOfHeapUse 85 = .ok (.ireturn, 1) := by decide +kernel
theorem dX5_shapeOfHeapUse_86 : decode cX5_shapeOfHeapUse 86 = .ok (.iconst 2, 1) := by decide +kernel
theorem dX5_shapeOfHeapUse_87 : decode cX5_shapeOfHeapUse 87 = .ok (.iconst 0, 1) := by decide +kernel
theorem dX5_shapeOfHeapUse_88 : decode cX5_shapeOfHeapUse 88 = .ok (.iconst 0, 1) := by decide +kernel
theorem dX5_shapeOfHeapUse_89 : decode cX5_shapeOfHeapUse 89 = .ok (.invokestatic 24, 3) := by decide +kernel
theorem dX5_shapeOfHeapUse_92 : decode cX5_shapeOfHeapUse 92 = .ok (.ireturn, 1) := by decide +kernel
theorem dX5_shapeOfHeapUse_93 : decode cX5_shapeOfHeapUse 93 = .ok (.iconst 2, 1) := by decide +kernel
theorem dX5_shapeOfHeapUse_94 : decode cX5_shapeOfHeapUse 94 = .ok (.iconst 0, 1) := by decide +kernel
theorem dX5_shapeOfHeapUse_95 : decode cX5_shapeOfHeapUse 95 = .ok (.iconst 3, 1) := by decide +kernel
theorem dX5_shapeOfHeapUse_96 : decode cX5_shapeOfHeapUse 96 = .ok (.invokestatic 24, 3) := by decide +kernel
theorem dX5_shapeOfHeapUse_99 : decode cX5_shapeOfHeapUse 99 = .ok (.ireturn, 1) := by decide +kernel
theorem dX5_shapeOfHeapUse_100 : decode cX5_shapeOfHeapUse 100 = .ok (.iconst 2, 1) := by decide +kernel
theorem dX5_shapeOfHeapUse_101 : decode cX5_shapeOfHeapUse 101 = .ok (.iconst 1, 1) := by decide +kernel
theorem dX5_shapeOfHeapUse_102 : decode cX5_shapeOfHeapUse 102 = .ok (.iconst 3, 1) := by decide +kernel
theorem dX5_shapeOfHeapUse_103 : decode cX5_shapeOfHeapUse 103 = .ok (.invokestatic 24, 3) := by decide +kernel
theorem dX5_shapeOfHeapUse_106 : decode cX5_shapeOfHeapUse 106 = .ok (.ireturn, 1) := by decide +kernel
theorem dX5_shapeOfHeapUse_107 : decode cX5_shapeOfHeapUse 107 = .ok (.iconst 1, 1) := by decide +kernel
theorem dX5_shapeOfHeapUse_108 : decode cX5_shapeOfHeapUse 108 = .ok (.iconst 1, 1) := by decide +kernel
theorem dX5_shapeOfHeapUse_109 : decode cX5_shapeOfHeapUse 109 = .ok (.iconst 3, 1) := by decide +kernel
theorem dX5_shapeOfHeapUse_110 : decode cX5_shapeOfHeapUse 110 = .ok (.invokestatic 24, 3) := by decide +kernel
theorem dX5_shapeOfHeapUse_113 : decode cX5_shapeOfHeapUse 113 = .ok (.ireturn, 1) := by decide +kernel
theorem dX5_shapeOfHeapUse_114 : decode cX5_shapeOfHeapUse 114 = .ok (.iconst 1, 1) := by decide +kernel
theorem dX5_shapeOfHeapUse_115 : decode cX5_shapeOfHeapUse 115 = .ok (.iconst 3, 1) := by decide +kernel
theorem dX5_shapeOfHeapUse_116 : decode cX5_shapeOfHeapUse 116 = .ok (.iconst 1, 1) := by decide +kernel
theorem dX5_shapeOfHeapUse_117 : decode cX5_shapeOfHeapUse 117 = .ok (.invokestatic 24, 3) := by decide +kernel
theorem dX5_shapeOfHeapUse_120 : decode cX5_shapeOfHeapUse 120 = .ok (.ireturn, 1) := by decide +kernel
theorem dX5_shapeOfHeapUse_121 : decode cX5_shapeOfHeapUse 121 = .ok (.iconst 1, 1) := by decide +kernel
theorem dX5_shapeOfHeapUse_122 : decode cX5_shapeOfHeapUse 122 = .ok (.iconst 3, 1) := by decide +kernel
theorem dX5_shapeOfHeapUse_123 : decode cX5_shapeOfHeapUse 123 = .ok (.iconst 0, 1) := by decide +kernel
theorem dX5_shapeOfHeapUse_124 : decode cX5_shapeOfHeapUse 124 = .ok (.invokestatic 24, 3) := by decide +kernel
theorem dX5_shapeOfHeapUse_127 : decode cX5_shapeOfHeapUse 127 = .ok (.ireturn, 1) := by decide +kernel
theorem dX5_shapeOfHeapUse_128 : decode cX5_shapeOfHeapUse 128 = .ok (.iconst 2, 1) := by decide +kernel
theorem dX5_shapeOfHeapUse_129 : decode cX5_shapeOfHeapUse 129 = .ok (.iconst 3, 1) := by decide +kernel
