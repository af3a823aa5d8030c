theorem d_0_0 : decode c_0 0 = .ok (.getstatic 38, 3) := by decide +kernel
theorem d_0_3 : decode c_0 3 = .ok (.ifCond .eq 10, 3) := by decide +kernel
theorem d_0_6 : decode c_0 6 = .ok (.aload_n 0, 1) := by decide +kernel
theorem d_0_7 : decode c_0 7 = .ok (.getfield 15, 3) := by decide +kernel
theorem d_0_10 : decode c_0 10 = .ok (.goto 4, 3) := by decide +kernel
theorem d_0_13 : decode c_0 13 = .ok (.iconst 1, 1) := by decide +kernel
theorem d_0_14 : decode c_0 14 = .ok (.ireturn, 1) := by decide +kernel
theorem d_1_0 : decode c_1 0 = .ok (.aload_n 0, 1) := by decide +kernel
theorem d_1_1 : decode c_1 1 = .ok (.getfield 9, 3) := by decide +kernel
theorem d_1_4 : decode c_1 4 = .ok (.arraylength, 1) := by decide +kernel
theorem d_1_5 : decode c_1 5 = .ok (.aload_n 0, 1) := by decide +kernel
theorem d_1_6 : decode c_1 6 = .ok (.invokevirtual 335, 3) := by decide +kernel
theorem d_1_9 : decode c_1 9 = .ok (.ishr, 1) := by decide +kernel
theorem d_1_10 : decode c_1 10 = .ok (.ireturn, 1) := by decide +kernel
theorem d_2_0 : decode c_2 0 = .ok (.getstatic 38, 3) := by decide +kernel
theorem d_2_3 : decode c_2 3 = .ok (.ifCond .eq 14, 3) := by decide +kernel
theorem d_2_6 : decode c_2 6 = .ok (.aload_n 0, 1) := by decide +kernel
theorem d_2_7 : decode c_2 7 = .ok (.getfield 15, 3) := by decide +kernel
theorem d_2_10 : decode c_2 10 = .ok (.ifCond .ne 7, 3) := by decide +kernel
theorem d_2_13 : decode c_2 13 = .ok (.iconst 1, 1) := by decide +kernel
theorem d_2_14 : decode c_2 14 = .ok (.goto 4, 3) := by decide +kernel
theorem d_2_17 : decode c_2 17 = .ok (.iconst 0, 1) := by decide +kernel
theorem d_2_18 : decode c_2 18 = .ok (.ireturn, 1) := by decide +kernel
theorem d_3_0 : decode c_3 0 = .ok (.iload_n 0, 1) := by decide +kernel
theorem d_3_1 : decode c_3 1 = .ok (.ifCond .lt 8, 3) := by decide +kernel
theorem d_3_4 : decode c_3 4 = .ok (.iload_n 0, 1) := by decide +kernel
theorem d_3_5 : decode c_3 5 = .ok (.iload_n 1, 1) := by decide +kernel
theorem d_3_6 : decode c_3 6 = .ok (.if_icmp .lt 10, 3) := by decide +kernel
theorem d_3_9 : decode c_3 9 = .ok (.aload_n 2, 1) := by decide +kernel
theorem d_3_10 : decode c_3 10 = .ok (.iload_n 0, 1) := by decide +kernel
theorem d_3_11 : decode c_3 11 = .ok (.iload_n 1, 1) := by decide +kernel
theorem d_3_16 : decode c_3 16 = .ok (.iload_n 0, 1) := by decide +kernel
theorem d_3_17 : decode c_3 17 = .ok (.ireturn, 1) := by decide +kernel
theorem d_4_0 : decode c_4 0 = .ok (.iload_n 0, 1) := by decide +kernel
theorem d_4_1 : decode c_4 1 = .ok (.iload_n 1, 1) := by decide +kernel
theorem d_4_2 : decode c_4 2 = .ok (.getstatic 1053, 3) := by decide +kernel
theorem d_4_5 : decode c_4 5 = .ok (.invokestatic 1059, 3) := by decide +kernel
theorem d_4_8 : decode c_4 8 = .ok (.pop, 1) := by decide +kernel
theorem d_4_9 : decode c_4 9 = .ok (.return_, 1) := by decide +kernel
theorem d_5_0 : decode c_5 0 = .ok (.iload_n 1, 1) := by decide +kernel
theorem d_5_1 : decode c_5 1 = .ok (.aload_n 0, 1) := by decide +kernel
theorem d_5_2 : decode c_5 2 = .ok (.arraylength, 1) := by decide +kernel
theorem d_5_3 : decode c_5 3 = .ok (.invokestatic 9, 3) := by decide +kernel
theorem d_5_6 : decode c_5 6 = .ok (.aload_n 0, 1) := by decide +kernel
theorem d_5_7 : decode c_5 7 = .ok (.iload_n 1, 1) := by decide +kernel
theorem d_5_8 : decode c_5 8 = .ok (.baload, 1) := by decide +kernel
theorem d_5_9 : decode c_5 9 = .ok (.sipush 255, 3) := by decide +kernel
theorem d_5_12 : decode c_5 12 = .ok (.iand, 1) := by decide +kernel
theorem d_5_13 : decode c_5 13 = .ok (.i2c, 1) := by decide +kernel
theorem d_5_14 : decode c_5 14 = .ok (.ireturn, 1) := by decide +kernel
theorem d_6_0 : decode c_6 0 = .ok (.aload_n 0, 1) := by decide +kernel
theorem d_6_1 : decode c_6 1 = .ok (.invokevirtual 492, 3) := by decide +kernel
theorem d_6_4 : decode c_6 4 = .ok (.ifCond .eq 12, 3) := by decide +kernel
theorem d_6_7 : decode c_6 7 = .ok (.aload_n 0, 1) := by decide +kernel
theorem d_6_8 : decode c_6 8 = .ok (.getfield 9, 3) := by decide +kernel
theorem d_6_11 : decode c_6 11 = .ok (.iload_n 1, 1) := by decide +kernel
theorem d_6_12 : decode c_6 12 = .ok (.invokestatic 495, 3) := by decide +kernel
theorem d_6_15 : decode c_6 15 = .ok (.ireturn, 1) := by decide +kernel
theorem d_6_16 : decode c_6 16 = .ok (.aload_n 0, 1) := by decide +kernel
theorem d_6_17 : decode c_6 17 = .ok (.getfield 9, 3) := by decide +kernel
theorem d_6_20 : decode c_6 20 = .ok (.iload_n 1, 1) := by decide +kernel
theorem d_7_0 : decode c_7 0 = .ok (.iload_n 0, 1) := by decide +kernel
theorem d_7_1 : decode c_7 1 = .ok (.bipush 48, 2) := by decide +kernel
theorem d_7_3 : decode c_7 3 = .ok (.if_icmp .lt 13, 3) := by decide +kernel
theorem d_7_6 : decode c_7 6 = .ok (.iload_n 0, 1) := by decide +kernel
theorem d_7_7 : decode c_7 7 = .ok (.bipush 57, 2) := by decide +kernel
theorem d_7_9 : decode c_7 9 = .ok (.if_icmp .gt 7, 3) := by decide +kernel
theorem d_7_12 : decode c_7 12 = .ok (.iconst 1, 1) := by decide +kernel
theorem d_7_13 : decode c_7 13 = .ok (.goto 4, 3) := by decide +kernel
theorem d_7_16 : decode c_7 16 = .ok (.iconst 0, 1) := by decide +kernel
theorem d_7_17 : decode c_7 17 = .ok (.ireturn, 1) := by decide +kernel
theorem d_8_0 : decode c_8 0 = .ok (.iload_n 0, 1) := by decide +kernel
theorem d_8_1 : decode c_8 1 = .ok (.bipush 97, 2) := by decide +kernel
theorem d_8_3 : decode c_8 3 = .ok (.if_icmp .lt 13, 3) := by decide +kernel
theorem d_8_6 : decode c_8 6 = .ok (.iload_n 0, 1) := by decide +kernel
theorem d_8_7 : decode c_8 7 = .ok (.bipush 122, 2) := by decide +kernel
theorem d_8_9 : decode c_8 9 = .ok (.if_icmp .gt 7, 3) := by decide +kernel
theorem d_8_12 : decode c_8 12 = .ok (.iconst 1, 1) := by decide +kernel
theorem d_8_13 : decode c_8 13 = .ok (.goto 4, 3) := by decide +kernel
theorem d_8_16 : decode c_8 16 = .ok (.iconst 0, 1) := by decide +kernel
theorem d_8_17 : decode c_8 17 = .ok (.ireturn, 1) := by decide +kernel
theorem d_9_0 : decode c_9 0 = .ok (.iload_n 0, 1) := by decide +kernel
theorem d_9_1 : decode c_9 1 = .ok (.invokestatic 33, 3) := by decide +kernel
theorem d_9_4 : decode c_9 4 = .ok (.ifCond .eq 10, 3) := by decide +kernel
theorem d_9_7 : decode c_9 7 = .ok (.iload_n 0, 1) := by decide +kernel
theorem d_9_8 : decode c_9 8 = .ok (.bipush 48, 2) := by decide +kernel
theorem d_9_10 : decode c_9 10 = .ok (.isub, 1) := by decide +kernel
theorem d_9_11 : decode c_9 11 = .ok (.iconst 1, 1) := by decide +kernel
theorem d_9_12 : decode c_9 12 = .ok (.iadd, 1) := by decide +kernel
theorem d_9_13 : decode c_9 13 = .ok (.ireturn, 1) := by decide +kernel
theorem d_9_14 : decode c_9 14 = .ok (.iload_n 0, 1) := by decide +kernel
theorem d_9_15 : decode c_9 15 = .ok (.invokestatic 37, 3) := by decide +kernel
theorem d_9_18 : decode c_9 18 = .ok (.ifCond .eq 13, 3) := by decide +kernel
theorem d_9_21 : decode c_9 21 = .ok (.iload_n 0, 1) := by decide +kernel
theorem d_9_22 : decode c_9 22 = .ok (.bipush 97, 2) := by decide +kernel
theorem d_9_24 : decode c_9 24 = .ok (.isub, 1) := by decide +kernel
theorem d_9_25 : decode c_9 25 = .ok (.bipush 11, 2) := by decide +kernel
theorem d_9_27 : decode c_9 27 = .ok (.iadd, 1) := by decide +kernel
theorem d_9_28 : decode c_9 28 = .ok (.goto 4, 3) := by decide +kernel
theorem d_9_31 : decode c_9 31 = .ok (.iconst 0, 1) := by decide +kernel
theorem d_9_32 : decode c_9 32 = .ok (.ireturn, 1) := by decide +kernel
theorem d_10_0 : decode c_10 0 = .ok (.aload_n 0, 1) := by decide +kernel
theorem d_10_1 : decode c_10 1 = .ok (.invokespecial 3, 3) := by decide +kernel
theorem d_10_4 : decode c_10 4 = .ok (.aload_n 0, 1) := by decide +kernel
theorem d_10_5 : decode c_10 5 = .ok (.bipush 16, 2) := by decide +kernel
theorem d_10_7 : decode c_10 7 = .ok (.newarray .long, 2) := by decide +kernel
theorem d_10_9 : decode c_10 9 = .ok (.putfield 9, 3) := by decide +kernel
theorem d_10_12 : decode c_10 12 = .ok (.iconst 0, 1) := by decide +kernel
theorem d_10_13 : decode c_10 13 = .ok (.istore_n 1, 1) := by decide +kernel
theorem d_10_14 : decode c_10 14 = .ok (.lconst 1, 1) := by decide +kernel
theorem d_10_15 : decode c_10 15 = .ok (.lstore_n 2, 1) := by decide +kernel
theorem d_10_16 : decode c_10 16 = .ok (.iconst 0, 1) := by decide +kernel
theorem d_10_17 : decode c_10 17 = .ok (.istore 4, 2) := by decide +kernel
theorem d_10_19 : decode c_10 19 = .ok (.iload 4, 2) := by decide +kernel
theorem d_10_21 : decode c_10 21 = .ok (.ldc 15, 2) := by decide +kernel
theorem d_10_23 : decode c_10 23 = .ok (.invokevirtual 17, 3) := by decide +kernel
theorem d_10_26 : decode c_10 26 = .ok (.if_icmp .ge 63, 3) := by decide +kernel
theorem d_10_29 : decode c_10 29 = .ok (.ldc 15, 2) := by decide +kernel
theorem d_10_31 : decode c_10 31 = .ok (.iload 4, 2) := by decide +kernel
theorem d_10_33 : decode c_10 33 = .ok (.invokevirtual 23, 3) := by decide +kernel
theorem d_10_36 : decode c_10 36 = .ok (.invokestatic 27, 3) := by decide +kernel
theorem d_10_39 : decode c_10 39 = .ok (.istore 5, 2) := by decide +kernel
theorem d_10_41 : decode c_10 41 = .ok (.iload 5, 2) := by decide +kernel
theorem d_10_43 : decode c_10 43 = .ok (.ifCond .ne 11, 3) := by decide +kernel
theorem d_10_46 : decode c_10 46 = .ok (.iinc 1 1, 3) := by decide +kernel
theorem d_10_49 : decode c_10 49 = .ok (.lconst 1, 1) := by decide +kernel
theorem d_10_50 : decode c_10 50 = .ok (.lstore_n 2, 1) := by decide +kernel
theorem d_10_51 : decode c_10 51 = .ok (.goto 32, 3) := by decide +kernel
theorem d_10_54 : decode c_10 54 = .ok (.iload_n 1, 1) := by decide +kernel
theorem d_10_55 : decode c_10 55 = .ok (.aload_n 0, 1) := by decide +kernel
theorem d_10_56 : decode c_10 56 = .ok (.getfield 9, 3) := by decide +kernel
theorem d_10_59 : decode c_10 59 = .ok (.arraylength, 1) := by decide +kernel
theorem d_10_60 : decode c_10 60 = .ok (.if_icmp .ge 23, 3) := by decide +kernel
theorem d_10_63 : decode c_10 63 = .ok (.aload_n 0, 1) := by decide +kernel
theorem d_10_64 : decode c_10 64 = .ok (.getfield 9, 3) := by decide +kernel
theorem d_10_67 : decode c_10 67 = .ok (.iload_n 1, 1) := by decide +kernel
theorem d_10_68 : decode c_10 68 = .ok (.dup2, 1) := by decide +kernel
theorem d_10_69 : decode c_10 69 = .ok (.laload, 1) := by decide +kernel
theorem d_10_70 : decode c_10 70 = .ok (.iload 5, 2) := by decide +kernel
theorem d_10_72 : decode c_10 72 = .ok (.i2l, 1) := by decide +kernel
theorem d_10_73 : decode c_10 73 = .ok (.lload_n 2, 1) := by decide +kernel
theorem d_10_74 : decode c_10 74 = .ok (.lmul, 1) := by decide +kernel
theorem d_10_75 : decode c_10 75 = .ok (.ladd, 1) := by decide +kernel
theorem d_10_76 : decode c_10 76 = .ok (.lastore, 1) := by decide +kernel
theorem d_10_77 : decode c_10 77 = .ok (.lload_n 2, 1) := by decide +kernel
theorem d_10_78 : decode c_10 78 = .ok (.ldc2_w 31, 3) := by decide +kernel
theorem d_10_81 : decode c_10 81 = .ok (.lmul, 1) := by decide +kernel
theorem d_10_82 : decode c_10 82 = .ok (.lstore_n 2, 1) := by decide +kernel
theorem d_10_83 : decode c_10 83 = .ok (.iinc 4 1, 3) := by decide +kernel
theorem d_10_86 : decode c_10 86 = .ok (.goto (-67), 3) := by decide +kernel
theorem d_10_89 : decode c_10 89 = .ok (.return_, 1) := by decide +kernel
theorem d_11_0 : decode c_11 0 = .ok (.aload_n 0, 1) := by decide +kernel
theorem d_11_1 : decode c_11 1 = .ok (.invokespecial 3, 3) := by decide +kernel
theorem d_11_4 : decode c_11 4 = .ok (.aload_n 0, 1) := by decide +kernel
theorem d_11_5 : decode c_11 5 = .ok (.sipush 2000, 3) := by decide +kernel
theorem d_11_8 : decode c_11 8 = .ok (.newarray .int, 2) := by decide +kernel
theorem d_11_10 : decode c_11 10 = .ok (.putfield 9, 3) := by decide +kernel
theorem d_11_13 : decode c_11 13 = .ok (.aload_n 0, 1) := by decide +kernel
theorem d_11_14 : decode c_11 14 = .ok (.iconst 0, 1) := by decide +kernel
theorem d_11_15 : decode c_11 15 = .ok (.putfield 15, 3) := by decide +kernel
theorem d_11_18 : decode c_11 18 = .ok (.aload_n 0, 1) := by decide +kernel
theorem d_11_19 : decode c_11 19 = .ok (.iconst 0, 1) := by decide +kernel
theorem d_11_20 : decode c_11 20 = .ok (.putfield 19, 3) := by decide +kernel
theorem d_11_23 : decode c_11 23 = .ok (.return_, 1) := by decide +kernel
theorem d_12_0 : decode c_12 0 = .ok (.aload_n 0, 1) := by decide +kernel
theorem d_12_1 : decode c_12 1 = .ok (.invokespecial 3, 3) := by decide +kernel
theorem d_12_4 : decode c_12 4 = .ok (.aload_n 0, 1) := by decide +kernel
theorem d_12_5 : decode c_12 5 = .ok (.aload_n 1, 1) := by decide +kernel
theorem d_12_6 : decode c_12 6 = .ok (.putfield 9, 3) := by decide +kernel
theorem d_12_9 : decode c_12 9 = .ok (.aload_n 0, 1) := by decide +kernel
theorem d_12_10 : decode c_12 10 = .ok (.aload_n 2, 1) := by decide +kernel
theorem d_12_11 : decode c_12 11 = .ok (.putfield 15, 3) := by decide +kernel
theorem d_12_14 : decode c_12 14 = .ok (.aload_n 0, 1) := by decide +kernel
theorem d_12_15 : decode c_12 15 = .ok (.iconst 0, 1) := by decide +kernel
theorem d_12_16 : decode c_12 16 = .ok (.putfield 19, 3) := by decide +kernel
theorem d_12_19 : decode c_12 19 = .ok (.aload_n 0, 1) := by decide +kernel
theorem d_12_20 : decode c_12 20 = .ok (.iconst 1, 1) := by decide +kernel
theorem d_12_21 : decode c_12 21 = .ok (.putfield 23, 3) := by decide +kernel
theorem d_12_24 : decode c_12 24 = .ok (.aload_n 0, 1) := by decide +kernel
theorem d_12_25 : decode c_12 25 = .ok (.bipush 6, 2) := by decide +kernel
theorem d_12_27 : decode c_12 27 = .ok (.putfield 26, 3) := by decide +kernel
theorem d_12_30 : decode c_12 30 = .ok (.aload_n 0, 1) := by decide +kernel
theorem d_12_31 : decode c_12 31 = .ok (.iconst 0, 1) := by decide +kernel
theorem d_12_32 : decode c_12 32 = .ok (.putfield 29, 3) := by decide +kernel
theorem d_12_35 : decode c_12 35 = .ok (.aload_n 0, 1) := by decide +kernel
theorem d_12_36 : decode c_12 36 = .ok (.lconst 0, 1) := by decide +kernel
theorem d_12_37 : decode c_12 37 = .ok (.putfield 32, 3) := by decide +kernel
theorem d_12_40 : decode c_12 40 = .ok (.return_, 1) := by decide +kernel
theorem d_13_0 : decode c_13 0 = .ok (.aload_n 0, 1) := by decide +kernel
theorem d_13_1 : decode c_13 1 = .ok (.invokespecial 3, 3) := by decide +kernel
theorem d_13_4 : decode c_13 4 = .ok (.aload_n 0, 1) := by decide +kernel
theorem d_13_5 : decode c_13 5 = .ok (.aload_n 1, 1) := by decide +kernel
theorem d_13_6 : decode c_13 6 = .ok (.putfield 9, 3) := by decide +kernel
theorem d_13_9 : decode c_13 9 = .ok (.aload_n 0, 1) := by decide +kernel
theorem d_13_10 : decode c_13 10 = .ok (.iconst 0, 1) := by decide +kernel
theorem d_13_11 : decode c_13 11 = .ok (.putfield 15, 3) := by decide +kernel
theorem d_13_14 : decode c_13 14 = .ok (.aload_n 0, 1) := by decide +kernel
theorem d_13_15 : decode c_13 15 = .ok (.ldc 19, 2) := by decide +kernel
theorem d_13_17 : decode c_13 17 = .ok (.putfield 21, 3) := by decide +kernel
theorem d_13_20 : decode c_13 20 = .ok (.aload_n 0, 1) := by decide +kernel
theorem d_13_21 : decode c_13 21 = .ok (.iconst 0, 1) := by decide +kernel
theorem d_13_22 : decode c_13 22 = .ok (.putfield 25, 3) := by decide +kernel
theorem d_13_25 : decode c_13 25 = .ok (.aload_n 0, 1) := by decide +kernel
theorem d_13_26 : decode c_13 26 = .ok (.iconst 0, 1) := by decide +kernel
theorem d_13_27 : decode c_13 27 = .ok (.putfield 28, 3) := by decide +kernel
theorem d_13_30 : decode c_13 30 = .ok (.aload_n 0, 1) := by decide +kernel
theorem d_13_31 : decode c_13 31 = .ok (.iconst 0, 1) := by decide +kernel
theorem d_13_32 : decode c_13 32 = .ok (.putfield 31, 3) := by decide +kernel
theorem d_13_35 : decode c_13 35 = .ok (.return_, 1) := by decide +kernel
theorem d_14_0 : decode c_14 0 = .ok (.aload_n 0, 1) := by decide +kernel
theorem d_14_1 : decode c_14 1 = .ok (.invokespecial 3, 3) := by decide +kernel
theorem d_14_4 : decode c_14 4 = .ok (.aload_n 0, 1) := by decide +kernel
theorem d_14_5 : decode c_14 5 = .ok (.aload_n 1, 1) := by decide +kernel
theorem d_14_6 : decode c_14 6 = .ok (.putfield 9, 3) := by decide +kernel
theorem d_14_9 : decode c_14 9 = .ok (.aload_n 0, 1) := by decide +kernel
theorem d_14_10 : decode c_14 10 = .ok (.aload_n 2, 1) := by decide +kernel
theorem d_14_11 : decode c_14 11 = .ok (.putfield 15, 3) := by decide +kernel
theorem d_14_14 : decode c_14 14 = .ok (.return_, 1) := by decide +kernel
theorem d_15_0 : decode c_15 0 = .ok (.aload_n 0, 1) := by decide +kernel
theorem d_15_1 : decode c_15 1 = .ok (.invokespecial 3, 3) := by decide +kernel
theorem d_15_4 : decode c_15 4 = .ok (.aload_n 0, 1) := by decide +kernel
theorem d_15_5 : decode c_15 5 = .ok (.bipush 120, 2) := by decide +kernel
theorem d_15_7 : decode c_15 7 = .ok (.newarray .int, 2) := by decide +kernel
theorem d_15_9 : decode c_15 9 = .ok (.putfield 9, 3) := by decide +kernel
theorem d_15_12 : decode c_15 12 = .ok (.return_, 1) := by decide +kernel
theorem d_16_0 : decode c_16 0 = .ok (.aload_n 0, 1) := by decide +kernel
theorem d_16_1 : decode c_16 1 = .ok (.invokespecial 3, 3) := by decide +kernel
theorem d_16_4 : decode c_16 4 = .ok (.new 9, 3) := by decide +kernel
theorem d_16_7 : decode c_16 7 = .ok (.dup, 1) := by decide +kernel
theorem d_16_8 : decode c_16 8 = .ok (.invokespecial 11, 3) := by decide +kernel
theorem d_16_11 : decode c_16 11 = .ok (.astore_n 1, 1) := by decide +kernel
theorem d_16_12 : decode c_16 12 = .ok (.aload_n 0, 1) := by decide +kernel
theorem d_16_13 : decode c_16 13 = .ok (.new 12, 3) := by decide +kernel
theorem d_16_16 : decode c_16 16 = .ok (.dup, 1) := by decide +kernel
theorem d_16_17 : decode c_16 17 = .ok (.invokespecial 14, 3) := by decide +kernel
theorem d_16_20 : decode c_16 20 = .ok (.putfield 15, 3) := by decide +kernel
theorem d_16_23 : decode c_16 23 = .ok (.aload_n 0, 1) := by decide +kernel
theorem d_16_24 : decode c_16 24 = .ok (.new 19, 3) := by decide +kernel
theorem d_16_27 : decode c_16 27 = .ok (.dup, 1) := by decide +kernel
theorem d_16_28 : decode c_16 28 = .ok (.new 21, 3) := by decide +kernel
theorem d_16_31 : decode c_16 31 = .ok (.dup, 1) := by decide +kernel
theorem d_16_32 : decode c_16 32 = .ok (.aload_n 0, 1) := by decide +kernel
theorem d_16_33 : decode c_16 33 = .ok (.getfield 15, 3) := by decide +kernel
theorem d_16_36 : decode c_16 36 = .ok (.aload_n 1, 1) := by decide +kernel
theorem d_16_37 : decode c_16 37 = .ok (.invokespecial 23, 3) := by decide +kernel
theorem d_16_40 : decode c_16 40 = .ok (.invokespecial 26, 3) := by decide +kernel
theorem d_16_43 : decode c_16 43 = .ok (.putfield 29, 3) := by decide +kernel
theorem d_16_46 : decode c_16 46 = .ok (.aload_n 0, 1) := by decide +kernel
theorem d_16_47 : decode c_16 47 = .ok (.new 33, 3) := by decide +kernel
theorem d_16_50 : decode c_16 50 = .ok (.dup, 1) := by decide +kernel
theorem d_16_51 : decode c_16 51 = .ok (.aload_n 0, 1) := by decide +kernel
theorem d_16_52 : decode c_16 52 = .ok (.getfield 15, 3) := by decide +kernel
theorem d_16_55 : decode c_16 55 = .ok (.aload_n 1, 1) := by decide +kernel
theorem d_16_56 : decode c_16 56 = .ok (.invokespecial 35, 3) := by decide +kernel
theorem d_16_59 : decode c_16 59 = .ok (.putfield 36, 3) := by decide +kernel
theorem d_16_62 : decode c_16 62 = .ok (.aload_n 0, 1) := by decide +kernel
theorem d_16_63 : decode c_16 63 = .ok (.new 40, 3) := by decide +kernel
theorem d_16_66 : decode c_16 66 = .ok (.dup, 1) := by decide +kernel
theorem d_16_67 : decode c_16 67 = .ok (.invokespecial 42, 3) := by decide +kernel
theorem d_16_70 : decode c_16 70 = .ok (.putfield 43, 3) := by decide +kernel
theorem d_16_73 : decode c_16 73 = .ok (.aload_n 0, 1) := by decide +kernel
theorem d_16_74 : decode c_16 74 = .ok (.bipush 10, 2) := by decide +kernel
theorem d_16_76 : decode c_16 76 = .ok (.anewarray 47, 3) := by decide +kernel
theorem d_16_79 : decode c_16 79 = .ok (.putfield 49, 3) := by decide +kernel
theorem d_16_82 : decode c_16 82 = .ok (.aload_n 0, 1) := by decide +kernel
theorem d_16_83 : decode c_16 83 = .ok (.iconst 0, 1) := by decide +kernel
theorem d_16_84 : decode c_16 84 = .ok (.putfield 53, 3) := by decide +kernel
theorem d_16_87 : decode c_16 87 = .ok (.aload_n 0, 1) := by decide +kernel
theorem d_16_88 : decode c_16 88 = .ok (.iconst (-1), 1) := by decide +kernel
theorem d_16_89 : decode c_16 89 = .ok (.putfield 57, 3) := by decide +kernel
theorem d_16_92 : decode c_16 92 = .ok (.return_, 1) := by decide +kernel
theorem d_17_0 : decode c_17 0 = .ok (.aload_n 0, 1) := by decide +kernel
theorem d_17_1 : decode c_17 1 = .ok (.invokespecial 1, 3) := by decide +kernel
theorem d_17_4 : decode c_17 4 = .ok (.aload_n 0, 1) := by decide +kernel
theorem d_17_5 : decode c_17 5 = .ok (.sipush 2000, 3) := by decide +kernel
theorem d_17_8 : decode c_17 8 = .ok (.newarray .int, 2) := by decide +kernel
theorem d_17_10 : decode c_17 10 = .ok (.putfield 7, 3) := by decide +kernel
theorem d_17_13 : decode c_17 13 = .ok (.aload_n 0, 1) := by decide +kernel
theorem d_17_14 : decode c_17 14 = .ok (.sipush 1001, 3) := by decide +kernel
theorem d_17_17 : decode c_17 17 = .ok (.newarray .int, 2) := by decide +kernel
theorem d_17_19 : decode c_17 19 = .ok (.putfield 13, 3) := by decide +kernel
theorem d_17_22 : decode c_17 22 = .ok (.aload_n 0, 1) := by decide +kernel
theorem d_17_23 : decode c_17 23 = .ok (.sipush 12012, 3) := by decide +kernel
theorem d_17_26 : decode c_17 26 = .ok (.newarray .int, 2) := by decide +kernel
theorem d_17_28 : decode c_17 28 = .ok (.putfield 16, 3) := by decide +kernel
theorem d_17_31 : decode c_17 31 = .ok (.aload_n 0, 1) := by decide +kernel
theorem d_17_32 : decode c_17 32 = .ok (.bipush 120, 2) := by decide +kernel
theorem d_17_34 : decode c_17 34 = .ok (.newarray .int, 2) := by decide +kernel
theorem d_17_36 : decode c_17 36 = .ok (.putfield 19, 3) := by decide +kernel
theorem d_17_39 : decode c_17 39 = .ok (.aload_n 0, 1) := by decide +kernel
theorem d_17_40 : decode c_17 40 = .ok (.bipush 120, 2) := by decide +kernel
theorem d_17_42 : decode c_17 42 = .ok (.newarray .int, 2) := by decide +kernel
theorem d_17_44 : decode c_17 44 = .ok (.putfield 22, 3) := by decide +kernel
theorem d_17_47 : decode c_17 47 = .ok (.aload_n 0, 1) := by decide +kernel
theorem d_17_48 : decode c_17 48 = .ok (.bipush 120, 2) := by decide +kernel
theorem d_17_50 : decode c_17 50 = .ok (.newarray .int, 2) := by decide +kernel
theorem d_17_52 : decode c_17 52 = .ok (.putfield 25, 3) := by decide +kernel
theorem d_17_55 : decode c_17 55 = .ok (.aload_n 0, 1) := by decide +kernel
theorem d_17_56 : decode c_17 56 = .ok (.bipush 120, 2) := by decide +kernel
theorem d_17_58 : decode c_17 58 = .ok (.newarray .int, 2) := by decide +kernel
theorem d_17_60 : decode c_17 60 = .ok (.putfield 28, 3) := by decide +kernel
theorem d_17_63 : decode c_17 63 = .ok (.aload_n 0, 1) := by decide +kernel
theorem d_17_64 : decode c_17 64 = .ok (.bipush 120, 2) := by decide +kernel
theorem d_17_66 : decode c_17 66 = .ok (.newarray .int, 2) := by decide +kernel
theorem d_17_68 : decode c_17 68 = .ok (.putfield 31, 3) := by decide +kernel
theorem d_17_71 : decode c_17 71 = .ok (.aload_n 0, 1) := by decide +kernel
theorem d_17_72 : decode c_17 72 = .ok (.bipush 120, 2) := by decide +kernel
theorem d_17_74 : decode c_17 74 = .ok (.newarray .int, 2) := by decide +kernel
theorem d_17_76 : decode c_17 76 = .ok (.putfield 34, 3) := by decide +kernel
theorem d_17_79 : decode c_17 79 = .ok (.aload_n 0, 1) := by decide +kernel
theorem d_17_80 : decode c_17 80 = .ok (.bipush 120, 2) := by decide +kernel
theorem d_17_82 : decode c_17 82 = .ok (.newarray .int, 2) := by decide +kernel
theorem d_17_84 : decode c_17 84 = .ok (.putfield 37, 3) := by decide +kernel
theorem d_17_87 : decode c_17 87 = .ok (.aload_n 0, 1) := by decide +kernel
theorem d_17_88 : decode c_17 88 = .ok (.bipush 120, 2) := by decide +kernel
theorem d_17_90 : decode c_17 90 = .ok (.newarray .int, 2) := by decide +kernel
theorem d_17_92 : decode c_17 92 = .ok (.putfield 40, 3) := by decide +kernel
theorem d_17_95 : decode c_17 95 = .ok (.aload_n 0, 1) := by decide +kernel
theorem d_17_96 : decode c_17 96 = .ok (.bipush 120, 2) := by decide +kernel
theorem d_17_98 : decode c_17 98 = .ok (.newarray .int, 2) := by decide +kernel
theorem d_17_100 : decode c_17 100 = .ok (.putfield 43, 3) := by decide +kernel
theorem d_17_103 : decode c_17 103 = .ok (.aload_n 0, 1) := by decide +kernel
theorem d_17_104 : decode c_17 104 = .ok (.bipush 120, 2) := by decide +kernel
theorem d_17_106 : decode c_17 106 = .ok (.newarray .int, 2) := by decide +kernel
theorem d_17_108 : decode c_17 108 = .ok (.putfield 46, 3) := by decide +kernel
theorem d_17_111 : decode c_17 111 = .ok (.aload_n 0, 1) := by decide +kernel
theorem d_17_112 : decode c_17 112 = .ok (.bipush 120, 2) := by decide +kernel
theorem d_17_114 : decode c_17 114 = .ok (.newarray .int, 2) := by decide +kernel
theorem d_17_116 : decode c_17 116 = .ok (.putfield 49, 3) := by decide +kernel
theorem d_17_119 : decode c_17 119 = .ok (.aload_n 0, 1) := by decide +kernel
theorem d_17_120 : decode c_17 120 = .ok (.bipush 120, 2) := by decide +kernel
theorem d_17_122 : decode c_17 122 = .ok (.newarray .int, 2) := by decide +kernel
theorem d_17_124 : decode c_17 124 = .ok (.putfield 52, 3) := by decide +kernel
theorem d_17_127 : decode c_17 127 = .ok (.aload_n 0, 1) := by decide +kernel
theorem d_17_128 : decode c_17 128 = .ok (.sipush 600, 3) := by decide +kernel
theorem d_17_131 : decode c_17 131 = .ok (.newarray .int, 2) := by decide +kernel
theorem d_17_133 : decode c_17 133 = .ok (.putfield 55, 3) := by decide +kernel
theorem d_17_136 : decode c_17 136 = .ok (.aload_n 0, 1) := by decide +kernel
theorem d_17_137 : decode c_17 137 = .ok (.sipush 600, 3) := by decide +kernel
theorem d_17_140 : decode c_17 140 = .ok (.newarray .int, 2) := by decide +kernel
theorem d_17_142 : decode c_17 142 = .ok (.putfield 58, 3) := by decide +kernel
theorem d_17_145 : decode c_17 145 = .ok (.aload_n 0, 1) := by decide +kernel
theorem d_17_146 : decode c_17 146 = .ok (.sipush 600, 3) := by decide +kernel
theorem d_17_149 : decode c_17 149 = .ok (.newarray .int, 2) := by decide +kernel
theorem d_17_151 : decode c_17 151 = .ok (.putfield 61, 3) := by decide +kernel
theorem d_17_154 : decode c_17 154 = .ok (.aload_n 0, 1) := by decide +kernel
theorem d_17_155 : decode c_17 155 = .ok (.sipush 6000, 3) := by decide +kernel
theorem d_17_158 : decode c_17 158 = .ok (.newarray .int, 2) := by decide +kernel
theorem d_17_160 : decode c_17 160 = .ok (.putfield 64, 3) := by decide +kernel
theorem d_17_163 : decode c_17 163 = .ok (.aload_n 0, 1) := by decide +kernel
theorem d_17_164 : decode c_17 164 = .ok (.bipush 121, 2) := by decide +kernel
theorem d_17_166 : decode c_17 166 = .ok (.newarray .int, 2) := by decide +kernel
theorem d_17_168 : decode c_17 168 = .ok (.putfield 67, 3) := by decide +kernel
theorem d_17_171 : decode c_17 171 = .ok (.aload_n 0, 1) := by decide +kernel
theorem d_17_172 : decode c_17 172 = .ok (.bipush 120, 2) := by decide +kernel
theorem d_17_174 : decode c_17 174 = .ok (.newarray .int, 2) := by decide +kernel
theorem d_17_176 : decode c_17 176 = .ok (.putfield 70, 3) := by decide +kernel
theorem d_17_179 : decode c_17 179 = .ok (.aload_n 0, 1) := by decide +kernel
theorem d_17_180 : decode c_17 180 = .ok (.bipush 120, 2) := by decide +kernel
theorem d_17_182 : decode c_17 182 = .ok (.newarray .int, 2) := by decide +kernel
theorem d_17_184 : decode c_17 184 = .ok (.putfield 73, 3) := by decide +kernel
theorem d_17_187 : decode c_17 187 = .ok (.aload_n 0, 1) := by decide +kernel
theorem d_17_188 : decode c_17 188 = .ok (.bipush 120, 2) := by decide +kernel
theorem d_17_190 : decode c_17 190 = .ok (.newarray .int, 2) := by decide +kernel
theorem d_17_192 : decode c_17 192 = .ok (.putfield 76, 3) := by decide +kernel
theorem d_17_195 : decode c_17 195 = .ok (.aload_n 0, 1) := by decide +kernel
theorem d_17_196 : decode c_17 196 = .ok (.bipush 120, 2) := by decide +kernel
theorem d_17_198 : decode c_17 198 = .ok (.newarray .int, 2) := by decide +kernel
theorem d_17_200 : decode c_17 200 = .ok (.putfield 79, 3) := by decide +kernel
theorem d_17_203 : decode c_17 203 = .ok (.aload_n 0, 1) := by decide +kernel
theorem d_17_204 : decode c_17 204 = .ok (.bipush 120, 2) := by decide +kernel
theorem d_17_206 : decode c_17 206 = .ok (.newarray .int, 2) := by decide +kernel
theorem d_17_208 : decode c_17 208 = .ok (.putfield 82, 3) := by decide +kernel
theorem d_17_211 : decode c_17 211 = .ok (.aload_n 0, 1) := by decide +kernel
theorem d_17_212 : decode c_17 212 = .ok (.bipush 120, 2) := by decide +kernel
theorem d_17_214 : decode c_17 214 = .ok (.newarray .int, 2) := by decide +kernel
theorem d_17_216 : decode c_17 216 = .ok (.putfield 85, 3) := by decide +kernel
theorem d_17_219 : decode c_17 219 = .ok (.aload_n 0, 1) := by decide +kernel
theorem d_17_220 : decode c_17 220 = .ok (.bipush 120, 2) := by decide +kernel
theorem d_17_222 : decode c_17 222 = .ok (.newarray .int, 2) := by decide +kernel
theorem d_17_224 : decode c_17 224 = .ok (.putfield 88, 3) := by decide +kernel
theorem d_17_227 : decode c_17 227 = .ok (.aload_n 0, 1) := by decide +kernel
theorem d_17_228 : decode c_17 228 = .ok (.bipush 120, 2) := by decide +kernel
theorem d_17_230 : decode c_17 230 = .ok (.newarray .int, 2) := by decide +kernel
theorem d_17_232 : decode c_17 232 = .ok (.putfield 91, 3) := by decide +kernel
theorem d_17_235 : decode c_17 235 = .ok (.aload_n 0, 1) := by decide +kernel
theorem d_17_236 : decode c_17 236 = .ok (.bipush 120, 2) := by decide +kernel
theorem d_17_238 : decode c_17 238 = .ok (.newarray .int, 2) := by decide +kernel
theorem d_17_240 : decode c_17 240 = .ok (.putfield 94, 3) := by decide +kernel
theorem d_17_243 : decode c_17 243 = .ok (.aload_n 0, 1) := by decide +kernel
theorem d_17_244 : decode c_17 244 = .ok (.bipush 120, 2) := by decide +kernel
theorem d_17_246 : decode c_17 246 = .ok (.newarray .int, 2) := by decide +kernel
theorem d_17_248 : decode c_17 248 = .ok (.putfield 97, 3) := by decide +kernel
theorem d_17_251 : decode c_17 251 = .ok (.aload_n 0, 1) := by decide +kernel
theorem d_17_252 : decode c_17 252 = .ok (.bipush 120, 2) := by decide +kernel
theorem d_17_254 : decode c_17 254 = .ok (.newarray .int, 2) := by decide +kernel
theorem d_17_256 : decode c_17 256 = .ok (.putfield 100, 3) := by decide +kernel
theorem d_17_259 : decode c_17 259 = .ok (.aload_n 0, 1) := by decide +kernel
theorem d_17_260 : decode c_17 260 = .ok (.bipush 120, 2) := by decide +kernel
theorem d_17_262 : decode c_17 262 = .ok (.newarray .int, 2) := by decide +kernel
theorem d_17_264 : decode c_17 264 = .ok (.putfield 103, 3) := by decide +kernel
theorem d_17_267 : decode c_17 267 = .ok (.aload_n 0, 1) := by decide +kernel
theorem d_17_268 : decode c_17 268 = .ok (.sipush 600, 3) := by decide +kernel
theorem d_17_271 : decode c_17 271 = .ok (.newarray .int, 2) := by decide +kernel
theorem d_17_273 : decode c_17 273 = .ok (.putfield 106, 3) := by decide +kernel
theorem d_17_276 : decode c_17 276 = .ok (.aload_n 0, 1) := by decide +kernel
theorem d_17_277 : decode c_17 277 = .ok (.sipush 600, 3) := by decide +kernel
theorem d_17_280 : decode c_17 280 = .ok (.newarray .int, 2) := by decide +kernel
theorem d_17_282 : decode c_17 282 = .ok (.putfield 109, 3) := by decide +kernel
theorem d_17_285 : decode c_17 285 = .ok (.aload_n 0, 1) := by decide +kernel
theorem d_17_286 : decode c_17 286 = .ok (.sipush 600, 3) := by decide +kernel
theorem d_17_289 : decode c_17 289 = .ok (.newarray .int, 2) := by decide +kernel
theorem d_17_291 : decode c_17 291 = .ok (.putfield 112, 3) := by decide +kernel
theorem d_17_294 : decode c_17 294 = .ok (.aload_n 0, 1) := by decide +kernel
theorem d_17_295 : decode c_17 295 = .ok (.sipush 6000, 3) := by decide +kernel
theorem d_17_298 : decode c_17 298 = .ok (.newarray .int, 2) := by decide +kernel
theorem d_17_300 : decode c_17 300 = .ok (.putfield 115, 3) := by decide +kernel
theorem d_17_303 : decode c_17 303 = .ok (.aload_n 0, 1) := by decide +kernel
theorem d_17_304 : decode c_17 304 = .ok (.bipush 121, 2) := by decide +kernel
theorem d_17_306 : decode c_17 306 = .ok (.newarray .int, 2) := by decide +kernel
theorem d_17_308 : decode c_17 308 = .ok (.putfield 118, 3) := by decide +kernel
theorem d_17_311 : decode c_17 311 = .ok (.aload_n 0, 1) := by decide +kernel
theorem d_17_312 : decode c_17 312 = .ok (.bipush 8, 2) := by decide +kernel
theorem d_17_314 : decode c_17 314 = .ok (.newarray .int, 2) := by decide +kernel
theorem d_17_316 : decode c_17 316 = .ok (.putfield 121, 3) := by decide +kernel
theorem d_17_319 : decode c_17 319 = .ok (.aload_n 0, 1) := by decide +kernel
theorem d_17_320 : decode c_17 320 = .ok (.sipush 960, 3) := by decide +kernel
theorem d_17_323 : decode c_17 323 = .ok (.newarray .int, 2) := by decide +kernel
theorem d_17_325 : decode c_17 325 = .ok (.putfield 124, 3) := by decide +kernel
theorem d_17_328 : decode c_17 328 = .ok (.aload_n 0, 1) := by decide +kernel
theorem d_17_329 : decode c_17 329 = .ok (.sipush 968, 3) := by decide +kernel
theorem d_17_332 : decode c_17 332 = .ok (.newarray .int, 2) := by decide +kernel
theorem d_17_334 : decode c_17 334 = .ok (.putfield 127, 3) := by decide +kernel
theorem d_17_337 : decode c_17 337 = .ok (.aload_n 0, 1) := by decide +kernel
theorem d_17_338 : decode c_17 338 = .ok (.ldc 130, 2) := by decide +kernel
theorem d_17_340 : decode c_17 340 = .ok (.newarray .int, 2) := by decide +kernel
theorem d_17_342 : decode c_17 342 = .ok (.putfield 131, 3) := by decide +kernel
theorem d_17_345 : decode c_17 345 = .ok (.aload_n 0, 1) := by decide +kernel
theorem d_17_346 : decode c_17 346 = .ok (.bipush 120, 2) := by decide +kernel
theorem d_17_348 : decode c_17 348 = .ok (.newarray .boolean, 2) := by decide +kernel
theorem d_17_350 : decode c_17 350 = .ok (.putfield 134, 3) := by decide +kernel
theorem d_17_353 : decode c_17 353 = .ok (.return_, 1) := by decide +kernel
theorem d_18_0 : decode c_18 0 = .ok (.aload_n 0, 1) := by decide +kernel
theorem d_18_1 : decode c_18 1 = .ok (.getfield 15, 3) := by decide +kernel
theorem d_18_4 : decode c_18 4 = .ok (.aload_n 0, 1) := by decide +kernel
theorem d_18_5 : decode c_18 5 = .ok (.getfield 9, 3) := by decide +kernel
theorem d_18_8 : decode c_18 8 = .ok (.arraylength, 1) := by decide +kernel
theorem d_18_9 : decode c_18 9 = .ok (.if_icmp .lt 9, 3) := by decide +kernel
theorem d_18_12 : decode c_18 12 = .ok (.aload_n 0, 1) := by decide +kernel
theorem d_18_13 : decode c_18 13 = .ok (.iconst 1, 1) := by decide +kernel
theorem d_18_14 : decode c_18 14 = .ok (.putfield 19, 3) := by decide +kernel
theorem d_18_17 : decode c_18 17 = .ok (.return_, 1) := by decide +kernel
theorem d_18_18 : decode c_18 18 = .ok (.aload_n 0, 1) := by decide +kernel
theorem d_18_19 : decode c_18 19 = .ok (.getfield 9, 3) := by decide +kernel
theorem d_18_22 : decode c_18 22 = .ok (.aload_n 0, 1) := by decide +kernel
theorem d_18_23 : decode c_18 23 = .ok (.getfield 15, 3) := by decide +kernel
theorem d_18_26 : decode c_18 26 = .ok (.iload_n 1, 1) := by decide +kernel
theorem d_18_27 : decode c_18 27 = .ok (.iastore, 1) := by decide +kernel
theorem d_18_28 : decode c_18 28 = .ok (.aload_n 0, 1) := by decide +kernel
theorem d_18_29 : decode c_18 29 = .ok (.dup, 1) := by decide +kernel
theorem d_18_30 : decode c_18 30 = .ok (.getfield 15, 3) := by decide +kernel
theorem d_18_33 : decode c_18 33 = .ok (.iconst 1, 1) := by decide +kernel
theorem d_18_34 : decode c_18 34 = .ok (.iadd, 1) := by decide +kernel
theorem d_18_35 : decode c_18 35 = .ok (.putfield 15, 3) := by decide +kernel
theorem d_18_38 : decode c_18 38 = .ok (.return_, 1) := by decide +kernel
theorem d_19_0 : decode c_19 0 = .ok (.bipush 24, 2) := by decide +kernel
theorem d_19_2 : decode c_19 2 = .ok (.istore_n 2, 1) := by decide +kernel
theorem d_19_3 : decode c_19 3 = .ok (.iload_n 2, 1) := by decide +kernel
theorem d_19_4 : decode c_19 4 = .ok (.ifCond .lt 29, 3) := by decide +kernel
theorem d_19_7 : decode c_19 7 = .ok (.iload_n 1, 1) := by decide +kernel
theorem d_19_8 : decode c_19 8 = .ok (.iload_n 2, 1) := by decide +kernel
theorem d_19_9 : decode c_19 9 = .ok (.iushr, 1) := by decide +kernel
theorem d_19_10 : decode c_19 10 = .ok (.sipush 255, 3) := by decide +kernel
theorem d_19_13 : decode c_19 13 = .ok (.iand, 1) := by decide +kernel
theorem d_19_14 : decode c_19 14 = .ok (.istore_n 3, 1) := by decide +kernel
theorem d_19_15 : decode c_19 15 = .ok (.iload_n 3, 1) := by decide +kernel
theorem d_19_16 : decode c_19 16 = .ok (.ifCond .eq 11, 3) := by decide +kernel
theorem d_19_19 : decode c_19 19 = .ok (.aload_n 0, 1) := by decide +kernel
theorem d_19_20 : decode c_19 20 = .ok (.getfield 15, 3) := by decide +kernel
theorem d_19_23 : decode c_19 23 = .ok (.iload_n 3, 1) := by decide +kernel
theorem d_19_24 : decode c_19 24 = .ok (.invokevirtual 60, 3) := by decide +kernel
theorem d_19_27 : decode c_19 27 = .ok (.iinc 2 (-8), 3) := by decide +kernel
theorem d_19_30 : decode c_19 30 = .ok (.goto (-27), 3) := by decide +kernel
theorem d_19_33 : decode c_19 33 = .ok (.return_, 1) := by decide +kernel
theorem d_20_0 : decode c_20 0 = .ok (.bipush 24, 2) := by decide +kernel
theorem d_20_2 : decode c_20 2 = .ok (.istore_n 2, 1) := by decide +kernel
theorem d_20_3 : decode c_20 3 = .ok (.iload_n 2, 1) := by decide +kernel
theorem d_20_4 : decode c_20 4 = .ok (.ifCond .lt 51, 3) := by decide +kernel
theorem d_20_7 : decode c_20 7 = .ok (.iload_n 1, 1) := by decide +kernel
theorem d_20_8 : decode c_20 8 = .ok (.iload_n 2, 1) := by decide +kernel
theorem d_20_9 : decode c_20 9 = .ok (.ishr, 1) := by decide +kernel
theorem d_20_10 : decode c_20 10 = .ok (.sipush 255, 3) := by decide +kernel
theorem d_20_13 : decode c_20 13 = .ok (.iand, 1) := by decide +kernel
theorem d_20_14 : decode c_20 14 = .ok (.istore_n 3, 1) := by decide +kernel
theorem d_20_15 : decode c_20 15 = .ok (.iload_n 3, 1) := by decide +kernel
theorem d_20_16 : decode c_20 16 = .ok (.ifCond .eq 33, 3) := by decide +kernel
theorem d_20_19 : decode c_20 19 = .ok (.aload_n 0, 1) := by decide +kernel
theorem d_20_20 : decode c_20 20 = .ok (.getfield 138, 3) := by decide +kernel
theorem d_20_23 : decode c_20 23 = .ok (.sipush 2000, 3) := by decide +kernel
theorem d_20_26 : decode c_20 26 = .ok (.if_icmp .ge 23, 3) := by decide +kernel
theorem d_20_29 : decode c_20 29 = .ok (.aload_n 0, 1) := by decide +kernel
theorem d_20_30 : decode c_20 30 = .ok (.getfield 7, 3) := by decide +kernel
theorem d_20_33 : decode c_20 33 = .ok (.aload_n 0, 1) := by decide +kernel
theorem d_20_34 : decode c_20 34 = .ok (.getfield 138, 3) := by decide +kernel
theorem d_20_37 : decode c_20 37 = .ok (.iload_n 3, 1) := by decide +kernel
theorem d_20_38 : decode c_20 38 = .ok (.iastore, 1) := by decide +kernel
theorem d_20_39 : decode c_20 39 = .ok (.aload_n 0, 1) := by decide +kernel
theorem d_20_40 : decode c_20 40 = .ok (.dup, 1) := by decide +kernel
theorem d_20_41 : decode c_20 41 = .ok (.getfield 138, 3) := by decide +kernel
theorem d_20_44 : decode c_20 44 = .ok (.iconst 1, 1) := by decide +kernel
theorem d_20_45 : decode c_20 45 = .ok (.iadd, 1) := by decide +kernel
theorem d_20_46 : decode c_20 46 = .ok (.putfield 138, 3) := by decide +kernel
theorem d_20_49 : decode c_20 49 = .ok (.iinc 2 (-8), 3) := by decide +kernel
theorem d_20_52 : decode c_20 52 = .ok (.goto (-49), 3) := by decide +kernel
theorem d_20_55 : decode c_20 55 = .ok (.return_, 1) := by decide +kernel
theorem d_21_0 : decode c_21 0 = .ok (.aload_n 0, 1) := by decide +kernel
theorem d_21_1 : decode c_21 1 = .ok (.getfield 53, 3) := by decide +kernel
theorem d_21_4 : decode c_21 4 = .ok (.bipush 8, 2) := by decide +kernel
theorem d_21_6 : decode c_21 6 = .ok (.if_icmp .ge 8, 3) := by decide +kernel
theorem d_21_9 : decode c_21 9 = .ok (.aload_n 0, 1) := by decide +kernel
theorem d_21_10 : decode c_21 10 = .ok (.getfield 53, 3) := by decide +kernel
theorem d_21_13 : decode c_21 13 = .ok (.ireturn, 1) := by decide +kernel
theorem d_21_14 : decode c_21 14 = .ok (.aload_n 0, 1) := by decide +kernel
theorem d_21_15 : decode c_21 15 = .ok (.getfield 57, 3) := by decide +kernel
theorem d_21_18 : decode c_21 18 = .ok (.bipush 8, 2) := by decide +kernel
theorem d_21_20 : decode c_21 20 = .ok (.if_icmp .ne 8, 3) := by decide +kernel
theorem d_21_23 : decode c_21 23 = .ok (.bipush 9, 2) := by decide +kernel
theorem d_21_25 : decode c_21 25 = .ok (.goto 5, 3) := by decide +kernel
theorem d_21_28 : decode c_21 28 = .ok (.bipush 8, 2) := by decide +kernel
theorem d_21_30 : decode c_21 30 = .ok (.ireturn, 1) := by decide +kernel
theorem d_22_0 : decode c_22 0 = .ok (.aload_n 0, 1) := by decide +kernel
theorem d_22_1 : decode c_22 1 = .ok (.invokespecial 3, 3) := by decide +kernel
theorem d_22_4 : decode c_22 4 = .ok (.aload_n 0, 1) := by decide +kernel
theorem d_22_5 : decode c_22 5 = .ok (.sipush 2000, 3) := by decide +kernel
theorem d_22_8 : decode c_22 8 = .ok (.newarray .byte, 2) := by decide +kernel
theorem d_22_10 : decode c_22 10 = .ok (.putfield 9, 3) := by decide +kernel
theorem d_22_13 : decode c_22 13 = .ok (.aload_n 0, 1) := by decide +kernel
theorem d_22_14 : decode c_22 14 = .ok (.sipush 2000, 3) := by decide +kernel
theorem d_22_17 : decode c_22 17 = .ok (.newarray .int, 2) := by decide +kernel
theorem d_22_19 : decode c_22 19 = .ok (.putfield 15, 3) := by decide +kernel
theorem d_22_22 : decode c_22 22 = .ok (.aload_n 0, 1) := by decide +kernel
theorem d_22_23 : decode c_22 23 = .ok (.iconst 0, 1) := by decide +kernel
theorem d_22_24 : decode c_22 24 = .ok (.putfield 19, 3) := by decide +kernel
theorem d_22_27 : decode c_22 27 = .ok (.aload_n 0, 1) := by decide +kernel
theorem d_22_28 : decode c_22 28 = .ok (.sipush 1000, 3) := by decide +kernel
theorem d_22_31 : decode c_22 31 = .ok (.newarray .long, 2) := by decide +kernel
theorem d_22_33 : decode c_22 33 = .ok (.putfield 23, 3) := by decide +kernel
theorem d_22_36 : decode c_22 36 = .ok (.aload_n 0, 1) := by decide +kernel
theorem d_22_37 : decode c_22 37 = .ok (.iconst 0, 1) := by decide +kernel
theorem d_22_38 : decode c_22 38 = .ok (.putfield 27, 3) := by decide +kernel
theorem d_22_41 : decode c_22 41 = .ok (.aload_n 0, 1) := by decide +kernel
theorem d_22_42 : decode c_22 42 = .ok (.bipush 121, 2) := by decide +kernel
theorem d_22_44 : decode c_22 44 = .ok (.newarray .int, 2) := by decide +kernel
theorem d_22_46 : decode c_22 46 = .ok (.putfield 30, 3) := by decide +kernel
theorem d_22_49 : decode c_22 49 = .ok (.aload_n 0, 1) := by decide +kernel
theorem d_22_50 : decode c_22 50 = .ok (.bipush 121, 2) := by decide +kernel
theorem d_22_52 : decode c_22 52 = .ok (.newarray .int, 2) := by decide +kernel
theorem d_22_54 : decode c_22 54 = .ok (.putfield 33, 3) := by decide +kernel
theorem d_22_57 : decode c_22 57 = .ok (.aload_n 0, 1) := by decide +kernel
theorem d_22_58 : decode c_22 58 = .ok (.bipush 121, 2) := by decide +kernel
theorem d_22_60 : decode c_22 60 = .ok (.newarray .int, 2) := by decide +kernel
theorem d_22_62 : decode c_22 62 = .ok (.putfield 36, 3) := by decide +kernel
theorem d_22_65 : decode c_22 65 = .ok (.aload_n 0, 1) := by decide +kernel
theorem d_22_66 : decode c_22 66 = .ok (.bipush 121, 2) := by decide +kernel
theorem d_22_68 : decode c_22 68 = .ok (.newarray .int, 2) := by decide +kernel
theorem d_22_70 : decode c_22 70 = .ok (.putfield 39, 3) := by decide +kernel
theorem d_22_73 : decode c_22 73 = .ok (.aload_n 0, 1) := by decide +kernel
theorem d_22_74 : decode c_22 74 = .ok (.bipush 121, 2) := by decide +kernel
theorem d_22_76 : decode c_22 76 = .ok (.newarray .int, 2) := by decide +kernel
theorem d_22_78 : decode c_22 78 = .ok (.putfield 42, 3) := by decide +kernel
theorem d_22_81 : decode c_22 81 = .ok (.aload_n 0, 1) := by decide +kernel
theorem d_22_82 : decode c_22 82 = .ok (.iconst 0, 1) := by decide +kernel
theorem d_22_83 : decode c_22 83 = .ok (.putfield 45, 3) := by decide +kernel
theorem d_22_86 : decode c_22 86 = .ok (.return_, 1) := by decide +kernel
theorem d_23_0 : decode c_23 0 = .ok (.iload_n 1, 1) := by decide +kernel
theorem d_23_1 : decode c_23 1 = .ok (.ifCond .lt 12, 3) := by decide +kernel
theorem d_23_4 : decode c_23 4 = .ok (.iload_n 1, 1) := by decide +kernel
theorem d_23_5 : decode c_23 5 = .ok (.aload_n 0, 1) := by decide +kernel
theorem d_23_6 : decode c_23 6 = .ok (.getfield 49, 3) := by decide +kernel
theorem d_23_9 : decode c_23 9 = .ok (.arraylength, 1) := by decide +kernel
theorem d_23_10 : decode c_23 10 = .ok (.if_icmp .lt 5, 3) := by decide +kernel
theorem d_23_13 : decode c_23 13 = .ok (.aconst_null, 1) := by decide +kernel
theorem d_23_14 : decode c_23 14 = .ok (.areturn, 1) := by decide +kernel
theorem d_23_15 : decode c_23 15 = .ok (.aload_n 0, 1) := by decide +kernel
theorem d_23_16 : decode c_23 16 = .ok (.getfield 49, 3) := by decide +kernel
theorem d_23_19 : decode c_23 19 = .ok (.iload_n 1, 1) := by decide +kernel
theorem d_23_20 : decode c_23 20 = .ok (.aaload, 1) := by decide +kernel
theorem d_23_21 : decode c_23 21 = .ok (.ifnonnull 16, 3) := by decide +kernel
theorem d_23_24 : decode c_23 24 = .ok (.aload_n 0, 1) := by decide +kernel
theorem d_23_25 : decode c_23 25 = .ok (.getfield 49, 3) := by decide +kernel
theorem d_23_28 : decode c_23 28 = .ok (.iload_n 1, 1) := by decide +kernel
theorem d_23_29 : decode c_23 29 = .ok (.new 47, 3) := by decide +kernel
theorem d_23_32 : decode c_23 32 = .ok (.dup, 1) := by decide +kernel
theorem d_23_33 : decode c_23 33 = .ok (.invokespecial 162, 3) := by decide +kernel
theorem d_23_36 : decode c_23 36 = .ok (.aastore, 1) := by decide +kernel
theorem d_23_37 : decode c_23 37 = .ok (.aload_n 0, 1) := by decide +kernel
theorem d_23_38 : decode c_23 38 = .ok (.getfield 49, 3) := by decide +kernel
theorem d_23_41 : decode c_23 41 = .ok (.iload_n 1, 1) := by decide +kernel
theorem d_23_42 : decode c_23 42 = .ok (.aaload, 1) := by decide +kernel
theorem d_23_43 : decode c_23 43 = .ok (.areturn, 1) := by decide +kernel
theorem d_24_0 : decode c_24 0 = .ok (.aload_n 0, 1) := by decide +kernel
theorem d_24_1 : decode c_24 1 = .ok (.iconst 0, 1) := by decide +kernel
theorem d_24_2 : decode c_24 2 = .ok (.putfield 19, 3) := by decide +kernel
theorem d_24_5 : decode c_24 5 = .ok (.aload_n 0, 1) := by decide +kernel
theorem d_24_6 : decode c_24 6 = .ok (.iconst 0, 1) := by decide +kernel
theorem d_24_7 : decode c_24 7 = .ok (.putfield 27, 3) := by decide +kernel
theorem d_24_10 : decode c_24 10 = .ok (.aload_n 0, 1) := by decide +kernel
theorem d_24_11 : decode c_24 11 = .ok (.iconst 0, 1) := by decide +kernel
theorem d_24_12 : decode c_24 12 = .ok (.putfield 45, 3) := by decide +kernel
theorem d_24_15 : decode c_24 15 = .ok (.return_, 1) := by decide +kernel
theorem d_25_0 : decode c_25 0 = .ok (.aload_n 0, 1) := by decide +kernel
theorem d_25_1 : decode c_25 1 = .ok (.iconst 0, 1) := by decide +kernel
theorem d_25_2 : decode c_25 2 = .ok (.putfield 19, 3) := by decide +kernel
theorem d_25_5 : decode c_25 5 = .ok (.aload_n 0, 1) := by decide +kernel
theorem d_25_6 : decode c_25 6 = .ok (.iconst 1, 1) := by decide +kernel
theorem d_25_7 : decode c_25 7 = .ok (.putfield 23, 3) := by decide +kernel
theorem d_25_10 : decode c_25 10 = .ok (.return_, 1) := by decide +kernel
theorem d_26_0 : decode c_26 0 = .ok (.aload_n 0, 1) := by decide +kernel
theorem d_26_1 : decode c_26 1 = .ok (.aload_n 1, 1) := by decide +kernel
theorem d_26_2 : decode c_26 2 = .ok (.putfield 21, 3) := by decide +kernel
theorem d_26_5 : decode c_26 5 = .ok (.aload_n 0, 1) := by decide +kernel
theorem d_26_6 : decode c_26 6 = .ok (.iconst 0, 1) := by decide +kernel
theorem d_26_7 : decode c_26 7 = .ok (.putfield 25, 3) := by decide +kernel
theorem d_26_10 : decode c_26 10 = .ok (.return_, 1) := by decide +kernel
theorem d_27_0 : decode c_27 0 = .ok (.aload_n 0, 1) := by decide +kernel
theorem d_27_1 : decode c_27 1 = .ok (.getfield 15, 3) := by decide +kernel
theorem d_27_4 : decode c_27 4 = .ok (.ireturn, 1) := by decide +kernel
theorem d_28_0 : decode c_28 0 = .ok (.iload_n 1, 1) := by decide +kernel
theorem d_28_1 : decode c_28 1 = .ok (.ifCond .lt 20, 3) := by decide +kernel
theorem d_28_4 : decode c_28 4 = .ok (.iload_n 1, 1) := by decide +kernel
theorem d_28_5 : decode c_28 5 = .ok (.aload_n 0, 1) := by decide +kernel
theorem d_28_6 : decode c_28 6 = .ok (.getfield 15, 3) := by decide +kernel
theorem d_28_9 : decode c_28 9 = .ok (.if_icmp .ge 12, 3) := by decide +kernel
theorem d_28_12 : decode c_28 12 = .ok (.iload_n 1, 1) := by decide +kernel
theorem d_28_13 : decode c_28 13 = .ok (.aload_n 0, 1) := by decide +kernel
theorem d_28_14 : decode c_28 14 = .ok (.getfield 9, 3) := by decide +kernel
theorem d_28_17 : decode c_28 17 = .ok (.arraylength, 1) := by decide +kernel
theorem d_28_18 : decode c_28 18 = .ok (.if_icmp .lt 7, 3) := by decide +kernel
theorem d_28_21 : decode c_28 21 = .ok (.iconst (-1), 1) := by decide +kernel
theorem d_28_22 : decode c_28 22 = .ok (.goto 9, 3) := by decide +kernel
theorem d_28_25 : decode c_28 25 = .ok (.aload_n 0, 1) := by decide +kernel
theorem d_28_26 : decode c_28 26 = .ok (.getfield 9, 3) := by decide +kernel
theorem d_28_29 : decode c_28 29 = .ok (.iload_n 1, 1) := by decide +kernel
theorem d_28_30 : decode c_28 30 = .ok (.iaload, 1) := by decide +kernel
theorem d_28_31 : decode c_28 31 = .ok (.ireturn, 1) := by decide +kernel
theorem d_29_0 : decode c_29 0 = .ok (.iload_n 0, 1) := by decide +kernel
theorem d_29_1 : decode c_29 1 = .ok (.bipush 9, 2) := by decide +kernel
theorem d_29_3 : decode c_29 3 = .ok (.if_icmp .eq 21, 3) := by decide +kernel
theorem d_29_6 : decode c_29 6 = .ok (.iload_n 0, 1) := by decide +kernel
theorem d_29_7 : decode c_29 7 = .ok (.bipush 10, 2) := by decide +kernel
theorem d_29_9 : decode c_29 9 = .ok (.if_icmp .eq 15, 3) := by decide +kernel
theorem d_29_12 : decode c_29 12 = .ok (.iload_n 0, 1) := by decide +kernel
theorem d_29_13 : decode c_29 13 = .ok (.bipush 13, 2) := by decide +kernel
theorem d_29_15 : decode c_29 15 = .ok (.if_icmp .eq 9, 3) := by decide +kernel
theorem d_29_18 : decode c_29 18 = .ok (.iload_n 0, 1) := by decide +kernel
theorem d_29_19 : decode c_29 19 = .ok (.bipush 32, 2) := by decide +kernel
theorem d_29_21 : decode c_29 21 = .ok (.if_icmp .ne 7, 3) := by decide +kernel
theorem d_29_24 : decode c_29 24 = .ok (.iconst 1, 1) := by decide +kernel
theorem d_29_25 : decode c_29 25 = .ok (.goto 4, 3) := by decide +kernel
theorem d_29_28 : decode c_29 28 = .ok (.iconst 0, 1) := by decide +kernel
theorem d_29_29 : decode c_29 29 = .ok (.ireturn, 1) := by decide +kernel
theorem d_30_0 : decode c_30 0 = .ok (.aload_n 0, 1) := by decide +kernel
theorem d_30_1 : decode c_30 1 = .ok (.getfield 19, 3) := by decide +kernel
theorem d_30_4 : decode c_30 4 = .ok (.aload_n 0, 1) := by decide +kernel
theorem d_30_5 : decode c_30 5 = .ok (.getfield 9, 3) := by decide +kernel
theorem d_30_8 : decode c_30 8 = .ok (.invokevirtual 67, 3) := by decide +kernel
theorem d_30_11 : decode c_30 11 = .ok (.if_icmp .ge 59, 3) := by decide +kernel
theorem d_30_14 : decode c_30 14 = .ok (.aload_n 0, 1) := by decide +kernel
theorem d_30_15 : decode c_30 15 = .ok (.getfield 9, 3) := by decide +kernel
theorem d_30_18 : decode c_30 18 = .ok (.aload_n 0, 1) := by decide +kernel
theorem d_30_19 : decode c_30 19 = .ok (.getfield 19, 3) := by decide +kernel
theorem d_30_22 : decode c_30 22 = .ok (.invokevirtual 39, 3) := by decide +kernel
theorem d_30_25 : decode c_30 25 = .ok (.invokestatic 71, 3) := by decide +kernel
theorem d_30_28 : decode c_30 28 = .ok (.ifCond .eq 42, 3) := by decide +kernel
theorem d_30_31 : decode c_30 31 = .ok (.aload_n 0, 1) := by decide +kernel
theorem d_30_32 : decode c_30 32 = .ok (.getfield 9, 3) := by decide +kernel
theorem d_30_35 : decode c_30 35 = .ok (.aload_n 0, 1) := by decide +kernel
theorem d_30_36 : decode c_30 36 = .ok (.getfield 19, 3) := by decide +kernel
theorem d_30_39 : decode c_30 39 = .ok (.invokevirtual 39, 3) := by decide +kernel
theorem d_30_42 : decode c_30 42 = .ok (.bipush 10, 2) := by decide +kernel
theorem d_30_44 : decode c_30 44 = .ok (.if_icmp .ne 13, 3) := by decide +kernel
theorem d_30_47 : decode c_30 47 = .ok (.aload_n 0, 1) := by decide +kernel
theorem d_30_48 : decode c_30 48 = .ok (.dup, 1) := by decide +kernel
theorem d_30_49 : decode c_30 49 = .ok (.getfield 23, 3) := by decide +kernel
theorem d_30_52 : decode c_30 52 = .ok (.iconst 1, 1) := by decide +kernel
theorem d_30_53 : decode c_30 53 = .ok (.iadd, 1) := by decide +kernel
theorem d_30_54 : decode c_30 54 = .ok (.putfield 23, 3) := by decide +kernel
theorem d_30_57 : decode c_30 57 = .ok (.aload_n 0, 1) := by decide +kernel
theorem d_30_58 : decode c_30 58 = .ok (.dup, 1) := by decide +kernel
theorem d_30_59 : decode c_30 59 = .ok (.getfield 19, 3) := by decide +kernel
theorem d_30_62 : decode c_30 62 = .ok (.iconst 1, 1) := by decide +kernel
theorem d_30_63 : decode c_30 63 = .ok (.iadd, 1) := by decide +kernel
theorem d_30_64 : decode c_30 64 = .ok (.putfield 19, 3) := by decide +kernel
theorem d_30_67 : decode c_30 67 = .ok (.goto (-67), 3) := by decide +kernel
theorem d_30_70 : decode c_30 70 = .ok (.return_, 1) := by decide +kernel
theorem d_31_0 : decode c_31 0 = .ok (.iconst 0, 1) := by decide +kernel
theorem d_31_1 : decode c_31 1 = .ok (.istore_n 3, 1) := by decide +kernel
theorem d_31_2 : decode c_31 2 = .ok (.iload_n 3, 1) := by decide +kernel
theorem d_31_3 : decode c_31 3 = .ok (.aload_n 0, 1) := by decide +kernel
theorem d_31_4 : decode c_31 4 = .ok (.getfield 9, 3) := by decide +kernel
theorem d_31_7 : decode c_31 7 = .ok (.arraylength, 1) := by decide +kernel
theorem d_31_8 : decode c_31 8 = .ok (.if_icmp .ge 24, 3) := by decide +kernel
theorem d_31_11 : decode c_31 11 = .ok (.aload_n 0, 1) := by decide +kernel
theorem d_31_12 : decode c_31 12 = .ok (.getfield 9, 3) := by decide +kernel
theorem d_31_15 : decode c_31 15 = .ok (.iload_n 3, 1) := by decide +kernel
theorem d_31_16 : decode c_31 16 = .ok (.laload, 1) := by decide +kernel
theorem d_31_17 : decode c_31 17 = .ok (.lload_n 1, 1) := by decide +kernel
theorem d_31_18 : decode c_31 18 = .ok (.lcmp, 1) := by decide +kernel
theorem d_31_19 : decode c_31 19 = .ok (.ifCond .ne 7, 3) := by decide +kernel
theorem d_31_22 : decode c_31 22 = .ok (.iconst 1, 1) := by decide +kernel
theorem d_31_23 : decode c_31 23 = .ok (.iload_n 3, 1) := by decide +kernel
theorem d_31_24 : decode c_31 24 = .ok (.ishl, 1) := by decide +kernel
theorem d_31_25 : decode c_31 25 = .ok (.ireturn, 1) := by decide +kernel
theorem d_31_26 : decode c_31 26 = .ok (.iinc 3 1, 3) := by decide +kernel
theorem d_31_29 : decode c_31 29 = .ok (.goto (-27), 3) := by decide +kernel
theorem d_31_32 : decode c_31 32 = .ok (.iconst 0, 1) := by decide +kernel
theorem d_31_33 : decode c_31 33 = .ok (.ireturn, 1) := by decide +kernel
theorem d_32_0 : decode c_32 0 = .ok (.aload_n 0, 1) := by decide +kernel
theorem d_32_1 : decode c_32 1 = .ok (.lconst 0, 1) := by decide +kernel
theorem d_32_2 : decode c_32 2 = .ok (.putfield 32, 3) := by decide +kernel
theorem d_32_5 : decode c_32 5 = .ok (.lconst 1, 1) := by decide +kernel
theorem d_32_6 : decode c_32 6 = .ok (.lstore_n 1, 1) := by decide +kernel
theorem d_32_7 : decode c_32 7 = .ok (.aload_n 0, 1) := by decide +kernel
theorem d_32_8 : decode c_32 8 = .ok (.getfield 9, 3) := by decide +kernel
theorem d_32_11 : decode c_32 11 = .ok (.aload_n 0, 1) := by decide +kernel
theorem d_32_12 : decode c_32 12 = .ok (.getfield 19, 3) := by decide +kernel
theorem d_32_15 : decode c_32 15 = .ok (.invokevirtual 39, 3) := by decide +kernel
theorem d_32_18 : decode c_32 18 = .ok (.invokestatic 74, 3) := by decide +kernel
theorem d_32_21 : decode c_32 21 = .ok (.istore_n 3, 1) := by decide +kernel
theorem d_32_22 : decode c_32 22 = .ok (.iconst 0, 1) := by decide +kernel
theorem d_32_23 : decode c_32 23 = .ok (.istore 4, 2) := by decide +kernel
theorem d_32_25 : decode c_32 25 = .ok (.iload 4, 2) := by decide +kernel
theorem d_32_27 : decode c_32 27 = .ok (.bipush 12, 2) := by decide +kernel
theorem d_32_29 : decode c_32 29 = .ok (.if_icmp .ge 57, 3) := by decide +kernel
theorem d_32_32 : decode c_32 32 = .ok (.iload_n 3, 1) := by decide +kernel
theorem d_32_33 : decode c_32 33 = .ok (.ifCond .le 53, 3) := by decide +kernel
theorem d_32_36 : decode c_32 36 = .ok (.aload_n 0, 1) := by decide +kernel
theorem d_32_37 : decode c_32 37 = .ok (.dup, 1) := by decide +kernel
theorem d_32_38 : decode c_32 38 = .ok (.getfield 32, 3) := by decide +kernel
theorem d_32_41 : decode c_32 41 = .ok (.iload_n 3, 1) := by decide +kernel
theorem d_32_42 : decode c_32 42 = .ok (.i2l, 1) := by decide +kernel
theorem d_32_43 : decode c_32 43 = .ok (.lload_n 1, 1) := by decide +kernel
theorem d_32_44 : decode c_32 44 = .ok (.lmul, 1) := by decide +kernel
theorem d_32_45 : decode c_32 45 = .ok (.ladd, 1) := by decide +kernel
theorem d_32_46 : decode c_32 46 = .ok (.putfield 32, 3) := by decide +kernel
theorem d_32_49 : decode c_32 49 = .ok (.lload_n 1, 1) := by decide +kernel
theorem d_32_50 : decode c_32 50 = .ok (.ldc2_w 77, 3) := by decide +kernel
theorem d_32_53 : decode c_32 53 = .ok (.lmul, 1) := by decide +kernel
theorem d_32_54 : decode c_32 54 = .ok (.lstore_n 1, 1) := by decide +kernel
theorem d_32_55 : decode c_32 55 = .ok (.aload_n 0, 1) := by decide +kernel
theorem d_32_56 : decode c_32 56 = .ok (.dup, 1) := by decide +kernel
theorem d_32_57 : decode c_32 57 = .ok (.getfield 19, 3) := by decide +kernel
theorem d_32_60 : decode c_32 60 = .ok (.iconst 1, 1) := by decide +kernel
theorem d_32_61 : decode c_32 61 = .ok (.iadd, 1) := by decide +kernel
theorem d_32_62 : decode c_32 62 = .ok (.putfield 19, 3) := by decide +kernel
theorem d_32_65 : decode c_32 65 = .ok (.aload_n 0, 1) := by decide +kernel
theorem d_32_66 : decode c_32 66 = .ok (.getfield 9, 3) := by decide +kernel
theorem d_32_69 : decode c_32 69 = .ok (.aload_n 0, 1) := by decide +kernel
theorem d_32_70 : decode c_32 70 = .ok (.getfield 19, 3) := by decide +kernel
theorem d_32_73 : decode c_32 73 = .ok (.invokevirtual 39, 3) := by decide +kernel
theorem d_32_76 : decode c_32 76 = .ok (.invokestatic 74, 3) := by decide +kernel
theorem d_32_79 : decode c_32 79 = .ok (.istore_n 3, 1) := by decide +kernel
theorem d_32_80 : decode c_32 80 = .ok (.iinc 4 1, 3) := by decide +kernel
theorem d_32_83 : decode c_32 83 = .ok (.goto (-58), 3) := by decide +kernel
theorem d_32_86 : decode c_32 86 = .ok (.aload_n 0, 1) := by decide +kernel
theorem d_32_87 : decode c_32 87 = .ok (.aload_n 0, 1) := by decide +kernel
theorem d_32_88 : decode c_32 88 = .ok (.getfield 15, 3) := by decide +kernel
theorem d_32_91 : decode c_32 91 = .ok (.aload_n 0, 1) := by decide +kernel
theorem d_32_92 : decode c_32 92 = .ok (.getfield 32, 3) := by decide +kernel
theorem d_32_95 : decode c_32 95 = .ok (.invokevirtual 79, 3) := by decide +kernel
theorem d_32_98 : decode c_32 98 = .ok (.putfield 29, 3) := by decide +kernel
theorem d_32_101 : decode c_32 101 = .ok (.iload_n 3, 1) := by decide +kernel
theorem d_32_102 : decode c_32 102 = .ok (.ifCond .le 11, 3) := by decide +kernel
theorem d_32_105 : decode c_32 105 = .ok (.aload_n 0, 1) := by decide +kernel
theorem d_32_106 : decode c_32 106 = .ok (.iconst 5, 1) := by decide +kernel
theorem d_32_107 : decode c_32 107 = .ok (.putfield 26, 3) := by decide +kernel
theorem d_32_110 : decode c_32 110 = .ok (.goto 19, 3) := by decide +kernel
theorem d_32_113 : decode c_32 113 = .ok (.aload_n 0, 1) := by decide +kernel
theorem d_32_114 : decode c_32 114 = .ok (.aload_n 0, 1) := by decide +kernel
theorem d_32_115 : decode c_32 115 = .ok (.getfield 29, 3) := by decide +kernel
theorem d_32_118 : decode c_32 118 = .ok (.ifCond .ne 7, 3) := by decide +kernel
theorem d_32_121 : decode c_32 121 = .ok (.iconst 2, 1) := by decide +kernel
theorem d_32_122 : decode c_32 122 = .ok (.goto 4, 3) := by decide +kernel
theorem d_32_125 : decode c_32 125 = .ok (.iconst 1, 1) := by decide +kernel
theorem d_32_126 : decode c_32 126 = .ok (.putfield 26, 3) := by decide +kernel
theorem d_32_129 : decode c_32 129 = .ok (.return_, 1) := by decide +kernel
theorem d_33_0 : decode c_33 0 = .ok (.aload_n 0, 1) := by decide +kernel
theorem d_33_1 : decode c_33 1 = .ok (.iconst 0, 1) := by decide +kernel
theorem d_33_2 : decode c_33 2 = .ok (.putfield 29, 3) := by decide +kernel
theorem d_33_5 : decode c_33 5 = .ok (.iconst 0, 1) := by decide +kernel
theorem d_33_6 : decode c_33 6 = .ok (.istore_n 1, 1) := by decide +kernel
theorem d_33_7 : decode c_33 7 = .ok (.iload_n 1, 1) := by decide +kernel
theorem d_33_8 : decode c_33 8 = .ok (.bipush 6, 2) := by decide +kernel
theorem d_33_10 : decode c_33 10 = .ok (.if_icmp .ge 62, 3) := by decide +kernel
theorem d_33_13 : decode c_33 13 = .ok (.aload_n 0, 1) := by decide +kernel
theorem d_33_14 : decode c_33 14 = .ok (.getfield 9, 3) := by decide +kernel
theorem d_33_17 : decode c_33 17 = .ok (.aload_n 0, 1) := by decide +kernel
theorem d_33_18 : decode c_33 18 = .ok (.getfield 19, 3) := by decide +kernel
theorem d_33_21 : decode c_33 21 = .ok (.invokevirtual 39, 3) := by decide +kernel
theorem d_33_24 : decode c_33 24 = .ok (.invokestatic 54, 3) := by decide +kernel
theorem d_33_27 : decode c_33 27 = .ok (.ifCond .eq 45, 3) := by decide +kernel
theorem d_33_30 : decode c_33 30 = .ok (.aload_n 0, 1) := by decide +kernel
theorem d_33_31 : decode c_33 31 = .ok (.aload_n 0, 1) := by decide +kernel
theorem d_33_32 : decode c_33 32 = .ok (.getfield 29, 3) := by decide +kernel
theorem d_33_35 : decode c_33 35 = .ok (.bipush 10, 2) := by decide +kernel
theorem d_33_37 : decode c_33 37 = .ok (.imul, 1) := by decide +kernel
theorem d_33_38 : decode c_33 38 = .ok (.aload_n 0, 1) := by decide +kernel
theorem d_33_39 : decode c_33 39 = .ok (.getfield 9, 3) := by decide +kernel
theorem d_33_42 : decode c_33 42 = .ok (.aload_n 0, 1) := by decide +kernel
theorem d_33_43 : decode c_33 43 = .ok (.getfield 19, 3) := by decide +kernel
theorem d_33_46 : decode c_33 46 = .ok (.invokevirtual 39, 3) := by decide +kernel
theorem d_33_49 : decode c_33 49 = .ok (.iadd, 1) := by decide +kernel
theorem d_33_50 : decode c_33 50 = .ok (.bipush 48, 2) := by decide +kernel
theorem d_33_52 : decode c_33 52 = .ok (.isub, 1) := by decide +kernel
theorem d_33_53 : decode c_33 53 = .ok (.putfield 29, 3) := by decide +kernel
theorem d_33_56 : decode c_33 56 = .ok (.aload_n 0, 1) := by decide +kernel
theorem d_33_57 : decode c_33 57 = .ok (.dup, 1) := by decide +kernel
theorem d_33_58 : decode c_33 58 = .ok (.getfield 19, 3) := by decide +kernel
theorem d_33_61 : decode c_33 61 = .ok (.iconst 1, 1) := by decide +kernel
theorem d_33_62 : decode c_33 62 = .ok (.iadd, 1) := by decide +kernel
theorem d_33_63 : decode c_33 63 = .ok (.putfield 19, 3) := by decide +kernel
theorem d_33_66 : decode c_33 66 = .ok (.iinc 1 1, 3) := by decide +kernel
theorem d_33_69 : decode c_33 69 = .ok (.goto (-62), 3) := by decide +kernel
theorem d_33_72 : decode c_33 72 = .ok (.aload_n 0, 1) := by decide +kernel
theorem d_33_73 : decode c_33 73 = .ok (.aload_n 0, 1) := by decide +kernel
theorem d_33_74 : decode c_33 74 = .ok (.getfield 9, 3) := by decide +kernel
theorem d_33_77 : decode c_33 77 = .ok (.aload_n 0, 1) := by decide +kernel
theorem d_33_78 : decode c_33 78 = .ok (.getfield 19, 3) := by decide +kernel
theorem d_33_81 : decode c_33 81 = .ok (.invokevirtual 39, 3) := by decide +kernel
theorem d_33_84 : decode c_33 84 = .ok (.invokestatic 74, 3) := by decide +kernel
theorem d_33_87 : decode c_33 87 = .ok (.ifCond .le 7, 3) := by decide +kernel
theorem d_33_90 : decode c_33 90 = .ok (.iconst 5, 1) := by decide +kernel
theorem d_33_91 : decode c_33 91 = .ok (.goto 4, 3) := by decide +kernel
theorem d_33_94 : decode c_33 94 = .ok (.iconst 3, 1) := by decide +kernel
theorem d_33_95 : decode c_33 95 = .ok (.putfield 26, 3) := by decide +kernel
theorem d_33_98 : decode c_33 98 = .ok (.return_, 1) := by decide +kernel
theorem d_34_0 : decode c_34 0 = .ok (.iload_n 0, 1) := by decide +kernel
theorem d_34_1 : decode c_34 1 = .ok (.ifCond .lt 14, 3) := by decide +kernel
theorem d_34_4 : decode c_34 4 = .ok (.iload_n 0, 1) := by decide +kernel
theorem d_34_5 : decode c_34 5 = .ok (.sipush 255, 3) := by decide +kernel
theorem d_34_8 : decode c_34 8 = .ok (.if_icmp .gt 7, 3) := by decide +kernel
theorem d_34_11 : decode c_34 11 = .ok (.iconst 1, 1) := by decide +kernel
theorem d_34_12 : decode c_34 12 = .ok (.goto 4, 3) := by decide +kernel
theorem d_34_15 : decode c_34 15 = .ok (.iconst 0, 1) := by decide +kernel
theorem d_34_16 : decode c_34 16 = .ok (.ireturn, 1) := by decide +kernel
theorem d_35_0 : decode c_35 0 = .ok (.iload_n 1, 1) := by decide +kernel
theorem d_35_1 : decode c_35 1 = .ok (.i2b, 1) := by decide +kernel
theorem d_35_2 : decode c_35 2 = .ok (.istore 4, 2) := by decide +kernel
theorem d_35_4 : decode c_35 4 = .ok (.iload_n 2, 1) := by decide +kernel
theorem d_35_5 : decode c_35 5 = .ok (.istore 5, 2) := by decide +kernel
theorem d_35_7 : decode c_35 7 = .ok (.iload 5, 2) := by decide +kernel
theorem d_35_9 : decode c_35 9 = .ok (.iload_n 3, 1) := by decide +kernel
theorem d_35_10 : decode c_35 10 = .ok (.if_icmp .ge 21, 3) := by decide +kernel
theorem d_35_13 : decode c_35 13 = .ok (.aload_n 0, 1) := by decide +kernel
theorem d_35_14 : decode c_35 14 = .ok (.iload 5, 2) := by decide +kernel
theorem d_35_16 : decode c_35 16 = .ok (.baload, 1) := by decide +kernel
theorem d_35_17 : decode c_35 17 = .ok (.iload 4, 2) := by decide +kernel
theorem d_35_19 : decode c_35 19 = .ok (.if_icmp .ne 6, 3) := by decide +kernel
theorem d_35_22 : decode c_35 22 = .ok (.iload 5, 2) := by decide +kernel
theorem d_35_24 : decode c_35 24 = .ok (.ireturn, 1) := by decide +kernel
theorem d_35_25 : decode c_35 25 = .ok (.iinc 5 1, 3) := by decide +kernel
theorem d_35_28 : decode c_35 28 = .ok (.goto (-21), 3) := by decide +kernel
theorem d_35_31 : decode c_35 31 = .ok (.iconst (-1), 1) := by decide +kernel
theorem d_35_32 : decode c_35 32 = .ok (.ireturn, 1) := by decide +kernel
theorem d_36_0 : decode c_36 0 = .ok (.iload_n 1, 1) := by decide +kernel
theorem d_36_1 : decode c_36 1 = .ok (.invokestatic 88, 3) := by decide +kernel
theorem d_36_4 : decode c_36 4 = .ok (.ifCond .ne 5, 3) := by decide +kernel
theorem d_36_7 : decode c_36 7 = .ok (.iconst (-1), 1) := by decide +kernel
theorem d_36_8 : decode c_36 8 = .ok (.ireturn, 1) := by decide +kernel
theorem d_36_9 : decode c_36 9 = .ok (.iload_n 2, 1) := by decide +kernel
theorem d_36_10 : decode c_36 10 = .ok (.iconst 0, 1) := by decide +kernel
theorem d_36_11 : decode c_36 11 = .ok (.invokestatic 92, 3) := by decide +kernel
theorem d_36_14 : decode c_36 14 = .ok (.istore_n 2, 1) := by decide +kernel
theorem d_36_15 : decode c_36 15 = .ok (.iload_n 3, 1) := by decide +kernel
theorem d_36_16 : decode c_36 16 = .ok (.aload_n 0, 1) := by decide +kernel
theorem d_36_17 : decode c_36 17 = .ok (.arraylength, 1) := by decide +kernel
theorem d_36_18 : decode c_36 18 = .ok (.invokestatic 38, 3) := by decide +kernel
theorem d_36_21 : decode c_36 21 = .ok (.istore_n 3, 1) := by decide +kernel
theorem d_36_22 : decode c_36 22 = .ok (.iload_n 2, 1) := by decide +kernel
theorem d_36_23 : decode c_36 23 = .ok (.iload_n 3, 1) := by decide +kernel
theorem d_36_24 : decode c_36 24 = .ok (.if_icmp .lt 5, 3) := by decide +kernel
theorem d_36_27 : decode c_36 27 = .ok (.iconst (-1), 1) := by decide +kernel
theorem d_36_28 : decode c_36 28 = .ok (.ireturn, 1) := by decide +kernel
theorem d_36_29 : decode c_36 29 = .ok (.aload_n 0, 1) := by decide +kernel
theorem d_36_30 : decode c_36 30 = .ok (.iload_n 1, 1) := by decide +kernel
theorem d_36_31 : decode c_36 31 = .ok (.iload_n 2, 1) := by decide +kernel
theorem d_36_32 : decode c_36 32 = .ok (.iload_n 3, 1) := by decide +kernel
theorem d_36_33 : decode c_36 33 = .ok (.invokestatic 95, 3) := by decide +kernel
theorem d_36_36 : decode c_36 36 = .ok (.ireturn, 1) := by decide +kernel
theorem d_37_0 : decode c_37 0 = .ok (.aload_n 0, 1) := by decide +kernel
theorem d_37_1 : decode c_37 1 = .ok (.invokevirtual 492, 3) := by decide +kernel
theorem d_37_4 : decode c_37 4 = .ok (.ifCond .eq 19, 3) := by decide +kernel
theorem d_37_7 : decode c_37 7 = .ok (.aload_n 0, 1) := by decide +kernel
theorem d_37_8 : decode c_37 8 = .ok (.getfield 9, 3) := by decide +kernel
theorem d_37_11 : decode c_37 11 = .ok (.iload_n 1, 1) := by decide +kernel
theorem d_37_12 : decode c_37 12 = .ok (.iload_n 2, 1) := by decide +kernel
theorem d_37_13 : decode c_37 13 = .ok (.aload_n 0, 1) := by decide +kernel
theorem d_37_14 : decode c_37 14 = .ok (.invokevirtual 505, 3) := by decide +kernel
theorem d_37_17 : decode c_37 17 = .ok (.invokestatic 637, 3) := by decide +kernel
theorem d_37_20 : decode c_37 20 = .ok (.goto 16, 3) := by decide +kernel
theorem d_37_23 : decode c_37 23 = .ok (.aload_n 0, 1) := by decide +kernel
theorem d_37_24 : decode c_37 24 = .ok (.getfield 9, 3) := by decide +kernel
theorem d_37_27 : decode c_37 27 = .ok (.iload_n 1, 1) := by decide +kernel
theorem d_37_28 : decode c_37 28 = .ok (.iload_n 2, 1) := by decide +kernel
theorem d_37_29 : decode c_37 29 = .ok (.aload_n 0, 1) := by decide +kernel
theorem d_37_30 : decode c_37 30 = .ok (.invokevirtual 505, 3) := by decide +kernel
theorem d_37_36 : decode c_37 36 = .ok (.ireturn, 1) := by decide +kernel
theorem d_38_0 : decode c_38 0 = .ok (.aload_n 0, 1) := by decide +kernel
theorem d_38_1 : decode c_38 1 = .ok (.iload_n 1, 1) := by decide +kernel
theorem d_38_2 : decode c_38 2 = .ok (.iconst 0, 1) := by decide +kernel
theorem d_38_3 : decode c_38 3 = .ok (.invokevirtual 633, 3) := by decide +kernel
theorem d_38_6 : decode c_38 6 = .ok (.ireturn, 1) := by decide +kernel
theorem d_39_0 : decode c_39 0 = .ok (.aload_n 0, 1) := by decide +kernel
theorem d_39_1 : decode c_39 1 = .ok (.invokevirtual 36, 3) := by decide +kernel
theorem d_39_4 : decode c_39 4 = .ok (.aload_n 0, 1) := by decide +kernel
theorem d_39_5 : decode c_39 5 = .ok (.getfield 9, 3) := by decide +kernel
theorem d_39_8 : decode c_39 8 = .ok (.aload_n 0, 1) := by decide +kernel
theorem d_39_9 : decode c_39 9 = .ok (.getfield 19, 3) := by decide +kernel
theorem d_39_12 : decode c_39 12 = .ok (.invokevirtual 39, 3) := by decide +kernel
theorem d_39_15 : decode c_39 15 = .ok (.istore_n 1, 1) := by decide +kernel
theorem d_39_16 : decode c_39 16 = .ok (.iload_n 1, 1) := by decide +kernel
theorem d_39_17 : decode c_39 17 = .ok (.ifCond .ge 12, 3) := by decide +kernel
theorem d_39_20 : decode c_39 20 = .ok (.aload_n 0, 1) := by decide +kernel
theorem d_39_21 : decode c_39 21 = .ok (.bipush 6, 2) := by decide +kernel
theorem d_39_23 : decode c_39 23 = .ok (.putfield 26, 3) := by decide +kernel
theorem d_39_26 : decode c_39 26 = .ok (.goto 65, 3) := by decide +kernel
theorem d_39_29 : decode c_39 29 = .ok (.iload_n 1, 1) := by decide +kernel
theorem d_39_30 : decode c_39 30 = .ok (.invokestatic 45, 3) := by decide +kernel
theorem d_39_33 : decode c_39 33 = .ok (.ifCond .eq 10, 3) := by decide +kernel
theorem d_39_36 : decode c_39 36 = .ok (.aload_n 0, 1) := by decide +kernel
theorem d_39_37 : decode c_39 37 = .ok (.invokevirtual 51, 3) := by decide +kernel
theorem d_39_40 : decode c_39 40 = .ok (.goto 51, 3) := by decide +kernel
theorem d_39_43 : decode c_39 43 = .ok (.iload_n 1, 1) := by decide +kernel
theorem d_39_44 : decode c_39 44 = .ok (.invokestatic 54, 3) := by decide +kernel
theorem d_39_47 : decode c_39 47 = .ok (.ifCond .eq 10, 3) := by decide +kernel
theorem d_39_50 : decode c_39 50 = .ok (.aload_n 0, 1) := by decide +kernel
theorem d_39_51 : decode c_39 51 = .ok (.invokevirtual 57, 3) := by decide +kernel
theorem d_39_54 : decode c_39 54 = .ok (.goto 37, 3) := by decide +kernel
theorem d_39_57 : decode c_39 57 = .ok (.aload_n 0, 1) := by decide +kernel
theorem d_39_58 : decode c_39 58 = .ok (.iload_n 1, 1) := by decide +kernel
theorem d_39_59 : decode c_39 59 = .ok (.putfield 29, 3) := by decide +kernel
theorem d_39_62 : decode c_39 62 = .ok (.aload_n 0, 1) := by decide +kernel
theorem d_39_63 : decode c_39 63 = .ok (.dup, 1) := by decide +kernel
theorem d_39_64 : decode c_39 64 = .ok (.getfield 19, 3) := by decide +kernel
theorem d_39_67 : decode c_39 67 = .ok (.iconst 1, 1) := by decide +kernel
theorem d_39_68 : decode c_39 68 = .ok (.iadd, 1) := by decide +kernel
theorem d_39_69 : decode c_39 69 = .ok (.putfield 19, 3) := by decide +kernel
theorem d_39_72 : decode c_39 72 = .ok (.aload_n 0, 1) := by decide +kernel
theorem d_39_73 : decode c_39 73 = .ok (.ldc 60, 2) := by decide +kernel
theorem d_39_75 : decode c_39 75 = .ok (.iload_n 1, 1) := by decide +kernel
theorem d_39_76 : decode c_39 76 = .ok (.i2c, 1) := by decide +kernel
theorem d_39_77 : decode c_39 77 = .ok (.invokevirtual 62, 3) := by decide +kernel
theorem d_39_80 : decode c_39 80 = .ok (.ifCond .lt 7, 3) := by decide +kernel
theorem d_39_83 : decode c_39 83 = .ok (.iconst 4, 1) := by decide +kernel
theorem d_39_84 : decode c_39 84 = .ok (.goto 4, 3) := by decide +kernel
theorem d_39_87 : decode c_39 87 = .ok (.iconst 5, 1) := by decide +kernel
theorem d_39_88 : decode c_39 88 = .ok (.putfield 26, 3) := by decide +kernel
theorem d_39_91 : decode c_39 91 = .ok (.return_, 1) := by decide +kernel
theorem d_40_0 : decode c_40 0 = .ok (.aload_n 0, 1) := by decide +kernel
theorem d_40_1 : decode c_40 1 = .ok (.getfield 26, 3) := by decide +kernel
theorem d_40_4 : decode c_40 4 = .ok (.ireturn, 1) := by decide +kernel
theorem d_41_0 : decode c_41 0 = .ok (.aload_n 0, 1) := by decide +kernel
theorem d_41_1 : decode c_41 1 = .ok (.getfield 25, 3) := by decide +kernel
theorem d_41_4 : decode c_41 4 = .ok (.aload_n 0, 1) := by decide +kernel
theorem d_41_5 : decode c_41 5 = .ok (.getfield 21, 3) := by decide +kernel
theorem d_41_8 : decode c_41 8 = .ok (.invokevirtual 70, 3) := by decide +kernel
theorem d_41_11 : decode c_41 11 = .ok (.if_icmp .lt 7, 3) := by decide +kernel
theorem d_41_14 : decode c_41 14 = .ok (.iconst 1, 1) := by decide +kernel
theorem d_41_15 : decode c_41 15 = .ok (.goto 4, 3) := by decide +kernel
theorem d_41_18 : decode c_41 18 = .ok (.iconst 0, 1) := by decide +kernel
theorem d_41_19 : decode c_41 19 = .ok (.ireturn, 1) := by decide +kernel
theorem d_42_0 : decode c_42 0 = .ok (.aload_n 0, 1) := by decide +kernel
theorem d_42_1 : decode c_42 1 = .ok (.getfield 45, 3) := by decide +kernel
theorem d_42_4 : decode c_42 4 = .ok (.ireturn, 1) := by decide +kernel
theorem d_43_0 : decode c_43 0 = .ok (.aload_n 0, 1) := by decide +kernel
theorem d_43_1 : decode c_43 1 = .ok (.getfield 26, 3) := by decide +kernel
theorem d_43_4 : decode c_43 4 = .ok (.iconst 4, 1) := by decide +kernel
theorem d_43_5 : decode c_43 5 = .ok (.if_icmp .ne 15, 3) := by decide +kernel
theorem d_43_8 : decode c_43 8 = .ok (.aload_n 0, 1) := by decide +kernel
theorem d_43_9 : decode c_43 9 = .ok (.getfield 29, 3) := by decide +kernel
theorem d_43_12 : decode c_43 12 = .ok (.iload_n 1, 1) := by decide +kernel
theorem d_43_13 : decode c_43 13 = .ok (.if_icmp .ne 7, 3) := by decide +kernel
theorem d_43_16 : decode c_43 16 = .ok (.iconst 1, 1) := by decide +kernel
theorem d_43_17 : decode c_43 17 = .ok (.goto 4, 3) := by decide +kernel
theorem d_43_20 : decode c_43 20 = .ok (.iconst 0, 1) := by decide +kernel
theorem d_43_21 : decode c_43 21 = .ok (.ireturn, 1) := by decide +kernel
theorem d_44_0 : decode c_44 0 = .ok (.aload_n 0, 1) := by decide +kernel
theorem d_44_1 : decode c_44 1 = .ok (.getfield 45, 3) := by decide +kernel
theorem d_44_4 : decode c_44 4 = .ok (.bipush 120, 2) := by decide +kernel
theorem d_44_6 : decode c_44 6 = .ok (.if_icmp .lt 4, 3) := by decide +kernel
theorem d_44_9 : decode c_44 9 = .ok (.return_, 1) := by decide +kernel
theorem d_44_10 : decode c_44 10 = .ok (.aload_n 0, 1) := by decide +kernel
theorem d_44_11 : decode c_44 11 = .ok (.dup, 1) := by decide +kernel
theorem d_44_12 : decode c_44 12 = .ok (.getfield 45, 3) := by decide +kernel
theorem d_44_15 : decode c_44 15 = .ok (.iconst 1, 1) := by decide +kernel
theorem d_44_16 : decode c_44 16 = .ok (.iadd, 1) := by decide +kernel
theorem d_44_17 : decode c_44 17 = .ok (.putfield 45, 3) := by decide +kernel
theorem d_44_20 : decode c_44 20 = .ok (.aload_n 0, 1) := by decide +kernel
theorem d_44_21 : decode c_44 21 = .ok (.getfield 30, 3) := by decide +kernel
theorem d_44_24 : decode c_44 24 = .ok (.aload_n 0, 1) := by decide +kernel
theorem d_44_25 : decode c_44 25 = .ok (.getfield 45, 3) := by decide +kernel
theorem d_44_28 : decode c_44 28 = .ok (.iload_n 1, 1) := by decide +kernel
theorem d_44_29 : decode c_44 29 = .ok (.iastore, 1) := by decide +kernel
theorem d_44_30 : decode c_44 30 = .ok (.aload_n 0, 1) := by decide +kernel
theorem d_44_31 : decode c_44 31 = .ok (.getfield 33, 3) := by decide +kernel
theorem d_44_34 : decode c_44 34 = .ok (.aload_n 0, 1) := by decide +kernel
theorem d_44_35 : decode c_44 35 = .ok (.getfield 45, 3) := by decide +kernel
theorem d_44_38 : decode c_44 38 = .ok (.iload_n 2, 1) := by decide +kernel
theorem d_44_39 : decode c_44 39 = .ok (.iastore, 1) := by decide +kernel
theorem d_44_40 : decode c_44 40 = .ok (.aload_n 0, 1) := by decide +kernel
theorem d_44_41 : decode c_44 41 = .ok (.getfield 36, 3) := by decide +kernel
theorem d_44_44 : decode c_44 44 = .ok (.aload_n 0, 1) := by decide +kernel
theorem d_44_45 : decode c_44 45 = .ok (.getfield 45, 3) := by decide +kernel
theorem d_44_48 : decode c_44 48 = .ok (.aload_n 0, 1) := by decide +kernel
theorem d_44_49 : decode c_44 49 = .ok (.getfield 19, 3) := by decide +kernel
theorem d_44_52 : decode c_44 52 = .ok (.iastore, 1) := by decide +kernel
theorem d_44_53 : decode c_44 53 = .ok (.aload_n 0, 1) := by decide +kernel
theorem d_44_54 : decode c_44 54 = .ok (.getfield 39, 3) := by decide +kernel
theorem d_44_57 : decode c_44 57 = .ok (.aload_n 0, 1) := by decide +kernel
theorem d_44_58 : decode c_44 58 = .ok (.getfield 45, 3) := by decide +kernel
theorem d_44_61 : decode c_44 61 = .ok (.iconst 0, 1) := by decide +kernel
theorem d_44_62 : decode c_44 62 = .ok (.iastore, 1) := by decide +kernel
theorem d_44_63 : decode c_44 63 = .ok (.aload_n 0, 1) := by decide +kernel
theorem d_44_64 : decode c_44 64 = .ok (.getfield 42, 3) := by decide +kernel
theorem d_44_67 : decode c_44 67 = .ok (.aload_n 0, 1) := by decide +kernel
theorem d_44_68 : decode c_44 68 = .ok (.getfield 45, 3) := by decide +kernel
theorem d_44_71 : decode c_44 71 = .ok (.iconst 0, 1) := by decide +kernel
theorem d_44_72 : decode c_44 72 = .ok (.iastore, 1) := by decide +kernel
theorem d_44_73 : decode c_44 73 = .ok (.return_, 1) := by decide +kernel
theorem d_45_0 : decode c_45 0 = .ok (.aload_n 0, 1) := by decide +kernel
theorem d_45_1 : decode c_45 1 = .ok (.getfield 45, 3) := by decide +kernel
theorem d_45_4 : decode c_45 4 = .ok (.ifCond .eq 13, 3) := by decide +kernel
theorem d_45_7 : decode c_45 7 = .ok (.aload_n 0, 1) := by decide +kernel
theorem d_45_8 : decode c_45 8 = .ok (.getfield 19, 3) := by decide +kernel
theorem d_45_11 : decode c_45 11 = .ok (.sipush 2000, 3) := by decide +kernel
theorem d_45_14 : decode c_45 14 = .ok (.if_icmp .lt 4, 3) := by decide +kernel
theorem d_45_17 : decode c_45 17 = .ok (.return_, 1) := by decide +kernel
theorem d_45_18 : decode c_45 18 = .ok (.aload_n 0, 1) := by decide +kernel
theorem d_45_19 : decode c_45 19 = .ok (.getfield 9, 3) := by decide +kernel
theorem d_45_22 : decode c_45 22 = .ok (.aload_n 0, 1) := by decide +kernel
theorem d_45_23 : decode c_45 23 = .ok (.getfield 19, 3) := by decide +kernel
theorem d_45_26 : decode c_45 26 = .ok (.iload_n 1, 1) := by decide +kernel
theorem d_45_27 : decode c_45 27 = .ok (.i2b, 1) := by decide +kernel
theorem d_45_28 : decode c_45 28 = .ok (.bastore, 1) := by decide +kernel
theorem d_45_29 : decode c_45 29 = .ok (.aload_n 0, 1) := by decide +kernel
theorem d_45_30 : decode c_45 30 = .ok (.getfield 15, 3) := by decide +kernel
theorem d_45_33 : decode c_45 33 = .ok (.aload_n 0, 1) := by decide +kernel
theorem d_45_34 : decode c_45 34 = .ok (.getfield 19, 3) := by decide +kernel
theorem d_45_37 : decode c_45 37 = .ok (.iload_n 2, 1) := by decide +kernel
theorem d_45_38 : decode c_45 38 = .ok (.iastore, 1) := by decide +kernel
theorem d_45_39 : decode c_45 39 = .ok (.aload_n 0, 1) := by decide +kernel
theorem d_45_40 : decode c_45 40 = .ok (.dup, 1) := by decide +kernel
theorem d_45_41 : decode c_45 41 = .ok (.getfield 19, 3) := by decide +kernel
theorem d_45_44 : decode c_45 44 = .ok (.iconst 1, 1) := by decide +kernel
theorem d_45_45 : decode c_45 45 = .ok (.iadd, 1) := by decide +kernel
theorem d_45_46 : decode c_45 46 = .ok (.putfield 19, 3) := by decide +kernel
theorem d_45_49 : decode c_45 49 = .ok (.aload_n 0, 1) := by decide +kernel
theorem d_45_50 : decode c_45 50 = .ok (.getfield 39, 3) := by decide +kernel
theorem d_45_53 : decode c_45 53 = .ok (.aload_n 0, 1) := by decide +kernel
theorem d_45_54 : decode c_45 54 = .ok (.getfield 45, 3) := by decide +kernel
theorem d_45_57 : decode c_45 57 = .ok (.dup2, 1) := by decide +kernel
theorem d_45_58 : decode c_45 58 = .ok (.iaload, 1) := by decide +kernel
theorem d_45_59 : decode c_45 59 = .ok (.iconst 1, 1) := by decide +kernel
theorem d_45_60 : decode c_45 60 = .ok (.iadd, 1) := by decide +kernel
theorem d_45_61 : decode c_45 61 = .ok (.iastore, 1) := by decide +kernel
theorem d_45_62 : decode c_45 62 = .ok (.return_, 1) := by decide +kernel
theorem d_46_0 : decode c_46 0 = .ok (.aload_n 1, 1) := by decide +kernel
theorem d_46_1 : decode c_46 1 = .ok (.aload_n 0, 1) := by decide +kernel
theorem d_46_2 : decode c_46 2 = .ok (.getfield 9, 3) := by decide +kernel
theorem d_46_5 : decode c_46 5 = .ok (.invokevirtual 52, 3) := by decide +kernel
theorem d_46_8 : decode c_46 8 = .ok (.iload_n 2, 1) := by decide +kernel
theorem d_46_9 : decode c_46 9 = .ok (.invokevirtual 152, 3) := by decide +kernel
theorem d_46_12 : decode c_46 12 = .ok (.iconst 1, 1) := by decide +kernel
theorem d_46_13 : decode c_46 13 = .ok (.ireturn, 1) := by decide +kernel
theorem d_47_0 : decode c_47 0 = .ok (.iload_n 1, 1) := by decide +kernel
theorem d_47_1 : decode c_47 1 = .ok (.iconst 1, 1) := by decide +kernel
theorem d_47_2 : decode c_47 2 = .ok (.if_icmp .lt 11, 3) := by decide +kernel
theorem d_47_5 : decode c_47 5 = .ok (.iload_n 1, 1) := by decide +kernel
theorem d_47_6 : decode c_47 6 = .ok (.aload_n 0, 1) := by decide +kernel
theorem d_47_7 : decode c_47 7 = .ok (.getfield 45, 3) := by decide +kernel
theorem d_47_10 : decode c_47 10 = .ok (.if_icmp .le 7, 3) := by decide +kernel
theorem d_47_13 : decode c_47 13 = .ok (.iconst 0, 1) := by decide +kernel
theorem d_47_14 : decode c_47 14 = .ok (.goto 9, 3) := by decide +kernel
theorem d_47_17 : decode c_47 17 = .ok (.aload_n 0, 1) := by decide +kernel
theorem d_47_18 : decode c_47 18 = .ok (.getfield 30, 3) := by decide +kernel
theorem d_47_21 : decode c_47 21 = .ok (.iload_n 1, 1) := by decide +kernel
theorem d_47_22 : decode c_47 22 = .ok (.iaload, 1) := by decide +kernel
theorem d_47_23 : decode c_47 23 = .ok (.ireturn, 1) := by decide +kernel
theorem d_48_0 : decode c_48 0 = .ok (.iload_n 0, 1) := by decide +kernel
theorem d_48_1 : decode c_48 1 = .ok (.lookupswitch 46 #[(4, 35), (16, 38), (8192, 42)], 35) := by decide +kernel
theorem d_48_36 : decode c_48 36 = .ok (.bipush 8, 2) := by decide +kernel
theorem d_48_38 : decode c_48 38 = .ok (.ireturn, 1) := by decide +kernel
theorem d_48_39 : decode c_48 39 = .ok (.sipush 480, 3) := by decide +kernel
theorem d_48_42 : decode c_48 42 = .ok (.ireturn, 1) := by decide +kernel
theorem d_48_43 : decode c_48 43 = .ok (.sipush 16400, 3) := by decide +kernel
theorem d_48_46 : decode c_48 46 = .ok (.ireturn, 1) := by decide +kernel
theorem d_48_47 : decode c_48 47 = .ok (.sipush 8215, 3) := by decide +kernel
theorem d_48_50 : decode c_48 50 = .ok (.ireturn, 1) := by decide +kernel
theorem d_49_0 : decode c_49 0 = .ok (.aload_n 0, 1) := by decide +kernel
theorem d_49_1 : decode c_49 1 = .ok (.getfield 26, 3) := by decide +kernel
theorem d_49_4 : decode c_49 4 = .ok (.iconst 1, 1) := by decide +kernel
theorem d_49_5 : decode c_49 5 = .ok (.if_icmp .ne 16, 3) := by decide +kernel
theorem d_49_8 : decode c_49 8 = .ok (.aload_n 0, 1) := by decide +kernel
theorem d_49_9 : decode c_49 9 = .ok (.getfield 29, 3) := by decide +kernel
theorem d_49_12 : decode c_49 12 = .ok (.iload_n 1, 1) := by decide +kernel
theorem d_49_13 : decode c_49 13 = .ok (.iand, 1) := by decide +kernel
theorem d_49_14 : decode c_49 14 = .ok (.ifCond .eq 7, 3) := by decide +kernel
theorem d_49_17 : decode c_49 17 = .ok (.iconst 1, 1) := by decide +kernel
theorem d_49_18 : decode c_49 18 = .ok (.goto 4, 3) := by decide +kernel
theorem d_49_21 : decode c_49 21 = .ok (.iconst 0, 1) := by decide +kernel
theorem d_49_22 : decode c_49 22 = .ok (.ireturn, 1) := by decide +kernel
theorem d_50_0 : decode c_50 0 = .ok (.aload_n 0, 1) := by decide +kernel
theorem d_50_1 : decode c_50 1 = .ok (.getfield 29, 3) := by decide +kernel
theorem d_50_4 : decode c_50 4 = .ok (.ireturn, 1) := by decide +kernel
theorem d_51_0 : decode c_51 0 = .ok (.iload_n 0, 1) := by decide +kernel
theorem d_51_1 : decode c_51 1 = .ok (.lookupswitch 82 #[(1, 67), (2, 70), (4, 73), (16, 73), (256, 76), (8192, 73), (16384, 79)], 67) := by decide +kernel
theorem d_51_68 : decode c_51 68 = .ok (.ldc 109, 2) := by decide +kernel
theorem d_51_70 : decode c_51 70 = .ok (.areturn, 1) := by decide +kernel
theorem d_51_71 : decode c_51 71 = .ok (.ldc 111, 2) := by decide +kernel
theorem d_51_73 : decode c_51 73 = .ok (.areturn, 1) := by decide +kernel
theorem d_51_74 : decode c_51 74 = .ok (.ldc 113, 2) := by decide +kernel
theorem d_51_76 : decode c_51 76 = .ok (.areturn, 1) := by decide +kernel
theorem d_51_77 : decode c_51 77 = .ok (.ldc 115, 2) := by decide +kernel
theorem d_51_79 : decode c_51 79 = .ok (.areturn, 1) := by decide +kernel
theorem d_51_80 : decode c_51 80 = .ok (.ldc 117, 2) := by decide +kernel
theorem d_51_82 : decode c_51 82 = .ok (.areturn, 1) := by decide +kernel
theorem d_51_83 : decode c_51 83 = .ok (.ldc 119, 2) := by decide +kernel
theorem d_51_85 : decode c_51 85 = .ok (.areturn, 1) := by decide +kernel
theorem d_52_0 : decode c_52 0 = .ok (.aload_n 1, 1) := by decide +kernel
theorem d_52_1 : decode c_52 1 = .ok (.invokevirtual 75, 3) := by decide +kernel
theorem d_52_4 : decode c_52 4 = .ok (.bipush 120, 2) := by decide +kernel
theorem d_52_6 : decode c_52 6 = .ok (.if_icmp .lt 5, 3) := by decide +kernel
theorem d_52_9 : decode c_52 9 = .ok (.iconst 0, 1) := by decide +kernel
theorem d_52_10 : decode c_52 10 = .ok (.ireturn, 1) := by decide +kernel
theorem d_52_11 : decode c_52 11 = .ok (.aload_n 0, 1) := by decide +kernel
theorem d_52_12 : decode c_52 12 = .ok (.getfield 15, 3) := by decide +kernel
theorem d_52_15 : decode c_52 15 = .ok (.ifCond .eq 38, 3) := by decide +kernel
theorem d_52_18 : decode c_52 18 = .ok (.aload_n 0, 1) := by decide +kernel
theorem d_52_19 : decode c_52 19 = .ok (.getfield 9, 3) := by decide +kernel
theorem d_52_22 : decode c_52 22 = .ok (.bipush 125, 2) := by decide +kernel
theorem d_52_24 : decode c_52 24 = .ok (.invokevirtual 78, 3) := by decide +kernel
theorem d_52_27 : decode c_52 27 = .ok (.ifCond .eq 26, 3) := by decide +kernel
theorem d_52_30 : decode c_52 30 = .ok (.aload_n 1, 1) := by decide +kernel
theorem d_52_31 : decode c_52 31 = .ok (.ldc 82, 2) := by decide +kernel
theorem d_52_33 : decode c_52 33 = .ok (.aload_n 0, 1) := by decide +kernel
theorem d_52_34 : decode c_52 34 = .ok (.getfield 15, 3) := by decide +kernel
theorem d_52_37 : decode c_52 37 = .ok (.invokevirtual 83, 3) := by decide +kernel
theorem d_52_40 : decode c_52 40 = .ok (.aload_n 0, 1) := by decide +kernel
theorem d_52_41 : decode c_52 41 = .ok (.iconst 0, 1) := by decide +kernel
theorem d_52_42 : decode c_52 42 = .ok (.putfield 15, 3) := by decide +kernel
theorem d_52_45 : decode c_52 45 = .ok (.aload_n 0, 1) := by decide +kernel
theorem d_52_46 : decode c_52 46 = .ok (.aload_n 1, 1) := by decide +kernel
theorem d_52_47 : decode c_52 47 = .ok (.bipush 125, 2) := by decide +kernel
theorem d_52_49 : decode c_52 49 = .ok (.invokevirtual 87, 3) := by decide +kernel
theorem d_52_52 : decode c_52 52 = .ok (.ireturn, 1) := by decide +kernel
theorem d_52_53 : decode c_52 53 = .ok (.aload_n 0, 1) := by decide +kernel
theorem d_52_54 : decode c_52 54 = .ok (.getfield 9, 3) := by decide +kernel
theorem d_52_57 : decode c_52 57 = .ok (.aload_n 1, 1) := by decide +kernel
theorem d_52_58 : decode c_52 58 = .ok (.aload_n 0, 1) := by decide +kernel
theorem d_52_59 : decode c_52 59 = .ok (.getfield 15, 3) := by decide +kernel
theorem d_52_62 : decode c_52 62 = .ok (.invokevirtual 91, 3) := by decide +kernel
theorem d_52_65 : decode c_52 65 = .ok (.invokestatic 95, 3) := by decide +kernel
theorem d_52_68 : decode c_52 68 = .ok (.invokevirtual 98, 3) := by decide +kernel
theorem d_52_71 : decode c_52 71 = .ok (.ifCond .ne 5, 3) := by decide +kernel
theorem d_52_74 : decode c_52 74 = .ok (.iconst 0, 1) := by decide +kernel
theorem d_52_75 : decode c_52 75 = .ok (.ireturn, 1) := by decide +kernel
theorem d_52_76 : decode c_52 76 = .ok (.aload_n 0, 1) := by decide +kernel
theorem d_52_77 : decode c_52 77 = .ok (.getfield 9, 3) := by decide +kernel
theorem d_52_80 : decode c_52 80 = .ok (.invokevirtual 101, 3) := by decide +kernel
theorem d_52_83 : decode c_52 83 = .ok (.istore_n 2, 1) := by decide +kernel
theorem d_52_84 : decode c_52 84 = .ok (.iload_n 2, 1) := by decide +kernel
theorem d_52_85 : decode c_52 85 = .ok (.bipush 16, 2) := by decide +kernel
theorem d_52_87 : decode c_52 87 = .ok (.if_icmp .ne 15, 3) := by decide +kernel
theorem d_52_90 : decode c_52 90 = .ok (.aload_n 0, 1) := by decide +kernel
theorem d_52_91 : decode c_52 91 = .ok (.getfield 15, 3) := by decide +kernel
theorem d_52_94 : decode c_52 94 = .ok (.ifCond .eq 8, 3) := by decide +kernel
theorem d_52_97 : decode c_52 97 = .ok (.ldc 104, 2) := by decide +kernel
theorem d_52_99 : decode c_52 99 = .ok (.goto 4, 3) := by decide +kernel
theorem d_52_102 : decode c_52 102 = .ok (.iload_n 2, 1) := by decide +kernel
theorem d_52_103 : decode c_52 103 = .ok (.istore_n 3, 1) := by decide +kernel
theorem d_52_104 : decode c_52 104 = .ok (.aload_n 1, 1) := by decide +kernel
theorem d_52_105 : decode c_52 105 = .ok (.iload_n 3, 1) := by decide +kernel
theorem d_52_106 : decode c_52 106 = .ok (.aload_n 0, 1) := by decide +kernel
theorem d_52_107 : decode c_52 107 = .ok (.getfield 15, 3) := by decide +kernel
theorem d_52_110 : decode c_52 110 = .ok (.invokevirtual 83, 3) := by decide +kernel
theorem d_52_113 : decode c_52 113 = .ok (.iload_n 3, 1) := by decide +kernel
theorem d_52_114 : decode c_52 114 = .ok (.sipush 8212, 3) := by decide +kernel
theorem d_52_117 : decode c_52 117 = .ok (.iand, 1) := by decide +kernel
theorem d_52_118 : decode c_52 118 = .ok (.ifCond .eq 11, 3) := by decide +kernel
theorem d_52_121 : decode c_52 121 = .ok (.aload_n 0, 1) := by decide +kernel
theorem d_52_122 : decode c_52 122 = .ok (.aload_n 1, 1) := by decide +kernel
theorem d_52_123 : decode c_52 123 = .ok (.invokevirtual 75, 3) := by decide +kernel
theorem d_52_126 : decode c_52 126 = .ok (.putfield 15, 3) := by decide +kernel
theorem d_52_129 : decode c_52 129 = .ok (.aload_n 0, 1) := by decide +kernel
theorem d_52_130 : decode c_52 130 = .ok (.iconst 0, 1) := by decide +kernel
theorem d_52_131 : decode c_52 131 = .ok (.putfield 28, 3) := by decide +kernel
theorem d_52_134 : decode c_52 134 = .ok (.aload_n 0, 1) := by decide +kernel
theorem d_52_135 : decode c_52 135 = .ok (.iload_n 3, 1) := by decide +kernel
theorem d_52_136 : decode c_52 136 = .ok (.invokestatic 105, 3) := by decide +kernel
theorem d_52_139 : decode c_52 139 = .ok (.invokevirtual 45, 3) := by decide +kernel
