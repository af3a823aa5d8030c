theorem d_82_17 : decode c_82 17 = .ok (.iconst 1, 1) := by decide +kernel
theorem d_82_18 : decode c_82 18 = .ok (.ireturn, 1) := by decide +kernel
theorem d_83_0 : decode c_83 0 = .ok (.aload_n 0, 1) := by decide +kernel
theorem d_83_1 : decode c_83 1 = .ok (.getfield 236, 3) := by decide +kernel
theorem d_83_4 : decode c_83 4 = .ok (.ifCond .ne 4, 3) := by decide +kernel
theorem d_83_7 : decode c_83 7 = .ok (.return_, 1) := by decide +kernel
theorem d_83_8 : decode c_83 8 = .ok (.aload_n 0, 1) := by decide +kernel
theorem d_83_9 : decode c_83 9 = .ok (.getfield 221, 3) := by decide +kernel
theorem d_83_12 : decode c_83 12 = .ok (.bipush 120, 2) := by decide +kernel
theorem d_83_14 : decode c_83 14 = .ok (.if_icmp .ne 9, 3) := by decide +kernel
theorem d_83_17 : decode c_83 17 = .ok (.aload_n 0, 1) := by decide +kernel
theorem d_83_18 : decode c_83 18 = .ok (.iconst 0, 1) := by decide +kernel
theorem d_83_19 : decode c_83 19 = .ok (.putfield 236, 3) := by decide +kernel
theorem d_83_22 : decode c_83 22 = .ok (.return_, 1) := by decide +kernel
theorem d_83_23 : decode c_83 23 = .ok (.aload_n 0, 1) := by decide +kernel
theorem d_83_24 : decode c_83 24 = .ok (.getfield 67, 3) := by decide +kernel
theorem d_83_27 : decode c_83 27 = .ok (.aload_n 0, 1) := by decide +kernel
theorem d_83_28 : decode c_83 28 = .ok (.getfield 221, 3) := by decide +kernel
theorem d_83_31 : decode c_83 31 = .ok (.aload_n 0, 1) := by decide +kernel
theorem d_83_32 : decode c_83 32 = .ok (.getfield 214, 3) := by decide +kernel
theorem d_83_35 : decode c_83 35 = .ok (.iastore, 1) := by decide +kernel
theorem d_83_36 : decode c_83 36 = .ok (.aload_n 0, 1) := by decide +kernel
theorem d_83_37 : decode c_83 37 = .ok (.getfield 19, 3) := by decide +kernel
theorem d_83_40 : decode c_83 40 = .ok (.aload_n 0, 1) := by decide +kernel
theorem d_83_41 : decode c_83 41 = .ok (.getfield 221, 3) := by decide +kernel
theorem d_83_44 : decode c_83 44 = .ok (.iload_n 1, 1) := by decide +kernel
theorem d_83_45 : decode c_83 45 = .ok (.iastore, 1) := by decide +kernel
theorem d_83_46 : decode c_83 46 = .ok (.aload_n 0, 1) := by decide +kernel
theorem d_83_47 : decode c_83 47 = .ok (.getfield 22, 3) := by decide +kernel
theorem d_83_50 : decode c_83 50 = .ok (.aload_n 0, 1) := by decide +kernel
theorem d_83_51 : decode c_83 51 = .ok (.getfield 221, 3) := by decide +kernel
theorem d_83_54 : decode c_83 54 = .ok (.aload_n 0, 1) := by decide +kernel
theorem d_83_55 : decode c_83 55 = .ok (.getfield 255, 3) := by decide +kernel
theorem d_83_58 : decode c_83 58 = .ok (.iastore, 1) := by decide +kernel
theorem d_83_59 : decode c_83 59 = .ok (.aload_n 0, 1) := by decide +kernel
theorem d_83_60 : decode c_83 60 = .ok (.getfield 25, 3) := by decide +kernel
theorem d_83_63 : decode c_83 63 = .ok (.aload_n 0, 1) := by decide +kernel
theorem d_83_64 : decode c_83 64 = .ok (.getfield 221, 3) := by decide +kernel
theorem d_83_67 : decode c_83 67 = .ok (.iconst 0, 1) := by decide +kernel
theorem d_83_68 : decode c_83 68 = .ok (.iastore, 1) := by decide +kernel
theorem d_83_69 : decode c_83 69 = .ok (.aload_n 0, 1) := by decide +kernel
theorem d_83_70 : decode c_83 70 = .ok (.getfield 28, 3) := by decide +kernel
theorem d_83_73 : decode c_83 73 = .ok (.aload_n 0, 1) := by decide +kernel
theorem d_83_74 : decode c_83 74 = .ok (.getfield 221, 3) := by decide +kernel
theorem d_83_77 : decode c_83 77 = .ok (.iconst 0, 1) := by decide +kernel
theorem d_83_78 : decode c_83 78 = .ok (.iastore, 1) := by decide +kernel
theorem d_83_79 : decode c_83 79 = .ok (.aload_n 0, 1) := by decide +kernel
theorem d_83_80 : decode c_83 80 = .ok (.getfield 46, 3) := by decide +kernel
theorem d_83_83 : decode c_83 83 = .ok (.aload_n 0, 1) := by decide +kernel
theorem d_83_84 : decode c_83 84 = .ok (.getfield 221, 3) := by decide +kernel
theorem d_83_87 : decode c_83 87 = .ok (.iconst 0, 1) := by decide +kernel
theorem d_83_88 : decode c_83 88 = .ok (.iastore, 1) := by decide +kernel
theorem d_83_89 : decode c_83 89 = .ok (.aload_n 0, 1) := by decide +kernel
theorem d_83_90 : decode c_83 90 = .ok (.getfield 49, 3) := by decide +kernel
theorem d_83_93 : decode c_83 93 = .ok (.aload_n 0, 1) := by decide +kernel
theorem d_83_94 : decode c_83 94 = .ok (.getfield 221, 3) := by decide +kernel
theorem d_83_97 : decode c_83 97 = .ok (.aload_n 0, 1) := by decide +kernel
theorem d_83_98 : decode c_83 98 = .ok (.getfield 258, 3) := by decide +kernel
theorem d_83_101 : decode c_83 101 = .ok (.iastore, 1) := by decide +kernel
theorem d_83_102 : decode c_83 102 = .ok (.aload_n 0, 1) := by decide +kernel
theorem d_83_103 : decode c_83 103 = .ok (.getfield 52, 3) := by decide +kernel
theorem d_83_106 : decode c_83 106 = .ok (.aload_n 0, 1) := by decide +kernel
theorem d_83_107 : decode c_83 107 = .ok (.getfield 221, 3) := by decide +kernel
theorem d_83_110 : decode c_83 110 = .ok (.iconst 0, 1) := by decide +kernel
theorem d_83_111 : decode c_83 111 = .ok (.iastore, 1) := by decide +kernel
theorem d_83_112 : decode c_83 112 = .ok (.aload_n 0, 1) := by decide +kernel
theorem d_83_113 : decode c_83 113 = .ok (.dup, 1) := by decide +kernel
theorem d_83_114 : decode c_83 114 = .ok (.getfield 221, 3) := by decide +kernel
theorem d_83_117 : decode c_83 117 = .ok (.iconst 1, 1) := by decide +kernel
theorem d_83_118 : decode c_83 118 = .ok (.iadd, 1) := by decide +kernel
theorem d_83_119 : decode c_83 119 = .ok (.putfield 221, 3) := by decide +kernel
theorem d_83_122 : decode c_83 122 = .ok (.aload_n 0, 1) := by decide +kernel
theorem d_83_123 : decode c_83 123 = .ok (.invokevirtual 240, 3) := by decide +kernel
theorem d_83_126 : decode c_83 126 = .ok (.pop, 1) := by decide +kernel
theorem d_83_127 : decode c_83 127 = .ok (.return_, 1) := by decide +kernel
theorem d_84_0 : decode c_84 0 = .ok (.aload_n 0, 1) := by decide +kernel
theorem d_84_1 : decode c_84 1 = .ok (.getfield 236, 3) := by decide +kernel
theorem d_84_4 : decode c_84 4 = .ok (.ifCond .ne 5, 3) := by decide +kernel
theorem d_84_7 : decode c_84 7 = .ok (.iconst 0, 1) := by decide +kernel
theorem d_84_8 : decode c_84 8 = .ok (.ireturn, 1) := by decide +kernel
theorem d_84_9 : decode c_84 9 = .ok (.iload_n 1, 1) := by decide +kernel
theorem d_84_10 : decode c_84 10 = .ok (.ifCond .ne 10, 3) := by decide +kernel
theorem d_84_13 : decode c_84 13 = .ok (.aload_n 0, 1) := by decide +kernel
theorem d_84_14 : decode c_84 14 = .ok (.iconst 0, 1) := by decide +kernel
theorem d_84_15 : decode c_84 15 = .ok (.putfield 236, 3) := by decide +kernel
theorem d_84_18 : decode c_84 18 = .ok (.iconst 0, 1) := by decide +kernel
theorem d_84_19 : decode c_84 19 = .ok (.ireturn, 1) := by decide +kernel
theorem d_84_20 : decode c_84 20 = .ok (.aload_n 0, 1) := by decide +kernel
theorem d_84_21 : decode c_84 21 = .ok (.invokevirtual 240, 3) := by decide +kernel
theorem d_84_24 : decode c_84 24 = .ok (.ireturn, 1) := by decide +kernel
theorem d_85_0 : decode c_85 0 = .ok (.aload_n 0, 1) := by decide +kernel
theorem d_85_1 : decode c_85 1 = .ok (.getfield 208, 3) := by decide +kernel
theorem d_85_4 : decode c_85 4 = .ok (.istore_n 1, 1) := by decide +kernel
theorem d_85_5 : decode c_85 5 = .ok (.aload_n 0, 1) := by decide +kernel
theorem d_85_6 : decode c_85 6 = .ok (.aload_n 0, 1) := by decide +kernel
theorem d_85_7 : decode c_85 7 = .ok (.getfield 194, 3) := by decide +kernel
theorem d_85_10 : decode c_85 10 = .ok (.iconst 2, 1) := by decide +kernel
theorem d_85_11 : decode c_85 11 = .ok (.if_icmp .ne 7, 3) := by decide +kernel
theorem d_85_14 : decode c_85 14 = .ok (.iconst 1, 1) := by decide +kernel
theorem d_85_15 : decode c_85 15 = .ok (.goto 4, 3) := by decide +kernel
theorem d_85_18 : decode c_85 18 = .ok (.iconst 0, 1) := by decide +kernel
theorem d_85_19 : decode c_85 19 = .ok (.invokevirtual 244, 3) := by decide +kernel
theorem d_85_22 : decode c_85 22 = .ok (.ifCond .eq 7, 3) := by decide +kernel
theorem d_85_25 : decode c_85 25 = .ok (.iload_n 1, 1) := by decide +kernel
theorem d_85_26 : decode c_85 26 = .ok (.goto 4, 3) := by decide +kernel
theorem d_85_29 : decode c_85 29 = .ok (.iconst 0, 1) := by decide +kernel
theorem d_85_30 : decode c_85 30 = .ok (.ireturn, 1) := by decide +kernel
theorem d_86_0 : decode c_86 0 = .ok (.aload_n 0, 1) := by decide +kernel
theorem d_86_1 : decode c_86 1 = .ok (.aload_n 0, 1) := by decide +kernel
theorem d_86_2 : decode c_86 2 = .ok (.getfield 194, 3) := by decide +kernel
theorem d_86_5 : decode c_86 5 = .ok (.iconst 4, 1) := by decide +kernel
theorem d_86_6 : decode c_86 6 = .ok (.if_icmp .ne 15, 3) := by decide +kernel
theorem d_86_9 : decode c_86 9 = .ok (.aload_n 0, 1) := by decide +kernel
theorem d_86_10 : decode c_86 10 = .ok (.getfield 208, 3) := by decide +kernel
theorem d_86_13 : decode c_86 13 = .ok (.iload_n 1, 1) := by decide +kernel
theorem d_86_14 : decode c_86 14 = .ok (.if_icmp .ne 7, 3) := by decide +kernel
theorem d_86_17 : decode c_86 17 = .ok (.iconst 1, 1) := by decide +kernel
theorem d_86_18 : decode c_86 18 = .ok (.goto 4, 3) := by decide +kernel
theorem d_86_21 : decode c_86 21 = .ok (.iconst 0, 1) := by decide +kernel
theorem d_86_22 : decode c_86 22 = .ok (.invokevirtual 244, 3) := by decide +kernel
theorem d_86_25 : decode c_86 25 = .ok (.ireturn, 1) := by decide +kernel
theorem d_87_0 : decode c_87 0 = .ok (.aload_n 0, 1) := by decide +kernel
theorem d_87_1 : decode c_87 1 = .ok (.getfield 208, 3) := by decide +kernel
theorem d_87_4 : decode c_87 4 = .ok (.istore_n 3, 1) := by decide +kernel
theorem d_87_5 : decode c_87 5 = .ok (.aload_n 0, 1) := by decide +kernel
theorem d_87_6 : decode c_87 6 = .ok (.aload_n 0, 1) := by decide +kernel
theorem d_87_7 : decode c_87 7 = .ok (.getfield 194, 3) := by decide +kernel
theorem d_87_10 : decode c_87 10 = .ok (.iconst 3, 1) := by decide +kernel
theorem d_87_11 : decode c_87 11 = .ok (.if_icmp .ne 17, 3) := by decide +kernel
theorem d_87_14 : decode c_87 14 = .ok (.iload_n 3, 1) := by decide +kernel
theorem d_87_15 : decode c_87 15 = .ok (.iload_n 1, 1) := by decide +kernel
theorem d_87_16 : decode c_87 16 = .ok (.if_icmp .lt 12, 3) := by decide +kernel
theorem d_87_19 : decode c_87 19 = .ok (.iload_n 3, 1) := by decide +kernel
theorem d_87_20 : decode c_87 20 = .ok (.iload_n 2, 1) := by decide +kernel
theorem d_87_21 : decode c_87 21 = .ok (.if_icmp .gt 7, 3) := by decide +kernel
theorem d_87_24 : decode c_87 24 = .ok (.iconst 1, 1) := by decide +kernel
theorem d_87_25 : decode c_87 25 = .ok (.goto 4, 3) := by decide +kernel
theorem d_87_28 : decode c_87 28 = .ok (.iconst 0, 1) := by decide +kernel
theorem d_87_29 : decode c_87 29 = .ok (.invokevirtual 244, 3) := by decide +kernel
theorem d_87_32 : decode c_87 32 = .ok (.ifCond .eq 7, 3) := by decide +kernel
theorem d_87_35 : decode c_87 35 = .ok (.iload_n 3, 1) := by decide +kernel
theorem d_87_36 : decode c_87 36 = .ok (.goto 4, 3) := by decide +kernel
theorem d_87_39 : decode c_87 39 = .ok (.iconst 0, 1) := by decide +kernel
theorem d_87_40 : decode c_87 40 = .ok (.ireturn, 1) := by decide +kernel
theorem d_88_0 : decode c_88 0 = .ok (.aload_n 0, 1) := by decide +kernel
theorem d_88_1 : decode c_88 1 = .ok (.getfield 25, 3) := by decide +kernel
theorem d_88_4 : decode c_88 4 = .ok (.iload_n 1, 1) := by decide +kernel
theorem d_88_5 : decode c_88 5 = .ok (.iload_n 2, 1) := by decide +kernel
theorem d_88_6 : decode c_88 6 = .ok (.iastore, 1) := by decide +kernel
theorem d_88_7 : decode c_88 7 = .ok (.aload_n 0, 1) := by decide +kernel
theorem d_88_8 : decode c_88 8 = .ok (.getfield 28, 3) := by decide +kernel
theorem d_88_11 : decode c_88 11 = .ok (.iload_n 1, 1) := by decide +kernel
theorem d_88_12 : decode c_88 12 = .ok (.iload_n 3, 1) := by decide +kernel
theorem d_88_13 : decode c_88 13 = .ok (.iastore, 1) := by decide +kernel
theorem d_88_14 : decode c_88 14 = .ok (.aload_n 0, 1) := by decide +kernel
theorem d_88_15 : decode c_88 15 = .ok (.getfield 40, 3) := by decide +kernel
theorem d_88_18 : decode c_88 18 = .ok (.iload_n 1, 1) := by decide +kernel
theorem d_88_19 : decode c_88 19 = .ok (.iload 4, 2) := by decide +kernel
theorem d_88_21 : decode c_88 21 = .ok (.iastore, 1) := by decide +kernel
theorem d_88_22 : decode c_88 22 = .ok (.aload_n 0, 1) := by decide +kernel
theorem d_88_23 : decode c_88 23 = .ok (.getfield 43, 3) := by decide +kernel
theorem d_88_26 : decode c_88 26 = .ok (.iload_n 1, 1) := by decide +kernel
theorem d_88_27 : decode c_88 27 = .ok (.iload 5, 2) := by decide +kernel
theorem d_88_29 : decode c_88 29 = .ok (.iastore, 1) := by decide +kernel
theorem d_88_30 : decode c_88 30 = .ok (.return_, 1) := by decide +kernel
theorem d_89_0 : decode c_89 0 = .ok (.aload_n 0, 1) := by decide +kernel
theorem d_89_1 : decode c_89 1 = .ok (.getfield 236, 3) := by decide +kernel
theorem d_89_4 : decode c_89 4 = .ok (.ifCond .eq 24, 3) := by decide +kernel
theorem d_89_7 : decode c_89 7 = .ok (.aload_n 0, 1) := by decide +kernel
theorem d_89_8 : decode c_89 8 = .ok (.getfield 194, 3) := by decide +kernel
theorem d_89_11 : decode c_89 11 = .ok (.iconst 4, 1) := by decide +kernel
theorem d_89_12 : decode c_89 12 = .ok (.if_icmp .ne 16, 3) := by decide +kernel
theorem d_89_15 : decode c_89 15 = .ok (.aload_n 0, 1) := by decide +kernel
theorem d_89_16 : decode c_89 16 = .ok (.getfield 208, 3) := by decide +kernel
theorem d_89_19 : decode c_89 19 = .ok (.bipush 45, 2) := by decide +kernel
theorem d_89_21 : decode c_89 21 = .ok (.if_icmp .ne 7, 3) := by decide +kernel
theorem d_89_24 : decode c_89 24 = .ok (.iconst 1, 1) := by decide +kernel
theorem d_89_25 : decode c_89 25 = .ok (.goto 4, 3) := by decide +kernel
theorem d_89_28 : decode c_89 28 = .ok (.iconst 0, 1) := by decide +kernel
theorem d_89_29 : decode c_89 29 = .ok (.istore_n 1, 1) := by decide +kernel
theorem d_89_30 : decode c_89 30 = .ok (.aload_n 0, 1) := by decide +kernel
theorem d_89_31 : decode c_89 31 = .ok (.getfield 214, 3) := by decide +kernel
theorem d_89_34 : decode c_89 34 = .ok (.istore_n 2, 1) := by decide +kernel
theorem d_89_35 : decode c_89 35 = .ok (.iload_n 1, 1) := by decide +kernel
theorem d_89_36 : decode c_89 36 = .ok (.ifCond .eq 10, 3) := by decide +kernel
theorem d_89_39 : decode c_89 39 = .ok (.aload_n 0, 1) := by decide +kernel
theorem d_89_40 : decode c_89 40 = .ok (.bipush 45, 2) := by decide +kernel
theorem d_89_42 : decode c_89 42 = .ok (.invokevirtual 248, 3) := by decide +kernel
theorem d_89_45 : decode c_89 45 = .ok (.pop, 1) := by decide +kernel
theorem d_89_46 : decode c_89 46 = .ok (.aload_n 0, 1) := by decide +kernel
theorem d_89_47 : decode c_89 47 = .ok (.getfield 194, 3) := by decide +kernel
theorem d_89_50 : decode c_89 50 = .ok (.iconst 3, 1) := by decide +kernel
theorem d_89_51 : decode c_89 51 = .ok (.if_icmp .ne 14, 3) := by decide +kernel
theorem d_89_54 : decode c_89 54 = .ok (.aload_n 0, 1) := by decide +kernel
theorem d_89_55 : decode c_89 55 = .ok (.getfield 208, 3) := by decide +kernel
theorem d_89_58 : decode c_89 58 = .ok (.ifCond .ne 7, 3) := by decide +kernel
theorem d_89_61 : decode c_89 61 = .ok (.iconst 1, 1) := by decide +kernel
theorem d_89_62 : decode c_89 62 = .ok (.goto 4, 3) := by decide +kernel
theorem d_89_65 : decode c_89 65 = .ok (.iconst 0, 1) := by decide +kernel
theorem d_89_66 : decode c_89 66 = .ok (.istore_n 3, 1) := by decide +kernel
theorem d_89_67 : decode c_89 67 = .ok (.iload_n 1, 1) := by decide +kernel
theorem d_89_68 : decode c_89 68 = .ok (.ifCond .eq 12, 3) := by decide +kernel
theorem d_89_71 : decode c_89 71 = .ok (.iload_n 3, 1) := by decide +kernel
theorem d_89_72 : decode c_89 72 = .ok (.ifCond .eq 8, 3) := by decide +kernel
theorem d_89_75 : decode c_89 75 = .ok (.aload_n 0, 1) := by decide +kernel
theorem d_89_76 : decode c_89 76 = .ok (.iload_n 2, 1) := by decide +kernel
theorem d_89_77 : decode c_89 77 = .ok (.putfield 214, 3) := by decide +kernel
theorem d_89_80 : decode c_89 80 = .ok (.aload_n 0, 1) := by decide +kernel
theorem d_89_81 : decode c_89 81 = .ok (.iconst 0, 1) := by decide +kernel
theorem d_89_82 : decode c_89 82 = .ok (.ldc 251, 2) := by decide +kernel
theorem d_89_84 : decode c_89 84 = .ok (.invokevirtual 252, 3) := by decide +kernel
theorem d_89_87 : decode c_89 87 = .ok (.istore 4, 2) := by decide +kernel
theorem d_89_89 : decode c_89 89 = .ok (.iload_n 1, 1) := by decide +kernel
theorem d_89_90 : decode c_89 90 = .ok (.ifCond .eq 9, 3) := by decide +kernel
theorem d_89_93 : decode c_89 93 = .ok (.iload 4, 2) := by decide +kernel
theorem d_89_95 : decode c_89 95 = .ok (.ineg, 1) := by decide +kernel
theorem d_89_96 : decode c_89 96 = .ok (.goto 5, 3) := by decide +kernel
theorem d_89_99 : decode c_89 99 = .ok (.iload 4, 2) := by decide +kernel
theorem d_89_101 : decode c_89 101 = .ok (.ireturn, 1) := by decide +kernel
theorem d_90_0 : decode c_90 0 = .ok (.aload_n 0, 1) := by decide +kernel
theorem d_90_1 : decode c_90 1 = .ok (.aload_n 0, 1) := by decide +kernel
theorem d_90_2 : decode c_90 2 = .ok (.getfield 194, 3) := by decide +kernel
theorem d_90_5 : decode c_90 5 = .ok (.iconst 1, 1) := by decide +kernel
theorem d_90_6 : decode c_90 6 = .ok (.if_icmp .ne 15, 3) := by decide +kernel
theorem d_90_9 : decode c_90 9 = .ok (.aload_n 0, 1) := by decide +kernel
theorem d_90_10 : decode c_90 10 = .ok (.getfield 208, 3) := by decide +kernel
theorem d_90_13 : decode c_90 13 = .ok (.iload_n 1, 1) := by decide +kernel
theorem d_90_14 : decode c_90 14 = .ok (.if_icmp .ne 7, 3) := by decide +kernel
theorem d_90_17 : decode c_90 17 = .ok (.iconst 1, 1) := by decide +kernel
theorem d_90_18 : decode c_90 18 = .ok (.goto 4, 3) := by decide +kernel
theorem d_90_21 : decode c_90 21 = .ok (.iconst 0, 1) := by decide +kernel
theorem d_90_22 : decode c_90 22 = .ok (.invokevirtual 244, 3) := by decide +kernel
theorem d_90_25 : decode c_90 25 = .ok (.ireturn, 1) := by decide +kernel
theorem d_91_0 : decode c_91 0 = .ok (.aload_n 0, 1) := by decide +kernel
theorem d_91_1 : decode c_91 1 = .ok (.getfield 221, 3) := by decide +kernel
theorem d_91_4 : decode c_91 4 = .ok (.iconst 1, 1) := by decide +kernel
theorem d_91_5 : decode c_91 5 = .ok (.isub, 1) := by decide +kernel
theorem d_91_6 : decode c_91 6 = .ok (.istore_n 1, 1) := by decide +kernel
theorem d_91_7 : decode c_91 7 = .ok (.aload_n 0, 1) := by decide +kernel
theorem d_91_8 : decode c_91 8 = .ok (.getfield 25, 3) := by decide +kernel
theorem d_91_11 : decode c_91 11 = .ok (.iload_n 1, 1) := by decide +kernel
theorem d_91_12 : decode c_91 12 = .ok (.aload_n 0, 1) := by decide +kernel
theorem d_91_13 : decode c_91 13 = .ok (.invokevirtual 261, 3) := by decide +kernel
theorem d_91_16 : decode c_91 16 = .ok (.iastore, 1) := by decide +kernel
theorem d_91_17 : decode c_91 17 = .ok (.aload_n 0, 1) := by decide +kernel
theorem d_91_18 : decode c_91 18 = .ok (.bipush 58, 2) := by decide +kernel
theorem d_91_20 : decode c_91 20 = .ok (.invokevirtual 248, 3) := by decide +kernel
theorem d_91_23 : decode c_91 23 = .ok (.pop, 1) := by decide +kernel
theorem d_91_24 : decode c_91 24 = .ok (.aload_n 0, 1) := by decide +kernel
theorem d_91_25 : decode c_91 25 = .ok (.getfield 28, 3) := by decide +kernel
theorem d_91_28 : decode c_91 28 = .ok (.iload_n 1, 1) := by decide +kernel
theorem d_91_29 : decode c_91 29 = .ok (.aload_n 0, 1) := by decide +kernel
theorem d_91_30 : decode c_91 30 = .ok (.invokevirtual 261, 3) := by decide +kernel
theorem d_91_33 : decode c_91 33 = .ok (.iastore, 1) := by decide +kernel
theorem d_91_34 : decode c_91 34 = .ok (.aload_n 0, 1) := by decide +kernel
theorem d_91_35 : decode c_91 35 = .ok (.bipush 59, 2) := by decide +kernel
theorem d_91_37 : decode c_91 37 = .ok (.invokevirtual 248, 3) := by decide +kernel
theorem d_91_40 : decode c_91 40 = .ok (.pop, 1) := by decide +kernel
theorem d_91_41 : decode c_91 41 = .ok (.return_, 1) := by decide +kernel
theorem d_92_0 : decode c_92 0 = .ok (.aload_n 0, 1) := by decide +kernel
theorem d_92_1 : decode c_92 1 = .ok (.invokevirtual 240, 3) := by decide +kernel
theorem d_92_4 : decode c_92 4 = .ok (.pop, 1) := by decide +kernel
theorem d_92_5 : decode c_92 5 = .ok (.aload_n 0, 1) := by decide +kernel
theorem d_92_6 : decode c_92 6 = .ok (.invokevirtual 261, 3) := by decide +kernel
theorem d_92_9 : decode c_92 9 = .ok (.istore_n 2, 1) := by decide +kernel
theorem d_92_10 : decode c_92 10 = .ok (.aload_n 0, 1) := by decide +kernel
theorem d_92_11 : decode c_92 11 = .ok (.bipush 46, 2) := by decide +kernel
theorem d_92_13 : decode c_92 13 = .ok (.invokevirtual 248, 3) := by decide +kernel
theorem d_92_16 : decode c_92 16 = .ok (.pop, 1) := by decide +kernel
theorem d_92_17 : decode c_92 17 = .ok (.aload_n 0, 1) := by decide +kernel
theorem d_92_18 : decode c_92 18 = .ok (.invokevirtual 261, 3) := by decide +kernel
theorem d_92_21 : decode c_92 21 = .ok (.istore_n 3, 1) := by decide +kernel
theorem d_92_22 : decode c_92 22 = .ok (.aload_n 0, 1) := by decide +kernel
theorem d_92_23 : decode c_92 23 = .ok (.getfield 236, 3) := by decide +kernel
theorem d_92_26 : decode c_92 26 = .ok (.ifCond .ne 4, 3) := by decide +kernel
theorem d_92_29 : decode c_92 29 = .ok (.return_, 1) := by decide +kernel
theorem d_92_30 : decode c_92 30 = .ok (.aload_n 0, 1) := by decide +kernel
theorem d_92_31 : decode c_92 31 = .ok (.getfield 55, 3) := by decide +kernel
theorem d_92_34 : decode c_92 34 = .ok (.aload_n 0, 1) := by decide +kernel
theorem d_92_35 : decode c_92 35 = .ok (.getfield 258, 3) := by decide +kernel
theorem d_92_38 : decode c_92 38 = .ok (.iload_n 1, 1) := by decide +kernel
theorem d_92_39 : decode c_92 39 = .ok (.iastore, 1) := by decide +kernel
theorem d_92_40 : decode c_92 40 = .ok (.aload_n 0, 1) := by decide +kernel
theorem d_92_41 : decode c_92 41 = .ok (.getfield 58, 3) := by decide +kernel
theorem d_92_44 : decode c_92 44 = .ok (.aload_n 0, 1) := by decide +kernel
theorem d_92_45 : decode c_92 45 = .ok (.getfield 258, 3) := by decide +kernel
theorem d_92_48 : decode c_92 48 = .ok (.iload_n 2, 1) := by decide +kernel
theorem d_92_49 : decode c_92 49 = .ok (.iastore, 1) := by decide +kernel
theorem d_92_50 : decode c_92 50 = .ok (.aload_n 0, 1) := by decide +kernel
theorem d_92_51 : decode c_92 51 = .ok (.getfield 61, 3) := by decide +kernel
theorem d_92_54 : decode c_92 54 = .ok (.aload_n 0, 1) := by decide +kernel
theorem d_92_55 : decode c_92 55 = .ok (.getfield 258, 3) := by decide +kernel
theorem d_92_58 : decode c_92 58 = .ok (.iload_n 3, 1) := by decide +kernel
theorem d_92_59 : decode c_92 59 = .ok (.iastore, 1) := by decide +kernel
theorem d_92_60 : decode c_92 60 = .ok (.aload_n 0, 1) := by decide +kernel
theorem d_92_61 : decode c_92 61 = .ok (.dup, 1) := by decide +kernel
theorem d_92_62 : decode c_92 62 = .ok (.getfield 258, 3) := by decide +kernel
theorem d_92_65 : decode c_92 65 = .ok (.iconst 1, 1) := by decide +kernel
theorem d_92_66 : decode c_92 66 = .ok (.iadd, 1) := by decide +kernel
theorem d_92_67 : decode c_92 67 = .ok (.putfield 258, 3) := by decide +kernel
theorem d_92_70 : decode c_92 70 = .ok (.aload_n 0, 1) := by decide +kernel
theorem d_92_71 : decode c_92 71 = .ok (.getfield 52, 3) := by decide +kernel
theorem d_92_74 : decode c_92 74 = .ok (.aload_n 0, 1) := by decide +kernel
theorem d_92_75 : decode c_92 75 = .ok (.getfield 221, 3) := by decide +kernel
theorem d_92_78 : decode c_92 78 = .ok (.iconst 1, 1) := by decide +kernel
theorem d_92_79 : decode c_92 79 = .ok (.isub, 1) := by decide +kernel
theorem d_92_80 : decode c_92 80 = .ok (.dup2, 1) := by decide +kernel
theorem d_92_81 : decode c_92 81 = .ok (.iaload, 1) := by decide +kernel
theorem d_92_82 : decode c_92 82 = .ok (.iconst 1, 1) := by decide +kernel
theorem d_92_83 : decode c_92 83 = .ok (.iadd, 1) := by decide +kernel
theorem d_92_84 : decode c_92 84 = .ok (.iastore, 1) := by decide +kernel
theorem d_92_85 : decode c_92 85 = .ok (.return_, 1) := by decide +kernel
theorem d_93_0 : decode c_93 0 = .ok (.aload_n 0, 1) := by decide +kernel
theorem d_93_1 : decode c_93 1 = .ok (.getfield 221, 3) := by decide +kernel
theorem d_93_4 : decode c_93 4 = .ok (.iconst 1, 1) := by decide +kernel
theorem d_93_5 : decode c_93 5 = .ok (.isub, 1) := by decide +kernel
theorem d_93_6 : decode c_93 6 = .ok (.istore_n 1, 1) := by decide +kernel
theorem d_93_7 : decode c_93 7 = .ok (.aload_n 0, 1) := by decide +kernel
theorem d_93_8 : decode c_93 8 = .ok (.getfield 25, 3) := by decide +kernel
theorem d_93_11 : decode c_93 11 = .ok (.iload_n 1, 1) := by decide +kernel
theorem d_93_12 : decode c_93 12 = .ok (.aload_n 0, 1) := by decide +kernel
theorem d_93_13 : decode c_93 13 = .ok (.invokevirtual 261, 3) := by decide +kernel
theorem d_93_16 : decode c_93 16 = .ok (.iastore, 1) := by decide +kernel
theorem d_93_17 : decode c_93 17 = .ok (.aload_n 0, 1) := by decide +kernel
theorem d_93_18 : decode c_93 18 = .ok (.getfield 236, 3) := by decide +kernel
theorem d_93_21 : decode c_93 21 = .ok (.ifCond .eq 48, 3) := by decide +kernel
theorem d_93_24 : decode c_93 24 = .ok (.aload_n 0, 1) := by decide +kernel
theorem d_93_25 : decode c_93 25 = .ok (.getfield 194, 3) := by decide +kernel
theorem d_93_28 : decode c_93 28 = .ok (.iconst 1, 1) := by decide +kernel
theorem d_93_29 : decode c_93 29 = .ok (.if_icmp .ne 40, 3) := by decide +kernel
theorem d_93_32 : decode c_93 32 = .ok (.aload_n 0, 1) := by decide +kernel
theorem d_93_33 : decode c_93 33 = .ok (.getfield 208, 3) := by decide +kernel
theorem d_93_36 : decode c_93 36 = .ok (.bipush 10, 2) := by decide +kernel
theorem d_93_38 : decode c_93 38 = .ok (.if_icmp .ne 31, 3) := by decide +kernel
theorem d_93_41 : decode c_93 41 = .ok (.aload_n 0, 1) := by decide +kernel
theorem d_93_42 : decode c_93 42 = .ok (.invokevirtual 240, 3) := by decide +kernel
theorem d_93_45 : decode c_93 45 = .ok (.pop, 1) := by decide +kernel
theorem d_93_46 : decode c_93 46 = .ok (.aload_n 0, 1) := by decide +kernel
theorem d_93_47 : decode c_93 47 = .ok (.getfield 40, 3) := by decide +kernel
theorem d_93_50 : decode c_93 50 = .ok (.iload_n 1, 1) := by decide +kernel
theorem d_93_51 : decode c_93 51 = .ok (.aload_n 0, 1) := by decide +kernel
theorem d_93_52 : decode c_93 52 = .ok (.iconst 1, 1) := by decide +kernel
theorem d_93_53 : decode c_93 53 = .ok (.ldc 251, 2) := by decide +kernel
theorem d_93_55 : decode c_93 55 = .ok (.invokevirtual 252, 3) := by decide +kernel
theorem d_93_58 : decode c_93 58 = .ok (.iastore, 1) := by decide +kernel
theorem d_93_59 : decode c_93 59 = .ok (.aload_n 0, 1) := by decide +kernel
theorem d_93_60 : decode c_93 60 = .ok (.getfield 46, 3) := by decide +kernel
theorem d_93_63 : decode c_93 63 = .ok (.iload_n 1, 1) := by decide +kernel
theorem d_93_64 : decode c_93 64 = .ok (.iconst 1, 1) := by decide +kernel
theorem d_93_65 : decode c_93 65 = .ok (.iastore, 1) := by decide +kernel
theorem d_93_66 : decode c_93 66 = .ok (.goto 39, 3) := by decide +kernel
theorem d_93_69 : decode c_93 69 = .ok (.aload_n 0, 1) := by decide +kernel
theorem d_93_70 : decode c_93 70 = .ok (.getfield 236, 3) := by decide +kernel
theorem d_93_73 : decode c_93 73 = .ok (.ifCond .eq 32, 3) := by decide +kernel
theorem d_93_76 : decode c_93 76 = .ok (.aload_n 0, 1) := by decide +kernel
theorem d_93_77 : decode c_93 77 = .ok (.getfield 194, 3) := by decide +kernel
theorem d_93_80 : decode c_93 80 = .ok (.iconst 1, 1) := by decide +kernel
theorem d_93_81 : decode c_93 81 = .ok (.if_icmp .ne 24, 3) := by decide +kernel
theorem d_93_84 : decode c_93 84 = .ok (.aload_n 0, 1) := by decide +kernel
theorem d_93_85 : decode c_93 85 = .ok (.getfield 208, 3) := by decide +kernel
theorem d_93_88 : decode c_93 88 = .ok (.bipush 11, 2) := by decide +kernel
theorem d_93_90 : decode c_93 90 = .ok (.if_icmp .ne 15, 3) := by decide +kernel
theorem d_93_93 : decode c_93 93 = .ok (.aload_n 0, 1) := by decide +kernel
theorem d_93_94 : decode c_93 94 = .ok (.getfield 46, 3) := by decide +kernel
theorem d_93_97 : decode c_93 97 = .ok (.iload_n 1, 1) := by decide +kernel
theorem d_93_98 : decode c_93 98 = .ok (.iconst 2, 1) := by decide +kernel
theorem d_93_99 : decode c_93 99 = .ok (.iastore, 1) := by decide +kernel
theorem d_93_100 : decode c_93 100 = .ok (.aload_n 0, 1) := by decide +kernel
theorem d_93_101 : decode c_93 101 = .ok (.iconst 0, 1) := by decide +kernel
theorem d_93_102 : decode c_93 102 = .ok (.invokevirtual 264, 3) := by decide +kernel
theorem d_93_105 : decode c_93 105 = .ok (.iconst 0, 1) := by decide +kernel
theorem d_93_106 : decode c_93 106 = .ok (.istore_n 2, 1) := by decide +kernel
theorem d_93_107 : decode c_93 107 = .ok (.aload_n 0, 1) := by decide +kernel
theorem d_93_108 : decode c_93 108 = .ok (.getfield 236, 3) := by decide +kernel
theorem d_93_111 : decode c_93 111 = .ok (.ifCond .eq 67, 3) := by decide +kernel
theorem d_93_114 : decode c_93 114 = .ok (.aload_n 0, 1) := by decide +kernel
theorem d_93_115 : decode c_93 115 = .ok (.getfield 194, 3) := by decide +kernel
theorem d_93_118 : decode c_93 118 = .ok (.iconst 1, 1) := by decide +kernel
theorem d_93_119 : decode c_93 119 = .ok (.if_icmp .ne 59, 3) := by decide +kernel
theorem d_93_122 : decode c_93 122 = .ok (.aload_n 0, 1) := by decide +kernel
theorem d_93_123 : decode c_93 123 = .ok (.getfield 208, 3) := by decide +kernel
theorem d_93_126 : decode c_93 126 = .ok (.bipush 12, 2) := by decide +kernel
theorem d_93_128 : decode c_93 128 = .ok (.if_icmp .eq 12, 3) := by decide +kernel
theorem d_93_131 : decode c_93 131 = .ok (.aload_n 0, 1) := by decide +kernel
theorem d_93_132 : decode c_93 132 = .ok (.getfield 208, 3) := by decide +kernel
theorem d_93_135 : decode c_93 135 = .ok (.bipush 13, 2) := by decide +kernel
theorem d_93_137 : decode c_93 137 = .ok (.if_icmp .ne 41, 3) := by decide +kernel
theorem d_93_140 : decode c_93 140 = .ok (.iload_n 2, 1) := by decide +kernel
theorem d_93_141 : decode c_93 141 = .ok (.bipush 8, 2) := by decide +kernel
theorem d_93_143 : decode c_93 143 = .ok (.if_icmp .ne 11, 3) := by decide +kernel
theorem d_93_146 : decode c_93 146 = .ok (.aload_n 0, 1) := by decide +kernel
theorem d_93_147 : decode c_93 147 = .ok (.iconst 0, 1) := by decide +kernel
theorem d_93_148 : decode c_93 148 = .ok (.putfield 236, 3) := by decide +kernel
theorem d_93_151 : decode c_93 151 = .ok (.goto 21, 3) := by decide +kernel
theorem d_93_154 : decode c_93 154 = .ok (.aload_n 0, 1) := by decide +kernel
theorem d_93_155 : decode c_93 155 = .ok (.aload_n 0, 1) := by decide +kernel
theorem d_93_156 : decode c_93 156 = .ok (.getfield 208, 3) := by decide +kernel
theorem d_93_159 : decode c_93 159 = .ok (.bipush 12, 2) := by decide +kernel
theorem d_93_161 : decode c_93 161 = .ok (.if_icmp .ne 7, 3) := by decide +kernel
theorem d_93_164 : decode c_93 164 = .ok (.iconst 1, 1) := by decide +kernel
theorem d_93_165 : decode c_93 165 = .ok (.goto 4, 3) := by decide +kernel
theorem d_93_168 : decode c_93 168 = .ok (.iconst 2, 1) := by decide +kernel
theorem d_93_169 : decode c_93 169 = .ok (.invokevirtual 264, 3) := by decide +kernel
theorem d_93_172 : decode c_93 172 = .ok (.iinc 2 1, 3) := by decide +kernel
theorem d_93_175 : decode c_93 175 = .ok (.goto (-68), 3) := by decide +kernel
theorem d_93_178 : decode c_93 178 = .ok (.aload_n 0, 1) := by decide +kernel
theorem d_93_179 : decode c_93 179 = .ok (.bipush 59, 2) := by decide +kernel
theorem d_93_181 : decode c_93 181 = .ok (.invokevirtual 248, 3) := by decide +kernel
theorem d_93_184 : decode c_93 184 = .ok (.pop, 1) := by decide +kernel
theorem d_93_185 : decode c_93 185 = .ok (.return_, 1) := by decide +kernel
theorem d_94_0 : decode c_94 0 = .ok (.aload_n 0, 1) := by decide +kernel
theorem d_94_1 : decode c_94 1 = .ok (.getfield 221, 3) := by decide +kernel
theorem d_94_4 : decode c_94 4 = .ok (.iconst 1, 1) := by decide +kernel
theorem d_94_5 : decode c_94 5 = .ok (.isub, 1) := by decide +kernel
theorem d_94_6 : decode c_94 6 = .ok (.istore_n 1, 1) := by decide +kernel
theorem d_94_7 : decode c_94 7 = .ok (.aload_n 0, 1) := by decide +kernel
theorem d_94_8 : decode c_94 8 = .ok (.getfield 28, 3) := by decide +kernel
theorem d_94_11 : decode c_94 11 = .ok (.iload_n 1, 1) := by decide +kernel
theorem d_94_12 : decode c_94 12 = .ok (.aload_n 0, 1) := by decide +kernel
theorem d_94_13 : decode c_94 13 = .ok (.invokevirtual 261, 3) := by decide +kernel
theorem d_94_16 : decode c_94 16 = .ok (.iastore, 1) := by decide +kernel
theorem d_94_17 : decode c_94 17 = .ok (.aload_n 0, 1) := by decide +kernel
theorem d_94_18 : decode c_94 18 = .ok (.bipush 46, 2) := by decide +kernel
theorem d_94_20 : decode c_94 20 = .ok (.invokevirtual 248, 3) := by decide +kernel
theorem d_94_23 : decode c_94 23 = .ok (.pop, 1) := by decide +kernel
theorem d_94_24 : decode c_94 24 = .ok (.aload_n 0, 1) := by decide +kernel
theorem d_94_25 : decode c_94 25 = .ok (.getfield 31, 3) := by decide +kernel
theorem d_94_28 : decode c_94 28 = .ok (.iload_n 1, 1) := by decide +kernel
theorem d_94_29 : decode c_94 29 = .ok (.aload_n 0, 1) := by decide +kernel
theorem d_94_30 : decode c_94 30 = .ok (.invokevirtual 261, 3) := by decide +kernel
theorem d_94_33 : decode c_94 33 = .ok (.iastore, 1) := by decide +kernel
theorem d_94_34 : decode c_94 34 = .ok (.aload_n 0, 1) := by decide +kernel
theorem d_94_35 : decode c_94 35 = .ok (.bipush 16, 2) := by decide +kernel
theorem d_94_37 : decode c_94 37 = .ok (.invokevirtual 267, 3) := by decide +kernel
theorem d_94_40 : decode c_94 40 = .ok (.pop, 1) := by decide +kernel
theorem d_94_41 : decode c_94 41 = .ok (.aload_n 0, 1) := by decide +kernel
theorem d_94_42 : decode c_94 42 = .ok (.getfield 34, 3) := by decide +kernel
theorem d_94_45 : decode c_94 45 = .ok (.iload_n 1, 1) := by decide +kernel
theorem d_94_46 : decode c_94 46 = .ok (.aload_n 0, 1) := by decide +kernel
theorem d_94_47 : decode c_94 47 = .ok (.invokevirtual 261, 3) := by decide +kernel
theorem d_94_50 : decode c_94 50 = .ok (.iastore, 1) := by decide +kernel
theorem d_94_51 : decode c_94 51 = .ok (.aload_n 0, 1) := by decide +kernel
theorem d_94_52 : decode c_94 52 = .ok (.bipush 46, 2) := by decide +kernel
theorem d_94_54 : decode c_94 54 = .ok (.invokevirtual 248, 3) := by decide +kernel
theorem d_94_57 : decode c_94 57 = .ok (.pop, 1) := by decide +kernel
theorem d_94_58 : decode c_94 58 = .ok (.aload_n 0, 1) := by decide +kernel
theorem d_94_59 : decode c_94 59 = .ok (.getfield 37, 3) := by decide +kernel
theorem d_94_62 : decode c_94 62 = .ok (.iload_n 1, 1) := by decide +kernel
theorem d_94_63 : decode c_94 63 = .ok (.aload_n 0, 1) := by decide +kernel
theorem d_94_64 : decode c_94 64 = .ok (.invokevirtual 261, 3) := by decide +kernel
theorem d_94_67 : decode c_94 67 = .ok (.iastore, 1) := by decide +kernel
theorem d_94_68 : decode c_94 68 = .ok (.aload_n 0, 1) := by decide +kernel
theorem d_94_69 : decode c_94 69 = .ok (.bipush 59, 2) := by decide +kernel
theorem d_94_71 : decode c_94 71 = .ok (.invokevirtual 248, 3) := by decide +kernel
theorem d_94_74 : decode c_94 74 = .ok (.pop, 1) := by decide +kernel
theorem d_94_75 : decode c_94 75 = .ok (.return_, 1) := by decide +kernel
theorem d_95_0 : decode c_95 0 = .ok (.aload_n 0, 1) := by decide +kernel
theorem d_95_1 : decode c_95 1 = .ok (.getfield 194, 3) := by decide +kernel
theorem d_95_4 : decode c_95 4 = .ok (.iconst 1, 1) := by decide +kernel
theorem d_95_5 : decode c_95 5 = .ok (.if_icmp .ne 10, 3) := by decide +kernel
theorem d_95_8 : decode c_95 8 = .ok (.aload_n 0, 1) := by decide +kernel
theorem d_95_9 : decode c_95 9 = .ok (.getfield 208, 3) := by decide +kernel
theorem d_95_12 : decode c_95 12 = .ok (.goto 4, 3) := by decide +kernel
theorem d_95_15 : decode c_95 15 = .ok (.iconst 0, 1) := by decide +kernel
theorem d_95_16 : decode c_95 16 = .ok (.istore_n 2, 1) := by decide +kernel
theorem d_95_17 : decode c_95 17 = .ok (.iload_n 1, 1) := by decide +kernel
theorem d_95_18 : decode c_95 18 = .ok (.iconst 3, 1) := by decide +kernel
theorem d_95_19 : decode c_95 19 = .ok (.if_icmp .ne 21, 3) := by decide +kernel
theorem d_95_22 : decode c_95 22 = .ok (.iload_n 2, 1) := by decide +kernel
theorem d_95_23 : decode c_95 23 = .ok (.iconst 4, 1) := by decide +kernel
theorem d_95_24 : decode c_95 24 = .ok (.if_icmp .ne 16, 3) := by decide +kernel
theorem d_95_27 : decode c_95 27 = .ok (.aload_n 0, 1) := by decide +kernel
theorem d_95_28 : decode c_95 28 = .ok (.bipush 6, 2) := by decide +kernel
theorem d_95_30 : decode c_95 30 = .ok (.invokevirtual 270, 3) := by decide +kernel
theorem d_95_33 : decode c_95 33 = .ok (.aload_n 0, 1) := by decide +kernel
theorem d_95_34 : decode c_95 34 = .ok (.invokevirtual 273, 3) := by decide +kernel
theorem d_95_37 : decode c_95 37 = .ok (.goto 137, 3) := by decide +kernel
theorem d_95_40 : decode c_95 40 = .ok (.iload_n 1, 1) := by decide +kernel
theorem d_95_41 : decode c_95 41 = .ok (.iconst 4, 1) := by decide +kernel
theorem d_95_42 : decode c_95 42 = .ok (.if_icmp .ne 56, 3) := by decide +kernel
theorem d_95_45 : decode c_95 45 = .ok (.iload_n 2, 1) := by decide +kernel
theorem d_95_46 : decode c_95 46 = .ok (.bipush 6, 2) := by decide +kernel
theorem d_95_48 : decode c_95 48 = .ok (.if_icmp .eq 15, 3) := by decide +kernel
theorem d_95_51 : decode c_95 51 = .ok (.iload_n 2, 1) := by decide +kernel
theorem d_95_52 : decode c_95 52 = .ok (.bipush 7, 2) := by decide +kernel
theorem d_95_54 : decode c_95 54 = .ok (.if_icmp .eq 9, 3) := by decide +kernel
theorem d_95_57 : decode c_95 57 = .ok (.iload_n 2, 1) := by decide +kernel
theorem d_95_58 : decode c_95 58 = .ok (.bipush 8, 2) := by decide +kernel
theorem d_95_60 : decode c_95 60 = .ok (.if_icmp .ne 38, 3) := by decide +kernel
theorem d_95_63 : decode c_95 63 = .ok (.aload_n 0, 1) := by decide +kernel
theorem d_95_64 : decode c_95 64 = .ok (.iload_n 2, 1) := by decide +kernel
theorem d_95_65 : decode c_95 65 = .ok (.bipush 6, 2) := by decide +kernel
theorem d_95_67 : decode c_95 67 = .ok (.if_icmp .ne 8, 3) := by decide +kernel
theorem d_95_70 : decode c_95 70 = .ok (.bipush 7, 2) := by decide +kernel
theorem d_95_72 : decode c_95 72 = .ok (.goto 16, 3) := by decide +kernel
theorem d_95_75 : decode c_95 75 = .ok (.iload_n 2, 1) := by decide +kernel
theorem d_95_76 : decode c_95 76 = .ok (.bipush 7, 2) := by decide +kernel
theorem d_95_78 : decode c_95 78 = .ok (.if_icmp .ne 8, 3) := by decide +kernel
theorem d_95_81 : decode c_95 81 = .ok (.bipush 8, 2) := by decide +kernel
theorem d_95_83 : decode c_95 83 = .ok (.goto 5, 3) := by decide +kernel
theorem d_95_86 : decode c_95 86 = .ok (.bipush 9, 2) := by decide +kernel
theorem d_95_88 : decode c_95 88 = .ok (.invokevirtual 270, 3) := by decide +kernel
theorem d_95_91 : decode c_95 91 = .ok (.aload_n 0, 1) := by decide +kernel
theorem d_95_92 : decode c_95 92 = .ok (.invokevirtual 273, 3) := by decide +kernel
theorem d_95_95 : decode c_95 95 = .ok (.goto 79, 3) := by decide +kernel
theorem d_95_98 : decode c_95 98 = .ok (.iload_n 1, 1) := by decide +kernel
theorem d_95_99 : decode c_95 99 = .ok (.iconst 4, 1) := by decide +kernel
theorem d_95_100 : decode c_95 100 = .ok (.if_icmp .ne 22, 3) := by decide +kernel
theorem d_95_103 : decode c_95 103 = .ok (.iload_n 2, 1) := by decide +kernel
theorem d_95_104 : decode c_95 104 = .ok (.bipush 9, 2) := by decide +kernel
theorem d_95_106 : decode c_95 106 = .ok (.if_icmp .ne 16, 3) := by decide +kernel
theorem d_95_109 : decode c_95 109 = .ok (.aload_n 0, 1) := by decide +kernel
theorem d_95_110 : decode c_95 110 = .ok (.bipush 10, 2) := by decide +kernel
theorem d_95_112 : decode c_95 112 = .ok (.invokevirtual 270, 3) := by decide +kernel
theorem d_95_115 : decode c_95 115 = .ok (.aload_n 0, 1) := by decide +kernel
theorem d_95_116 : decode c_95 116 = .ok (.invokevirtual 276, 3) := by decide +kernel
theorem d_95_119 : decode c_95 119 = .ok (.goto 55, 3) := by decide +kernel
theorem d_95_122 : decode c_95 122 = .ok (.iload_n 1, 1) := by decide +kernel
theorem d_95_123 : decode c_95 123 = .ok (.iconst 5, 1) := by decide +kernel
theorem d_95_124 : decode c_95 124 = .ok (.if_icmp .ne 21, 3) := by decide +kernel
theorem d_95_127 : decode c_95 127 = .ok (.iload_n 2, 1) := by decide +kernel
theorem d_95_128 : decode c_95 128 = .ok (.iconst 5, 1) := by decide +kernel
theorem d_95_129 : decode c_95 129 = .ok (.if_icmp .ne 16, 3) := by decide +kernel
theorem d_95_132 : decode c_95 132 = .ok (.aload_n 0, 1) := by decide +kernel
theorem d_95_133 : decode c_95 133 = .ok (.bipush 11, 2) := by decide +kernel
theorem d_95_135 : decode c_95 135 = .ok (.invokevirtual 270, 3) := by decide +kernel
theorem d_95_138 : decode c_95 138 = .ok (.aload_n 0, 1) := by decide +kernel
theorem d_95_139 : decode c_95 139 = .ok (.invokevirtual 273, 3) := by decide +kernel
theorem d_95_142 : decode c_95 142 = .ok (.goto 32, 3) := by decide +kernel
theorem d_95_145 : decode c_95 145 = .ok (.iload_n 1, 1) := by decide +kernel
theorem d_95_146 : decode c_95 146 = .ok (.iconst 5, 1) := by decide +kernel
theorem d_95_147 : decode c_95 147 = .ok (.if_icmp .ne 22, 3) := by decide +kernel
theorem d_95_150 : decode c_95 150 = .ok (.iload_n 2, 1) := by decide +kernel
theorem d_95_151 : decode c_95 151 = .ok (.bipush 15, 2) := by decide +kernel
theorem d_95_153 : decode c_95 153 = .ok (.if_icmp .ne 16, 3) := by decide +kernel
theorem d_95_156 : decode c_95 156 = .ok (.aload_n 0, 1) := by decide +kernel
theorem d_95_157 : decode c_95 157 = .ok (.bipush 12, 2) := by decide +kernel
theorem d_95_159 : decode c_95 159 = .ok (.invokevirtual 270, 3) := by decide +kernel
theorem d_95_162 : decode c_95 162 = .ok (.aload_n 0, 1) := by decide +kernel
theorem d_95_163 : decode c_95 163 = .ok (.invokevirtual 279, 3) := by decide +kernel
theorem d_95_166 : decode c_95 166 = .ok (.goto 8, 3) := by decide +kernel
theorem d_95_169 : decode c_95 169 = .ok (.aload_n 0, 1) := by decide +kernel
theorem d_95_170 : decode c_95 170 = .ok (.iconst 0, 1) := by decide +kernel
theorem d_95_171 : decode c_95 171 = .ok (.putfield 236, 3) := by decide +kernel
theorem d_95_174 : decode c_95 174 = .ok (.return_, 1) := by decide +kernel
theorem d_96_0 : decode c_96 0 = .ok (.aload_n 0, 1) := by decide +kernel
theorem d_96_1 : decode c_96 1 = .ok (.iload_n 1, 1) := by decide +kernel
theorem d_96_2 : decode c_96 2 = .ok (.putfield 255, 3) := by decide +kernel
theorem d_96_5 : decode c_96 5 = .ok (.aload_n 0, 1) := by decide +kernel
theorem d_96_6 : decode c_96 6 = .ok (.getfield 236, 3) := by decide +kernel
theorem d_96_9 : decode c_96 9 = .ok (.ifCond .eq 33, 3) := by decide +kernel
theorem d_96_12 : decode c_96 12 = .ok (.aload_n 0, 1) := by decide +kernel
theorem d_96_13 : decode c_96 13 = .ok (.getfield 194, 3) := by decide +kernel
theorem d_96_16 : decode c_96 16 = .ok (.iconst 4, 1) := by decide +kernel
theorem d_96_17 : decode c_96 17 = .ok (.if_icmp .ne 12, 3) := by decide +kernel
theorem d_96_20 : decode c_96 20 = .ok (.aload_n 0, 1) := by decide +kernel
theorem d_96_21 : decode c_96 21 = .ok (.getfield 208, 3) := by decide +kernel
theorem d_96_24 : decode c_96 24 = .ok (.bipush 125, 2) := by decide +kernel
theorem d_96_26 : decode c_96 26 = .ok (.if_icmp .eq 16, 3) := by decide +kernel
theorem d_96_29 : decode c_96 29 = .ok (.aload_n 0, 1) := by decide +kernel
theorem d_96_30 : decode c_96 30 = .ok (.aload_n 0, 1) := by decide +kernel
theorem d_96_31 : decode c_96 31 = .ok (.getfield 19, 3) := by decide +kernel
theorem d_96_34 : decode c_96 34 = .ok (.iload_n 1, 1) := by decide +kernel
theorem d_96_35 : decode c_96 35 = .ok (.iaload, 1) := by decide +kernel
theorem d_96_36 : decode c_96 36 = .ok (.invokevirtual 292, 3) := by decide +kernel
theorem d_96_39 : decode c_96 39 = .ok (.goto (-34), 3) := by decide +kernel
theorem d_96_42 : decode c_96 42 = .ok (.aload_n 0, 1) := by decide +kernel
theorem d_96_43 : decode c_96 43 = .ok (.bipush 13, 2) := by decide +kernel
theorem d_96_45 : decode c_96 45 = .ok (.invokevirtual 270, 3) := by decide +kernel
theorem d_96_48 : decode c_96 48 = .ok (.aload_n 0, 1) := by decide +kernel
theorem d_96_49 : decode c_96 49 = .ok (.iconst (-1), 1) := by decide +kernel
theorem d_96_50 : decode c_96 50 = .ok (.putfield 255, 3) := by decide +kernel
theorem d_96_53 : decode c_96 53 = .ok (.return_, 1) := by decide +kernel
theorem d_97_0 : decode c_97 0 = .ok (.aload_n 0, 1) := by decide +kernel
theorem d_97_1 : decode c_97 1 = .ok (.getfield 194, 3) := by decide +kernel
theorem d_97_4 : decode c_97 4 = .ok (.iconst 1, 1) := by decide +kernel
theorem d_97_5 : decode c_97 5 = .ok (.if_icmp .ne 10, 3) := by decide +kernel
theorem d_97_8 : decode c_97 8 = .ok (.aload_n 0, 1) := by decide +kernel
theorem d_97_9 : decode c_97 9 = .ok (.getfield 208, 3) := by decide +kernel
theorem d_97_12 : decode c_97 12 = .ok (.goto 4, 3) := by decide +kernel
theorem d_97_15 : decode c_97 15 = .ok (.iconst 0, 1) := by decide +kernel
theorem d_97_16 : decode c_97 16 = .ok (.istore_n 1, 1) := by decide +kernel
theorem d_97_17 : decode c_97 17 = .ok (.aload_n 0, 1) := by decide +kernel
theorem d_97_18 : decode c_97 18 = .ok (.getfield 221, 3) := by decide +kernel
theorem d_97_21 : decode c_97 21 = .ok (.istore_n 2, 1) := by decide +kernel
theorem d_97_22 : decode c_97 22 = .ok (.iload_n 1, 1) := by decide +kernel
theorem d_97_23 : decode c_97 23 = .ok (.iconst 1, 1) := by decide +kernel
theorem d_97_24 : decode c_97 24 = .ok (.if_icmp .ne 82, 3) := by decide +kernel
theorem d_97_27 : decode c_97 27 = .ok (.aload_n 0, 1) := by decide +kernel
theorem d_97_28 : decode c_97 28 = .ok (.iconst 1, 1) := by decide +kernel
theorem d_97_29 : decode c_97 29 = .ok (.invokevirtual 270, 3) := by decide +kernel
theorem d_97_32 : decode c_97 32 = .ok (.aload_n 0, 1) := by decide +kernel
theorem d_97_33 : decode c_97 33 = .ok (.invokevirtual 261, 3) := by decide +kernel
theorem d_97_36 : decode c_97 36 = .ok (.istore_n 3, 1) := by decide +kernel
theorem d_97_37 : decode c_97 37 = .ok (.aload_n 0, 1) := by decide +kernel
theorem d_97_38 : decode c_97 38 = .ok (.bipush 61, 2) := by decide +kernel
theorem d_97_40 : decode c_97 40 = .ok (.invokevirtual 248, 3) := by decide +kernel
theorem d_97_43 : decode c_97 43 = .ok (.pop, 1) := by decide +kernel
theorem d_97_44 : decode c_97 44 = .ok (.aload_n 0, 1) := by decide +kernel
theorem d_97_45 : decode c_97 45 = .ok (.iconst 1, 1) := by decide +kernel
theorem d_97_46 : decode c_97 46 = .ok (.sipush 9999, 3) := by decide +kernel
theorem d_97_49 : decode c_97 49 = .ok (.invokevirtual 252, 3) := by decide +kernel
theorem d_97_52 : decode c_97 52 = .ok (.istore 4, 2) := by decide +kernel
theorem d_97_54 : decode c_97 54 = .ok (.aload_n 0, 1) := by decide +kernel
theorem d_97_55 : decode c_97 55 = .ok (.bipush 47, 2) := by decide +kernel
theorem d_97_57 : decode c_97 57 = .ok (.invokevirtual 248, 3) := by decide +kernel
theorem d_97_60 : decode c_97 60 = .ok (.pop, 1) := by decide +kernel
theorem d_97_61 : decode c_97 61 = .ok (.aload_n 0, 1) := by decide +kernel
theorem d_97_62 : decode c_97 62 = .ok (.iconst 1, 1) := by decide +kernel
theorem d_97_63 : decode c_97 63 = .ok (.sipush 9999, 3) := by decide +kernel
theorem d_97_66 : decode c_97 66 = .ok (.invokevirtual 252, 3) := by decide +kernel
theorem d_97_69 : decode c_97 69 = .ok (.istore 5, 2) := by decide +kernel
theorem d_97_71 : decode c_97 71 = .ok (.aload_n 0, 1) := by decide +kernel
theorem d_97_72 : decode c_97 72 = .ok (.invokevirtual 261, 3) := by decide +kernel
theorem d_97_75 : decode c_97 75 = .ok (.istore 6, 2) := by decide +kernel
theorem d_97_77 : decode c_97 77 = .ok (.aload_n 0, 1) := by decide +kernel
theorem d_97_78 : decode c_97 78 = .ok (.bipush 59, 2) := by decide +kernel
theorem d_97_80 : decode c_97 80 = .ok (.invokevirtual 248, 3) := by decide +kernel
theorem d_97_83 : decode c_97 83 = .ok (.pop, 1) := by decide +kernel
theorem d_97_84 : decode c_97 84 = .ok (.aload_n 0, 1) := by decide +kernel
theorem d_97_85 : decode c_97 85 = .ok (.getfield 236, 3) := by decide +kernel
theorem d_97_88 : decode c_97 88 = .ok (.ifCond .eq 15, 3) := by decide +kernel
theorem d_97_91 : decode c_97 91 = .ok (.aload_n 0, 1) := by decide +kernel
theorem d_97_92 : decode c_97 92 = .ok (.iload_n 2, 1) := by decide +kernel
theorem d_97_93 : decode c_97 93 = .ok (.iload_n 3, 1) := by decide +kernel
theorem d_97_94 : decode c_97 94 = .ok (.iload 6, 2) := by decide +kernel
theorem d_97_96 : decode c_97 96 = .ok (.iload 4, 2) := by decide +kernel
theorem d_97_98 : decode c_97 98 = .ok (.iload 5, 2) := by decide +kernel
theorem d_97_100 : decode c_97 100 = .ok (.invokevirtual 282, 3) := by decide +kernel
theorem d_97_103 : decode c_97 103 = .ok (.goto 157, 3) := by decide +kernel
theorem d_97_106 : decode c_97 106 = .ok (.iload_n 1, 1) := by decide +kernel
theorem d_97_107 : decode c_97 107 = .ok (.iconst 2, 1) := by decide +kernel
theorem d_97_108 : decode c_97 108 = .ok (.if_icmp .ne 74, 3) := by decide +kernel
theorem d_97_111 : decode c_97 111 = .ok (.aload_n 0, 1) := by decide +kernel
theorem d_97_112 : decode c_97 112 = .ok (.iconst 2, 1) := by decide +kernel
theorem d_97_113 : decode c_97 113 = .ok (.invokevirtual 270, 3) := by decide +kernel
theorem d_97_116 : decode c_97 116 = .ok (.aload_n 0, 1) := by decide +kernel
theorem d_97_117 : decode c_97 117 = .ok (.invokevirtual 261, 3) := by decide +kernel
theorem d_97_120 : decode c_97 120 = .ok (.istore_n 3, 1) := by decide +kernel
theorem d_97_121 : decode c_97 121 = .ok (.aload_n 0, 1) := by decide +kernel
theorem d_97_122 : decode c_97 122 = .ok (.bipush 61, 2) := by decide +kernel
theorem d_97_124 : decode c_97 124 = .ok (.invokevirtual 248, 3) := by decide +kernel
theorem d_97_127 : decode c_97 127 = .ok (.pop, 1) := by decide +kernel
theorem d_97_128 : decode c_97 128 = .ok (.aload_n 0, 1) := by decide +kernel
theorem d_97_129 : decode c_97 129 = .ok (.invokevirtual 286, 3) := by decide +kernel
theorem d_97_132 : decode c_97 132 = .ok (.istore 4, 2) := by decide +kernel
theorem d_97_134 : decode c_97 134 = .ok (.aload_n 0, 1) := by decide +kernel
theorem d_97_135 : decode c_97 135 = .ok (.bipush 16, 2) := by decide +kernel
theorem d_97_137 : decode c_97 137 = .ok (.invokevirtual 267, 3) := by decide +kernel
theorem d_97_140 : decode c_97 140 = .ok (.pop, 1) := by decide +kernel
theorem d_97_141 : decode c_97 141 = .ok (.aload_n 0, 1) := by decide +kernel
theorem d_97_142 : decode c_97 142 = .ok (.invokevirtual 286, 3) := by decide +kernel
theorem d_97_145 : decode c_97 145 = .ok (.istore 5, 2) := by decide +kernel
theorem d_97_147 : decode c_97 147 = .ok (.aload_n 0, 1) := by decide +kernel
theorem d_97_148 : decode c_97 148 = .ok (.invokevirtual 261, 3) := by decide +kernel
theorem d_97_151 : decode c_97 151 = .ok (.istore 6, 2) := by decide +kernel
theorem d_97_153 : decode c_97 153 = .ok (.aload_n 0, 1) := by decide +kernel
theorem d_97_154 : decode c_97 154 = .ok (.bipush 59, 2) := by decide +kernel
theorem d_97_156 : decode c_97 156 = .ok (.invokevirtual 248, 3) := by decide +kernel
theorem d_97_159 : decode c_97 159 = .ok (.pop, 1) := by decide +kernel
theorem d_97_160 : decode c_97 160 = .ok (.aload_n 0, 1) := by decide +kernel
theorem d_97_161 : decode c_97 161 = .ok (.getfield 236, 3) := by decide +kernel
theorem d_97_164 : decode c_97 164 = .ok (.ifCond .eq 15, 3) := by decide +kernel
theorem d_97_167 : decode c_97 167 = .ok (.aload_n 0, 1) := by decide +kernel
theorem d_97_168 : decode c_97 168 = .ok (.iload_n 2, 1) := by decide +kernel
theorem d_97_169 : decode c_97 169 = .ok (.iload_n 3, 1) := by decide +kernel
theorem d_97_170 : decode c_97 170 = .ok (.iload 6, 2) := by decide +kernel
theorem d_97_172 : decode c_97 172 = .ok (.iload 4, 2) := by decide +kernel
theorem d_97_174 : decode c_97 174 = .ok (.iload 5, 2) := by decide +kernel
theorem d_97_176 : decode c_97 176 = .ok (.invokevirtual 282, 3) := by decide +kernel
theorem d_97_179 : decode c_97 179 = .ok (.goto 81, 3) := by decide +kernel
theorem d_97_182 : decode c_97 182 = .ok (.iload_n 1, 1) := by decide +kernel
theorem d_97_183 : decode c_97 183 = .ok (.iconst 3, 1) := by decide +kernel
theorem d_97_184 : decode c_97 184 = .ok (.if_icmp .eq 14, 3) := by decide +kernel
theorem d_97_187 : decode c_97 187 = .ok (.iload_n 1, 1) := by decide +kernel
theorem d_97_188 : decode c_97 188 = .ok (.iconst 5, 1) := by decide +kernel
theorem d_97_189 : decode c_97 189 = .ok (.if_icmp .eq 9, 3) := by decide +kernel
theorem d_97_192 : decode c_97 192 = .ok (.iload_n 1, 1) := by decide +kernel
theorem d_97_193 : decode c_97 193 = .ok (.bipush 14, 2) := by decide +kernel
theorem d_97_195 : decode c_97 195 = .ok (.if_icmp .ne 60, 3) := by decide +kernel
theorem d_97_198 : decode c_97 198 = .ok (.aload_n 0, 1) := by decide +kernel
theorem d_97_199 : decode c_97 199 = .ok (.iload_n 1, 1) := by decide +kernel
theorem d_97_200 : decode c_97 200 = .ok (.iconst 3, 1) := by decide +kernel
theorem d_97_201 : decode c_97 201 = .ok (.if_icmp .ne 7, 3) := by decide +kernel
theorem d_97_204 : decode c_97 204 = .ok (.iconst 3, 1) := by decide +kernel
theorem d_97_205 : decode c_97 205 = .ok (.goto 13, 3) := by decide +kernel
theorem d_97_208 : decode c_97 208 = .ok (.iload_n 1, 1) := by decide +kernel
theorem d_97_209 : decode c_97 209 = .ok (.iconst 5, 1) := by decide +kernel
theorem d_97_210 : decode c_97 210 = .ok (.if_icmp .ne 7, 3) := by decide +kernel
theorem d_97_213 : decode c_97 213 = .ok (.iconst 4, 1) := by decide +kernel
theorem d_97_214 : decode c_97 214 = .ok (.goto 4, 3) := by decide +kernel
theorem d_97_217 : decode c_97 217 = .ok (.iconst 5, 1) := by decide +kernel
theorem d_97_218 : decode c_97 218 = .ok (.invokevirtual 270, 3) := by decide +kernel
theorem d_97_221 : decode c_97 221 = .ok (.aload_n 0, 1) := by decide +kernel
theorem d_97_222 : decode c_97 222 = .ok (.invokevirtual 261, 3) := by decide +kernel
theorem d_97_225 : decode c_97 225 = .ok (.istore_n 3, 1) := by decide +kernel
theorem d_97_226 : decode c_97 226 = .ok (.aload_n 0, 1) := by decide +kernel
theorem d_97_227 : decode c_97 227 = .ok (.bipush 123, 2) := by decide +kernel
theorem d_97_229 : decode c_97 229 = .ok (.invokevirtual 248, 3) := by decide +kernel
theorem d_97_232 : decode c_97 232 = .ok (.pop, 1) := by decide +kernel
theorem d_97_233 : decode c_97 233 = .ok (.aload_n 0, 1) := by decide +kernel
theorem d_97_234 : decode c_97 234 = .ok (.getfield 236, 3) := by decide +kernel
theorem d_97_237 : decode c_97 237 = .ok (.ifCond .eq 10, 3) := by decide +kernel
theorem d_97_240 : decode c_97 240 = .ok (.aload_n 0, 1) := by decide +kernel
theorem d_97_241 : decode c_97 241 = .ok (.getfield 25, 3) := by decide +kernel
theorem d_97_244 : decode c_97 244 = .ok (.iload_n 2, 1) := by decide +kernel
theorem d_97_245 : decode c_97 245 = .ok (.iload_n 3, 1) := by decide +kernel
theorem d_97_246 : decode c_97 246 = .ok (.iastore, 1) := by decide +kernel
theorem d_97_247 : decode c_97 247 = .ok (.aload_n 0, 1) := by decide +kernel
theorem d_97_248 : decode c_97 248 = .ok (.iload_n 2, 1) := by decide +kernel
theorem d_97_249 : decode c_97 249 = .ok (.invokevirtual 289, 3) := by decide +kernel
theorem d_97_252 : decode c_97 252 = .ok (.goto 8, 3) := by decide +kernel
theorem d_97_255 : decode c_97 255 = .ok (.aload_n 0, 1) := by decide +kernel
theorem d_97_256 : decode c_97 256 = .ok (.iconst 0, 1) := by decide +kernel
theorem d_97_257 : decode c_97 257 = .ok (.putfield 236, 3) := by decide +kernel
theorem d_97_260 : decode c_97 260 = .ok (.return_, 1) := by decide +kernel
theorem d_98_0 : decode c_98 0 = .ok (.aload_n 0, 1) := by decide +kernel
theorem d_98_1 : decode c_98 1 = .ok (.iconst 1, 1) := by decide +kernel
theorem d_98_2 : decode c_98 2 = .ok (.putfield 310, 3) := by decide +kernel
theorem d_98_5 : decode c_98 5 = .ok (.aload_n 0, 1) := by decide +kernel
theorem d_98_6 : decode c_98 6 = .ok (.aload_n 0, 1) := by decide +kernel
theorem d_98_7 : decode c_98 7 = .ok (.getfield 221, 3) := by decide +kernel
theorem d_98_10 : decode c_98 10 = .ok (.putfield 313, 3) := by decide +kernel
theorem d_98_13 : decode c_98 13 = .ok (.iconst 0, 1) := by decide +kernel
theorem d_98_14 : decode c_98 14 = .ok (.istore_n 1, 1) := by decide +kernel
theorem d_98_15 : decode c_98 15 = .ok (.iload_n 1, 1) := by decide +kernel
theorem d_98_16 : decode c_98 16 = .ok (.aload_n 0, 1) := by decide +kernel
theorem d_98_17 : decode c_98 17 = .ok (.getfield 221, 3) := by decide +kernel
theorem d_98_20 : decode c_98 20 = .ok (.if_icmp .ge 153, 3) := by decide +kernel
theorem d_98_23 : decode c_98 23 = .ok (.aload_n 0, 1) := by decide +kernel
theorem d_98_24 : decode c_98 24 = .ok (.getfield 70, 3) := by decide +kernel
theorem d_98_27 : decode c_98 27 = .ok (.iload_n 1, 1) := by decide +kernel
theorem d_98_28 : decode c_98 28 = .ok (.aload_n 0, 1) := by decide +kernel
theorem d_98_29 : decode c_98 29 = .ok (.getfield 19, 3) := by decide +kernel
theorem d_98_32 : decode c_98 32 = .ok (.iload_n 1, 1) := by decide +kernel
theorem d_98_33 : decode c_98 33 = .ok (.iaload, 1) := by decide +kernel
theorem d_98_34 : decode c_98 34 = .ok (.iastore, 1) := by decide +kernel
theorem d_98_35 : decode c_98 35 = .ok (.aload_n 0, 1) := by decide +kernel
theorem d_98_36 : decode c_98 36 = .ok (.getfield 73, 3) := by decide +kernel
theorem d_98_39 : decode c_98 39 = .ok (.iload_n 1, 1) := by decide +kernel
theorem d_98_40 : decode c_98 40 = .ok (.aload_n 0, 1) := by decide +kernel
theorem d_98_41 : decode c_98 41 = .ok (.getfield 22, 3) := by decide +kernel
theorem d_98_44 : decode c_98 44 = .ok (.iload_n 1, 1) := by decide +kernel
theorem d_98_45 : decode c_98 45 = .ok (.iaload, 1) := by decide +kernel
theorem d_98_46 : decode c_98 46 = .ok (.iastore, 1) := by decide +kernel
theorem d_98_47 : decode c_98 47 = .ok (.aload_n 0, 1) := by decide +kernel
theorem d_98_48 : decode c_98 48 = .ok (.getfield 76, 3) := by decide +kernel
theorem d_98_51 : decode c_98 51 = .ok (.iload_n 1, 1) := by decide +kernel
theorem d_98_52 : decode c_98 52 = .ok (.aload_n 0, 1) := by decide +kernel
theorem d_98_53 : decode c_98 53 = .ok (.getfield 25, 3) := by decide +kernel
theorem d_98_56 : decode c_98 56 = .ok (.iload_n 1, 1) := by decide +kernel
theorem d_98_57 : decode c_98 57 = .ok (.iaload, 1) := by decide +kernel
theorem d_98_58 : decode c_98 58 = .ok (.iastore, 1) := by decide +kernel
theorem d_98_59 : decode c_98 59 = .ok (.aload_n 0, 1) := by decide +kernel
theorem d_98_60 : decode c_98 60 = .ok (.getfield 79, 3) := by decide +kernel
theorem d_98_63 : decode c_98 63 = .ok (.iload_n 1, 1) := by decide +kernel
theorem d_98_64 : decode c_98 64 = .ok (.aload_n 0, 1) := by decide +kernel
theorem d_98_65 : decode c_98 65 = .ok (.getfield 28, 3) := by decide +kernel
theorem d_98_68 : decode c_98 68 = .ok (.iload_n 1, 1) := by decide +kernel
theorem d_98_69 : decode c_98 69 = .ok (.iaload, 1) := by decide +kernel
theorem d_98_70 : decode c_98 70 = .ok (.iastore, 1) := by decide +kernel
theorem d_98_71 : decode c_98 71 = .ok (.aload_n 0, 1) := by decide +kernel
theorem d_98_72 : decode c_98 72 = .ok (.getfield 82, 3) := by decide +kernel
theorem d_98_75 : decode c_98 75 = .ok (.iload_n 1, 1) := by decide +kernel
theorem d_98_76 : decode c_98 76 = .ok (.aload_n 0, 1) := by decide +kernel
theorem d_98_77 : decode c_98 77 = .ok (.getfield 31, 3) := by decide +kernel
theorem d_98_80 : decode c_98 80 = .ok (.iload_n 1, 1) := by decide +kernel
theorem d_98_81 : decode c_98 81 = .ok (.iaload, 1) := by decide +kernel
theorem d_98_82 : decode c_98 82 = .ok (.iastore, 1) := by decide +kernel
theorem d_98_83 : decode c_98 83 = .ok (.aload_n 0, 1) := by decide +kernel
theorem d_98_84 : decode c_98 84 = .ok (.getfield 85, 3) := by decide +kernel
theorem d_98_87 : decode c_98 87 = .ok (.iload_n 1, 1) := by decide +kernel
theorem d_98_88 : decode c_98 88 = .ok (.aload_n 0, 1) := by decide +kernel
theorem d_98_89 : decode c_98 89 = .ok (.getfield 34, 3) := by decide +kernel
theorem d_98_92 : decode c_98 92 = .ok (.iload_n 1, 1) := by decide +kernel
theorem d_98_93 : decode c_98 93 = .ok (.iaload, 1) := by decide +kernel
theorem d_98_94 : decode c_98 94 = .ok (.iastore, 1) := by decide +kernel
theorem d_98_95 : decode c_98 95 = .ok (.aload_n 0, 1) := by decide +kernel
theorem d_98_96 : decode c_98 96 = .ok (.getfield 88, 3) := by decide +kernel
theorem d_98_99 : decode c_98 99 = .ok (.iload_n 1, 1) := by decide +kernel
theorem d_98_100 : decode c_98 100 = .ok (.aload_n 0, 1) := by decide +kernel
theorem d_98_101 : decode c_98 101 = .ok (.getfield 37, 3) := by decide +kernel
theorem d_98_104 : decode c_98 104 = .ok (.iload_n 1, 1) := by decide +kernel
theorem d_98_105 : decode c_98 105 = .ok (.iaload, 1) := by decide +kernel
theorem d_98_106 : decode c_98 106 = .ok (.iastore, 1) := by decide +kernel
theorem d_98_107 : decode c_98 107 = .ok (.aload_n 0, 1) := by decide +kernel
theorem d_98_108 : decode c_98 108 = .ok (.getfield 91, 3) := by decide +kernel
theorem d_98_111 : decode c_98 111 = .ok (.iload_n 1, 1) := by decide +kernel
theorem d_98_112 : decode c_98 112 = .ok (.aload_n 0, 1) := by decide +kernel
theorem d_98_113 : decode c_98 113 = .ok (.getfield 40, 3) := by decide +kernel
theorem d_98_116 : decode c_98 116 = .ok (.iload_n 1, 1) := by decide +kernel
theorem d_98_117 : decode c_98 117 = .ok (.iaload, 1) := by decide +kernel
theorem d_98_118 : decode c_98 118 = .ok (.iastore, 1) := by decide +kernel
theorem d_98_119 : decode c_98 119 = .ok (.aload_n 0, 1) := by decide +kernel
theorem d_98_120 : decode c_98 120 = .ok (.getfield 94, 3) := by decide +kernel
theorem d_98_123 : decode c_98 123 = .ok (.iload_n 1, 1) := by decide +kernel
theorem d_98_124 : decode c_98 124 = .ok (.aload_n 0, 1) := by decide +kernel
theorem d_98_125 : decode c_98 125 = .ok (.getfield 43, 3) := by decide +kernel
theorem d_98_128 : decode c_98 128 = .ok (.iload_n 1, 1) := by decide +kernel
theorem d_98_129 : decode c_98 129 = .ok (.iaload, 1) := by decide +kernel
theorem d_98_130 : decode c_98 130 = .ok (.iastore, 1) := by decide +kernel
theorem d_98_131 : decode c_98 131 = .ok (.aload_n 0, 1) := by decide +kernel
theorem d_98_132 : decode c_98 132 = .ok (.getfield 97, 3) := by decide +kernel
theorem d_98_135 : decode c_98 135 = .ok (.iload_n 1, 1) := by decide +kernel
theorem d_98_136 : decode c_98 136 = .ok (.aload_n 0, 1) := by decide +kernel
theorem d_98_137 : decode c_98 137 = .ok (.getfield 46, 3) := by decide +kernel
theorem d_98_140 : decode c_98 140 = .ok (.iload_n 1, 1) := by decide +kernel
theorem d_98_141 : decode c_98 141 = .ok (.iaload, 1) := by decide +kernel
theorem d_98_142 : decode c_98 142 = .ok (.iastore, 1) := by decide +kernel
theorem d_98_143 : decode c_98 143 = .ok (.aload_n 0, 1) := by decide +kernel
theorem d_98_144 : decode c_98 144 = .ok (.getfield 100, 3) := by decide +kernel
theorem d_98_147 : decode c_98 147 = .ok (.iload_n 1, 1) := by decide +kernel
theorem d_98_148 : decode c_98 148 = .ok (.aload_n 0, 1) := by decide +kernel
theorem d_98_149 : decode c_98 149 = .ok (.getfield 49, 3) := by decide +kernel
theorem d_98_152 : decode c_98 152 = .ok (.iload_n 1, 1) := by decide +kernel
theorem d_98_153 : decode c_98 153 = .ok (.iaload, 1) := by decide +kernel
theorem d_98_154 : decode c_98 154 = .ok (.iastore, 1) := by decide +kernel
theorem d_98_155 : decode c_98 155 = .ok (.aload_n 0, 1) := by decide +kernel
theorem d_98_156 : decode c_98 156 = .ok (.getfield 103, 3) := by decide +kernel
theorem d_98_159 : decode c_98 159 = .ok (.iload_n 1, 1) := by decide +kernel
theorem d_98_160 : decode c_98 160 = .ok (.aload_n 0, 1) := by decide +kernel
theorem d_98_161 : decode c_98 161 = .ok (.getfield 52, 3) := by decide +kernel
theorem d_98_164 : decode c_98 164 = .ok (.iload_n 1, 1) := by decide +kernel
theorem d_98_165 : decode c_98 165 = .ok (.iaload, 1) := by decide +kernel
theorem d_98_166 : decode c_98 166 = .ok (.iastore, 1) := by decide +kernel
theorem d_98_167 : decode c_98 167 = .ok (.iinc 1 1, 3) := by decide +kernel
theorem d_98_170 : decode c_98 170 = .ok (.goto (-155), 3) := by decide +kernel
theorem d_98_173 : decode c_98 173 = .ok (.iconst 0, 1) := by decide +kernel
theorem d_98_174 : decode c_98 174 = .ok (.istore_n 1, 1) := by decide +kernel
theorem d_98_175 : decode c_98 175 = .ok (.iload_n 1, 1) := by decide +kernel
theorem d_98_176 : decode c_98 176 = .ok (.aload_n 0, 1) := by decide +kernel
theorem d_98_177 : decode c_98 177 = .ok (.getfield 258, 3) := by decide +kernel
theorem d_98_180 : decode c_98 180 = .ok (.if_icmp .ge 45, 3) := by decide +kernel
theorem d_98_183 : decode c_98 183 = .ok (.aload_n 0, 1) := by decide +kernel
theorem d_98_184 : decode c_98 184 = .ok (.getfield 106, 3) := by decide +kernel
theorem d_98_187 : decode c_98 187 = .ok (.iload_n 1, 1) := by decide +kernel
theorem d_98_188 : decode c_98 188 = .ok (.aload_n 0, 1) := by decide +kernel
theorem d_98_189 : decode c_98 189 = .ok (.getfield 55, 3) := by decide +kernel
theorem d_98_192 : decode c_98 192 = .ok (.iload_n 1, 1) := by decide +kernel
theorem d_98_193 : decode c_98 193 = .ok (.iaload, 1) := by decide +kernel
theorem d_98_194 : decode c_98 194 = .ok (.iastore, 1) := by decide +kernel
theorem d_98_195 : decode c_98 195 = .ok (.aload_n 0, 1) := by decide +kernel
theorem d_98_196 : decode c_98 196 = .ok (.getfield 109, 3) := by decide +kernel
theorem d_98_199 : decode c_98 199 = .ok (.iload_n 1, 1) := by decide +kernel
theorem d_98_200 : decode c_98 200 = .ok (.aload_n 0, 1) := by decide +kernel
theorem d_98_201 : decode c_98 201 = .ok (.getfield 58, 3) := by decide +kernel
theorem d_98_204 : decode c_98 204 = .ok (.iload_n 1, 1) := by decide +kernel
theorem d_98_205 : decode c_98 205 = .ok (.iaload, 1) := by decide +kernel
theorem d_98_206 : decode c_98 206 = .ok (.iastore, 1) := by decide +kernel
theorem d_98_207 : decode c_98 207 = .ok (.aload_n 0, 1) := by decide +kernel
theorem d_98_208 : decode c_98 208 = .ok (.getfield 112, 3) := by decide +kernel
theorem d_98_211 : decode c_98 211 = .ok (.iload_n 1, 1) := by decide +kernel
theorem d_98_212 : decode c_98 212 = .ok (.aload_n 0, 1) := by decide +kernel
theorem d_98_213 : decode c_98 213 = .ok (.getfield 61, 3) := by decide +kernel
theorem d_98_216 : decode c_98 216 = .ok (.iload_n 1, 1) := by decide +kernel
theorem d_98_217 : decode c_98 217 = .ok (.iaload, 1) := by decide +kernel
theorem d_98_218 : decode c_98 218 = .ok (.iastore, 1) := by decide +kernel
theorem d_98_219 : decode c_98 219 = .ok (.iinc 1 1, 3) := by decide +kernel
theorem d_98_222 : decode c_98 222 = .ok (.goto (-47), 3) := by decide +kernel
theorem d_98_225 : decode c_98 225 = .ok (.iconst 0, 1) := by decide +kernel
theorem d_98_226 : decode c_98 226 = .ok (.istore_n 1, 1) := by decide +kernel
theorem d_98_227 : decode c_98 227 = .ok (.iload_n 1, 1) := by decide +kernel
theorem d_98_228 : decode c_98 228 = .ok (.aload_n 0, 1) := by decide +kernel
theorem d_98_229 : decode c_98 229 = .ok (.getfield 214, 3) := by decide +kernel
theorem d_98_232 : decode c_98 232 = .ok (.if_icmp .ge 21, 3) := by decide +kernel
theorem d_98_235 : decode c_98 235 = .ok (.aload_n 0, 1) := by decide +kernel
theorem d_98_236 : decode c_98 236 = .ok (.getfield 115, 3) := by decide +kernel
theorem d_98_239 : decode c_98 239 = .ok (.iload_n 1, 1) := by decide +kernel
theorem d_98_240 : decode c_98 240 = .ok (.aload_n 0, 1) := by decide +kernel
theorem d_98_241 : decode c_98 241 = .ok (.getfield 64, 3) := by decide +kernel
theorem d_98_244 : decode c_98 244 = .ok (.iload_n 1, 1) := by decide +kernel
theorem d_98_245 : decode c_98 245 = .ok (.iaload, 1) := by decide +kernel
theorem d_98_246 : decode c_98 246 = .ok (.iastore, 1) := by decide +kernel
theorem d_98_247 : decode c_98 247 = .ok (.iinc 1 1, 3) := by decide +kernel
theorem d_98_250 : decode c_98 250 = .ok (.goto (-23), 3) := by decide +kernel
theorem d_98_253 : decode c_98 253 = .ok (.iconst 0, 1) := by decide +kernel
theorem d_98_254 : decode c_98 254 = .ok (.istore_n 1, 1) := by decide +kernel
theorem d_98_255 : decode c_98 255 = .ok (.iload_n 1, 1) := by decide +kernel
theorem d_98_256 : decode c_98 256 = .ok (.aload_n 0, 1) := by decide +kernel
theorem d_98_257 : decode c_98 257 = .ok (.getfield 221, 3) := by decide +kernel
theorem d_98_260 : decode c_98 260 = .ok (.if_icmp .gt 21, 3) := by decide +kernel
theorem d_98_263 : decode c_98 263 = .ok (.aload_n 0, 1) := by decide +kernel
theorem d_98_264 : decode c_98 264 = .ok (.getfield 118, 3) := by decide +kernel
theorem d_98_267 : decode c_98 267 = .ok (.iload_n 1, 1) := by decide +kernel
theorem d_98_268 : decode c_98 268 = .ok (.aload_n 0, 1) := by decide +kernel
theorem d_98_269 : decode c_98 269 = .ok (.getfield 67, 3) := by decide +kernel
theorem d_98_272 : decode c_98 272 = .ok (.iload_n 1, 1) := by decide +kernel
theorem d_98_273 : decode c_98 273 = .ok (.iaload, 1) := by decide +kernel
theorem d_98_274 : decode c_98 274 = .ok (.iastore, 1) := by decide +kernel
theorem d_98_275 : decode c_98 275 = .ok (.iinc 1 1, 3) := by decide +kernel
theorem d_98_278 : decode c_98 278 = .ok (.goto (-23), 3) := by decide +kernel
theorem d_98_281 : decode c_98 281 = .ok (.return_, 1) := by decide +kernel
theorem d_99_0 : decode c_99 0 = .ok (.aload_n 0, 1) := by decide +kernel
theorem d_99_1 : decode c_99 1 = .ok (.getfield 121, 3) := by decide +kernel
theorem d_99_4 : decode c_99 4 = .ok (.iload_n 1, 1) := by decide +kernel
theorem d_99_5 : decode c_99 5 = .ok (.aload_n 0, 1) := by decide +kernel
theorem d_99_6 : decode c_99 6 = .ok (.getfield 313, 3) := by decide +kernel
theorem d_99_9 : decode c_99 9 = .ok (.iastore, 1) := by decide +kernel
theorem d_99_10 : decode c_99 10 = .ok (.iconst 0, 1) := by decide +kernel
theorem d_99_11 : decode c_99 11 = .ok (.istore_n 2, 1) := by decide +kernel
theorem d_99_12 : decode c_99 12 = .ok (.iload_n 2, 1) := by decide +kernel
theorem d_99_13 : decode c_99 13 = .ok (.aload_n 0, 1) := by decide +kernel
theorem d_99_14 : decode c_99 14 = .ok (.getfield 313, 3) := by decide +kernel
theorem d_99_17 : decode c_99 17 = .ok (.if_icmp .ge 26, 3) := by decide +kernel
theorem d_99_20 : decode c_99 20 = .ok (.aload_n 0, 1) := by decide +kernel
theorem d_99_21 : decode c_99 21 = .ok (.getfield 124, 3) := by decide +kernel
theorem d_99_24 : decode c_99 24 = .ok (.bipush 120, 2) := by decide +kernel
theorem d_99_26 : decode c_99 26 = .ok (.iload_n 1, 1) := by decide +kernel
theorem d_99_27 : decode c_99 27 = .ok (.imul, 1) := by decide +kernel
theorem d_99_28 : decode c_99 28 = .ok (.iload_n 2, 1) := by decide +kernel
theorem d_99_29 : decode c_99 29 = .ok (.iadd, 1) := by decide +kernel
theorem d_99_30 : decode c_99 30 = .ok (.aload_n 0, 1) := by decide +kernel
theorem d_99_31 : decode c_99 31 = .ok (.getfield 73, 3) := by decide +kernel
theorem d_99_34 : decode c_99 34 = .ok (.iload_n 2, 1) := by decide +kernel
theorem d_99_35 : decode c_99 35 = .ok (.iaload, 1) := by decide +kernel
theorem d_99_36 : decode c_99 36 = .ok (.iastore, 1) := by decide +kernel
theorem d_99_37 : decode c_99 37 = .ok (.iinc 2 1, 3) := by decide +kernel
theorem d_99_40 : decode c_99 40 = .ok (.goto (-28), 3) := by decide +kernel
theorem d_99_43 : decode c_99 43 = .ok (.iconst 0, 1) := by decide +kernel
theorem d_99_44 : decode c_99 44 = .ok (.istore_n 2, 1) := by decide +kernel
theorem d_99_45 : decode c_99 45 = .ok (.iload_n 2, 1) := by decide +kernel
theorem d_99_46 : decode c_99 46 = .ok (.aload_n 0, 1) := by decide +kernel
theorem d_99_47 : decode c_99 47 = .ok (.getfield 313, 3) := by decide +kernel
theorem d_99_50 : decode c_99 50 = .ok (.if_icmp .gt 26, 3) := by decide +kernel
theorem d_99_53 : decode c_99 53 = .ok (.aload_n 0, 1) := by decide +kernel
theorem d_99_54 : decode c_99 54 = .ok (.getfield 127, 3) := by decide +kernel
theorem d_99_57 : decode c_99 57 = .ok (.bipush 121, 2) := by decide +kernel
theorem d_99_59 : decode c_99 59 = .ok (.iload_n 1, 1) := by decide +kernel
theorem d_99_60 : decode c_99 60 = .ok (.imul, 1) := by decide +kernel
theorem d_99_61 : decode c_99 61 = .ok (.iload_n 2, 1) := by decide +kernel
theorem d_99_62 : decode c_99 62 = .ok (.iadd, 1) := by decide +kernel
theorem d_99_63 : decode c_99 63 = .ok (.aload_n 0, 1) := by decide +kernel
theorem d_99_64 : decode c_99 64 = .ok (.getfield 118, 3) := by decide +kernel
theorem d_99_67 : decode c_99 67 = .ok (.iload_n 2, 1) := by decide +kernel
theorem d_99_68 : decode c_99 68 = .ok (.iaload, 1) := by decide +kernel
theorem d_99_69 : decode c_99 69 = .ok (.iastore, 1) := by decide +kernel
theorem d_99_70 : decode c_99 70 = .ok (.iinc 2 1, 3) := by decide +kernel
theorem d_99_73 : decode c_99 73 = .ok (.goto (-28), 3) := by decide +kernel
theorem d_99_76 : decode c_99 76 = .ok (.iconst 0, 1) := by decide +kernel
theorem d_99_77 : decode c_99 77 = .ok (.istore_n 2, 1) := by decide +kernel
theorem d_99_78 : decode c_99 78 = .ok (.iload_n 2, 1) := by decide +kernel
theorem d_99_79 : decode c_99 79 = .ok (.aload_n 0, 1) := by decide +kernel
theorem d_99_80 : decode c_99 80 = .ok (.getfield 118, 3) := by decide +kernel
theorem d_99_83 : decode c_99 83 = .ok (.aload_n 0, 1) := by decide +kernel
theorem d_99_84 : decode c_99 84 = .ok (.getfield 313, 3) := by decide +kernel
theorem d_99_87 : decode c_99 87 = .ok (.iaload, 1) := by decide +kernel
theorem d_99_88 : decode c_99 88 = .ok (.if_icmp .ge 27, 3) := by decide +kernel
theorem d_99_91 : decode c_99 91 = .ok (.aload_n 0, 1) := by decide +kernel
theorem d_99_92 : decode c_99 92 = .ok (.getfield 131, 3) := by decide +kernel
theorem d_99_95 : decode c_99 95 = .ok (.sipush 6000, 3) := by decide +kernel
theorem d_99_98 : decode c_99 98 = .ok (.iload_n 1, 1) := by decide +kernel
theorem d_99_99 : decode c_99 99 = .ok (.imul, 1) := by decide +kernel
theorem d_99_100 : decode c_99 100 = .ok (.iload_n 2, 1) := by decide +kernel
theorem d_99_101 : decode c_99 101 = .ok (.iadd, 1) := by decide +kernel
theorem d_99_102 : decode c_99 102 = .ok (.aload_n 0, 1) := by decide +kernel
theorem d_99_103 : decode c_99 103 = .ok (.getfield 115, 3) := by decide +kernel
theorem d_99_106 : decode c_99 106 = .ok (.iload_n 2, 1) := by decide +kernel
theorem d_99_107 : decode c_99 107 = .ok (.iaload, 1) := by decide +kernel
theorem d_99_108 : decode c_99 108 = .ok (.iastore, 1) := by decide +kernel
theorem d_99_109 : decode c_99 109 = .ok (.iinc 2 1, 3) := by decide +kernel
theorem d_99_112 : decode c_99 112 = .ok (.goto (-34), 3) := by decide +kernel
theorem d_99_115 : decode c_99 115 = .ok (.return_, 1) := by decide +kernel
theorem d_100_0 : decode c_100 0 = .ok (.aload_n 0, 1) := by decide +kernel
theorem d_100_1 : decode c_100 1 = .ok (.getfield 70, 3) := by decide +kernel
theorem d_100_4 : decode c_100 4 = .ok (.iload_n 1, 1) := by decide +kernel
theorem d_100_5 : decode c_100 5 = .ok (.iaload, 1) := by decide +kernel
theorem d_100_6 : decode c_100 6 = .ok (.iconst 4, 1) := by decide +kernel
theorem d_100_7 : decode c_100 7 = .ok (.if_icmp .eq 13, 3) := by decide +kernel
theorem d_100_10 : decode c_100 10 = .ok (.aload_n 0, 1) := by decide +kernel
theorem d_100_11 : decode c_100 11 = .ok (.getfield 70, 3) := by decide +kernel
theorem d_100_14 : decode c_100 14 = .ok (.iload_n 1, 1) := by decide +kernel
theorem d_100_15 : decode c_100 15 = .ok (.iaload, 1) := by decide +kernel
theorem d_100_16 : decode c_100 16 = .ok (.iconst 5, 1) := by decide +kernel
theorem d_100_17 : decode c_100 17 = .ok (.if_icmp .ne 7, 3) := by decide +kernel
theorem d_100_20 : decode c_100 20 = .ok (.iconst 1, 1) := by decide +kernel
theorem d_100_21 : decode c_100 21 = .ok (.goto 4, 3) := by decide +kernel
theorem d_100_24 : decode c_100 24 = .ok (.iconst 0, 1) := by decide +kernel
theorem d_100_25 : decode c_100 25 = .ok (.ireturn, 1) := by decide +kernel
theorem d_101_0 : decode c_101 0 = .ok (.aload_n 0, 1) := by decide +kernel
theorem d_101_1 : decode c_101 1 = .ok (.getfield 70, 3) := by decide +kernel
theorem d_101_4 : decode c_101 4 = .ok (.iload_n 1, 1) := by decide +kernel
theorem d_101_5 : decode c_101 5 = .ok (.iaload, 1) := by decide +kernel
theorem d_101_6 : decode c_101 6 = .ok (.bipush 7, 2) := by decide +kernel
theorem d_101_8 : decode c_101 8 = .ok (.if_icmp .eq 14, 3) := by decide +kernel
theorem d_101_11 : decode c_101 11 = .ok (.aload_n 0, 1) := by decide +kernel
theorem d_101_12 : decode c_101 12 = .ok (.getfield 70, 3) := by decide +kernel
theorem d_101_15 : decode c_101 15 = .ok (.iload_n 1, 1) := by decide +kernel
theorem d_101_16 : decode c_101 16 = .ok (.iaload, 1) := by decide +kernel
theorem d_101_17 : decode c_101 17 = .ok (.bipush 8, 2) := by decide +kernel
theorem d_101_19 : decode c_101 19 = .ok (.if_icmp .ne 7, 3) := by decide +kernel
theorem d_101_22 : decode c_101 22 = .ok (.iconst 1, 1) := by decide +kernel
theorem d_101_23 : decode c_101 23 = .ok (.goto 4, 3) := by decide +kernel
theorem d_101_26 : decode c_101 26 = .ok (.iconst 0, 1) := by decide +kernel
theorem d_101_27 : decode c_101 27 = .ok (.ireturn, 1) := by decide +kernel
theorem d_102_0 : decode c_102 0 = .ok (.iload_n 2, 1) := by decide +kernel
theorem d_102_1 : decode c_102 1 = .ok (.tableswitch 179 0 8 #[51, 67, 83, 99, 105, 111, 128, 145, 162], 51) := by decide +kernel
theorem d_102_52 : decode c_102 52 = .ok (.aload_n 0, 1) := by decide +kernel
theorem d_102_53 : decode c_102 53 = .ok (.getfield 70, 3) := by decide +kernel
theorem d_102_56 : decode c_102 56 = .ok (.iload_n 1, 1) := by decide +kernel
theorem d_102_57 : decode c_102 57 = .ok (.iaload, 1) := by decide +kernel
theorem d_102_58 : decode c_102 58 = .ok (.iconst 1, 1) := by decide +kernel
theorem d_102_59 : decode c_102 59 = .ok (.if_icmp .ne 7, 3) := by decide +kernel
theorem d_102_62 : decode c_102 62 = .ok (.iconst 1, 1) := by decide +kernel
theorem d_102_63 : decode c_102 63 = .ok (.goto 4, 3) := by decide +kernel
theorem d_102_66 : decode c_102 66 = .ok (.iconst 0, 1) := by decide +kernel
theorem d_102_67 : decode c_102 67 = .ok (.ireturn, 1) := by decide +kernel
theorem d_102_68 : decode c_102 68 = .ok (.aload_n 0, 1) := by decide +kernel
theorem d_102_69 : decode c_102 69 = .ok (.getfield 70, 3) := by decide +kernel
theorem d_102_72 : decode c_102 72 = .ok (.iload_n 1, 1) := by decide +kernel
theorem d_102_73 : decode c_102 73 = .ok (.iaload, 1) := by decide +kernel
theorem d_102_74 : decode c_102 74 = .ok (.iconst 2, 1) := by decide +kernel
theorem d_102_75 : decode c_102 75 = .ok (.if_icmp .ne 7, 3) := by decide +kernel
theorem d_102_78 : decode c_102 78 = .ok (.iconst 1, 1) := by decide +kernel
theorem d_102_79 : decode c_102 79 = .ok (.goto 4, 3) := by decide +kernel
theorem d_102_82 : decode c_102 82 = .ok (.iconst 0, 1) := by decide +kernel
theorem d_102_83 : decode c_102 83 = .ok (.ireturn, 1) := by decide +kernel
theorem d_102_84 : decode c_102 84 = .ok (.aload_n 0, 1) := by decide +kernel
theorem d_102_85 : decode c_102 85 = .ok (.getfield 70, 3) := by decide +kernel
theorem d_102_88 : decode c_102 88 = .ok (.iload_n 1, 1) := by decide +kernel
theorem d_102_89 : decode c_102 89 = .ok (.iaload, 1) := by decide +kernel
theorem d_102_90 : decode c_102 90 = .ok (.iconst 3, 1) := by decide +kernel
theorem d_102_91 : decode c_102 91 = .ok (.if_icmp .ne 7, 3) := by decide +kernel
theorem d_102_94 : decode c_102 94 = .ok (.iconst 1, 1) := by decide +kernel
theorem d_102_95 : decode c_102 95 = .ok (.goto 4, 3) := by decide +kernel
theorem d_102_98 : decode c_102 98 = .ok (.iconst 0, 1) := by decide +kernel
theorem d_102_99 : decode c_102 99 = .ok (.ireturn, 1) := by decide +kernel
theorem d_102_100 : decode c_102 100 = .ok (.aload_n 0, 1) := by decide +kernel
theorem d_102_101 : decode c_102 101 = .ok (.iload_n 1, 1) := by decide +kernel
theorem d_102_102 : decode c_102 102 = .ok (.invokevirtual 316, 3) := by decide +kernel
theorem d_102_105 : decode c_102 105 = .ok (.ireturn, 1) := by decide +kernel
theorem d_102_106 : decode c_102 106 = .ok (.aload_n 0, 1) := by decide +kernel
theorem d_102_107 : decode c_102 107 = .ok (.iload_n 1, 1) := by decide +kernel
theorem d_102_108 : decode c_102 108 = .ok (.invokevirtual 319, 3) := by decide +kernel
theorem d_102_111 : decode c_102 111 = .ok (.ireturn, 1) := by decide +kernel
theorem d_102_112 : decode c_102 112 = .ok (.aload_n 0, 1) := by decide +kernel
theorem d_102_113 : decode c_102 113 = .ok (.getfield 70, 3) := by decide +kernel
theorem d_102_116 : decode c_102 116 = .ok (.iload_n 1, 1) := by decide +kernel
theorem d_102_117 : decode c_102 117 = .ok (.iaload, 1) := by decide +kernel
theorem d_102_118 : decode c_102 118 = .ok (.bipush 10, 2) := by decide +kernel
theorem d_102_120 : decode c_102 120 = .ok (.if_icmp .ne 7, 3) := by decide +kernel
theorem d_102_123 : decode c_102 123 = .ok (.iconst 1, 1) := by decide +kernel
theorem d_102_124 : decode c_102 124 = .ok (.goto 4, 3) := by decide +kernel
theorem d_102_127 : decode c_102 127 = .ok (.iconst 0, 1) := by decide +kernel
theorem d_102_128 : decode c_102 128 = .ok (.ireturn, 1) := by decide +kernel
theorem d_102_129 : decode c_102 129 = .ok (.aload_n 0, 1) := by decide +kernel
theorem d_102_130 : decode c_102 130 = .ok (.getfield 70, 3) := by decide +kernel
theorem d_102_133 : decode c_102 133 = .ok (.iload_n 1, 1) := by decide +kernel
theorem d_102_134 : decode c_102 134 = .ok (.iaload, 1) := by decide +kernel
theorem d_102_135 : decode c_102 135 = .ok (.bipush 9, 2) := by decide +kernel
theorem d_102_137 : decode c_102 137 = .ok (.if_icmp .ne 7, 3) := by decide +kernel
theorem d_102_140 : decode c_102 140 = .ok (.iconst 1, 1) := by decide +kernel
theorem d_102_141 : decode c_102 141 = .ok (.goto 4, 3) := by decide +kernel
theorem d_102_144 : decode c_102 144 = .ok (.iconst 0, 1) := by decide +kernel
theorem d_102_145 : decode c_102 145 = .ok (.ireturn, 1) := by decide +kernel
theorem d_102_146 : decode c_102 146 = .ok (.aload_n 0, 1) := by decide +kernel
theorem d_102_147 : decode c_102 147 = .ok (.getfield 70, 3) := by decide +kernel
theorem d_102_150 : decode c_102 150 = .ok (.iload_n 1, 1) := by decide +kernel
theorem d_102_151 : decode c_102 151 = .ok (.iaload, 1) := by decide +kernel
theorem d_102_152 : decode c_102 152 = .ok (.bipush 11, 2) := by decide +kernel
theorem d_102_154 : decode c_102 154 = .ok (.if_icmp .ne 7, 3) := by decide +kernel
theorem d_102_157 : decode c_102 157 = .ok (.iconst 1, 1) := by decide +kernel
theorem d_102_158 : decode c_102 158 = .ok (.goto 4, 3) := by decide +kernel
theorem d_102_161 : decode c_102 161 = .ok (.iconst 0, 1) := by decide +kernel
theorem d_102_162 : decode c_102 162 = .ok (.ireturn, 1) := by decide +kernel
theorem d_102_163 : decode c_102 163 = .ok (.aload_n 0, 1) := by decide +kernel
theorem d_102_164 : decode c_102 164 = .ok (.getfield 70, 3) := by decide +kernel
theorem d_102_167 : decode c_102 167 = .ok (.iload_n 1, 1) := by decide +kernel
theorem d_102_168 : decode c_102 168 = .ok (.iaload, 1) := by decide +kernel
theorem d_102_169 : decode c_102 169 = .ok (.bipush 12, 2) := by decide +kernel
theorem d_102_171 : decode c_102 171 = .ok (.if_icmp .ne 7, 3) := by decide +kernel
theorem d_102_174 : decode c_102 174 = .ok (.iconst 1, 1) := by decide +kernel
theorem d_102_175 : decode c_102 175 = .ok (.goto 4, 3) := by decide +kernel
theorem d_102_178 : decode c_102 178 = .ok (.iconst 0, 1) := by decide +kernel
theorem d_102_179 : decode c_102 179 = .ok (.ireturn, 1) := by decide +kernel
theorem d_102_180 : decode c_102 180 = .ok (.aload_n 0, 1) := by decide +kernel
theorem d_102_181 : decode c_102 181 = .ok (.getfield 70, 3) := by decide +kernel
theorem d_102_184 : decode c_102 184 = .ok (.iload_n 1, 1) := by decide +kernel
theorem d_102_185 : decode c_102 185 = .ok (.iaload, 1) := by decide +kernel
theorem d_102_186 : decode c_102 186 = .ok (.bipush 6, 2) := by decide +kernel
theorem d_102_188 : decode c_102 188 = .ok (.if_icmp .ne 7, 3) := by decide +kernel
theorem d_102_191 : decode c_102 191 = .ok (.iconst 1, 1) := by decide +kernel
theorem d_102_192 : decode c_102 192 = .ok (.goto 4, 3) := by decide +kernel
theorem d_102_195 : decode c_102 195 = .ok (.iconst 0, 1) := by decide +kernel
theorem d_102_196 : decode c_102 196 = .ok (.ireturn, 1) := by decide +kernel
theorem d_103_0 : decode c_103 0 = .ok (.iconst 0, 1) := by decide +kernel
theorem d_103_1 : decode c_103 1 = .ok (.istore_n 3, 1) := by decide +kernel
theorem d_103_2 : decode c_103 2 = .ok (.iconst 0, 1) := by decide +kernel
theorem d_103_3 : decode c_103 3 = .ok (.istore 4, 2) := by decide +kernel
theorem d_103_5 : decode c_103 5 = .ok (.iload 4, 2) := by decide +kernel
theorem d_103_7 : decode c_103 7 = .ok (.aload_n 0, 1) := by decide +kernel
theorem d_103_8 : decode c_103 8 = .ok (.getfield 313, 3) := by decide +kernel
theorem d_103_11 : decode c_103 11 = .ok (.if_icmp .ge 44, 3) := by decide +kernel
theorem d_103_14 : decode c_103 14 = .ok (.iload_n 3, 1) := by decide +kernel
theorem d_103_15 : decode c_103 15 = .ok (.aload_n 0, 1) := by decide +kernel
theorem d_103_16 : decode c_103 16 = .ok (.iload 4, 2) := by decide +kernel
theorem d_103_18 : decode c_103 18 = .ok (.iload_n 1, 1) := by decide +kernel
theorem d_103_19 : decode c_103 19 = .ok (.invokevirtual 325, 3) := by decide +kernel
theorem d_103_22 : decode c_103 22 = .ok (.ifCond .eq 24, 3) := by decide +kernel
theorem d_103_25 : decode c_103 25 = .ok (.iload_n 1, 1) := by decide +kernel
theorem d_103_26 : decode c_103 26 = .ok (.bipush 8, 2) := by decide +kernel
theorem d_103_28 : decode c_103 28 = .ok (.if_icmp .eq 14, 3) := by decide +kernel
theorem d_103_31 : decode c_103 31 = .ok (.aload_n 0, 1) := by decide +kernel
theorem d_103_32 : decode c_103 32 = .ok (.getfield 73, 3) := by decide +kernel
theorem d_103_35 : decode c_103 35 = .ok (.iload 4, 2) := by decide +kernel
theorem d_103_37 : decode c_103 37 = .ok (.iaload, 1) := by decide +kernel
theorem d_103_38 : decode c_103 38 = .ok (.iload_n 2, 1) := by decide +kernel
theorem d_103_39 : decode c_103 39 = .ok (.if_icmp .ne 7, 3) := by decide +kernel
theorem d_103_42 : decode c_103 42 = .ok (.iconst 1, 1) := by decide +kernel
theorem d_103_43 : decode c_103 43 = .ok (.goto 4, 3) := by decide +kernel
theorem d_103_46 : decode c_103 46 = .ok (.iconst 0, 1) := by decide +kernel
theorem d_103_47 : decode c_103 47 = .ok (.iadd, 1) := by decide +kernel
theorem d_103_48 : decode c_103 48 = .ok (.istore_n 3, 1) := by decide +kernel
theorem d_103_49 : decode c_103 49 = .ok (.iinc 4 1, 3) := by decide +kernel
theorem d_103_52 : decode c_103 52 = .ok (.goto (-47), 3) := by decide +kernel
theorem d_103_55 : decode c_103 55 = .ok (.iload_n 3, 1) := by decide +kernel
theorem d_103_56 : decode c_103 56 = .ok (.ireturn, 1) := by decide +kernel
theorem d_104_0 : decode c_104 0 = .ok (.aload_n 0, 1) := by decide +kernel
theorem d_104_1 : decode c_104 1 = .ok (.iconst 3, 1) := by decide +kernel
theorem d_104_2 : decode c_104 2 = .ok (.iconst (-1), 1) := by decide +kernel
theorem d_104_3 : decode c_104 3 = .ok (.invokevirtual 322, 3) := by decide +kernel
theorem d_104_6 : decode c_104 6 = .ok (.ireturn, 1) := by decide +kernel
theorem d_105_0 : decode c_105 0 = .ok (.aload_n 0, 1) := by decide +kernel
theorem d_105_1 : decode c_105 1 = .ok (.iconst 0, 1) := by decide +kernel
theorem d_105_2 : decode c_105 2 = .ok (.putfield 142, 3) := by decide +kernel
theorem d_105_5 : decode c_105 5 = .ok (.aload_n 0, 1) := by decide +kernel
theorem d_105_6 : decode c_105 6 = .ok (.iconst 1, 1) := by decide +kernel
theorem d_105_7 : decode c_105 7 = .ok (.putfield 188, 3) := by decide +kernel
theorem d_105_10 : decode c_105 10 = .ok (.aload_n 0, 1) := by decide +kernel
theorem d_105_11 : decode c_105 11 = .ok (.iconst 1, 1) := by decide +kernel
theorem d_105_12 : decode c_105 12 = .ok (.putfield 236, 3) := by decide +kernel
theorem d_105_15 : decode c_105 15 = .ok (.aload_n 0, 1) := by decide +kernel
theorem d_105_16 : decode c_105 16 = .ok (.iconst 0, 1) := by decide +kernel
theorem d_105_17 : decode c_105 17 = .ok (.putfield 181, 3) := by decide +kernel
theorem d_105_20 : decode c_105 20 = .ok (.aload_n 0, 1) := by decide +kernel
theorem d_105_21 : decode c_105 21 = .ok (.iconst 0, 1) := by decide +kernel
theorem d_105_22 : decode c_105 22 = .ok (.putfield 221, 3) := by decide +kernel
theorem d_105_25 : decode c_105 25 = .ok (.aload_n 0, 1) := by decide +kernel
theorem d_105_26 : decode c_105 26 = .ok (.iconst 0, 1) := by decide +kernel
theorem d_105_27 : decode c_105 27 = .ok (.putfield 258, 3) := by decide +kernel
theorem d_105_30 : decode c_105 30 = .ok (.aload_n 0, 1) := by decide +kernel
theorem d_105_31 : decode c_105 31 = .ok (.iconst 0, 1) := by decide +kernel
theorem d_105_32 : decode c_105 32 = .ok (.putfield 214, 3) := by decide +kernel
theorem d_105_35 : decode c_105 35 = .ok (.aload_n 0, 1) := by decide +kernel
theorem d_105_36 : decode c_105 36 = .ok (.iconst (-1), 1) := by decide +kernel
theorem d_105_37 : decode c_105 37 = .ok (.putfield 255, 3) := by decide +kernel
theorem d_105_40 : decode c_105 40 = .ok (.aload_n 0, 1) := by decide +kernel
theorem d_105_41 : decode c_105 41 = .ok (.invokevirtual 233, 3) := by decide +kernel
theorem d_105_44 : decode c_105 44 = .ok (.aload_n 0, 1) := by decide +kernel
theorem d_105_45 : decode c_105 45 = .ok (.getfield 236, 3) := by decide +kernel
theorem d_105_48 : decode c_105 48 = .ok (.ifCond .eq 17, 3) := by decide +kernel
theorem d_105_51 : decode c_105 51 = .ok (.aload_n 0, 1) := by decide +kernel
theorem d_105_52 : decode c_105 52 = .ok (.getfield 194, 3) := by decide +kernel
theorem d_105_55 : decode c_105 55 = .ok (.ifCond .eq 10, 3) := by decide +kernel
theorem d_105_58 : decode c_105 58 = .ok (.aload_n 0, 1) := by decide +kernel
theorem d_105_59 : decode c_105 59 = .ok (.invokevirtual 295, 3) := by decide +kernel
theorem d_105_62 : decode c_105 62 = .ok (.goto (-18), 3) := by decide +kernel
theorem d_105_65 : decode c_105 65 = .ok (.aload_n 0, 1) := by decide +kernel
theorem d_105_66 : decode c_105 66 = .ok (.getfield 191, 3) := by decide +kernel
theorem d_105_69 : decode c_105 69 = .ok (.istore_n 1, 1) := by decide +kernel
theorem d_105_70 : decode c_105 70 = .ok (.aload_n 0, 1) := by decide +kernel
theorem d_105_71 : decode c_105 71 = .ok (.iconst 0, 1) := by decide +kernel
theorem d_105_72 : decode c_105 72 = .ok (.putfield 138, 3) := by decide +kernel
theorem d_105_75 : decode c_105 75 = .ok (.aload_n 0, 1) := by decide +kernel
theorem d_105_76 : decode c_105 76 = .ok (.getfield 236, 3) := by decide +kernel
theorem d_105_79 : decode c_105 79 = .ok (.ifCond .ne 6, 3) := by decide +kernel
theorem d_105_82 : decode c_105 82 = .ok (.iload_n 1, 1) := by decide +kernel
theorem d_105_83 : decode c_105 83 = .ok (.ineg, 1) := by decide +kernel
theorem d_105_84 : decode c_105 84 = .ok (.ireturn, 1) := by decide +kernel
theorem d_105_85 : decode c_105 85 = .ok (.aload_n 0, 1) := by decide +kernel
theorem d_105_86 : decode c_105 86 = .ok (.getfield 67, 3) := by decide +kernel
theorem d_105_89 : decode c_105 89 = .ok (.aload_n 0, 1) := by decide +kernel
theorem d_105_90 : decode c_105 90 = .ok (.getfield 221, 3) := by decide +kernel
theorem d_105_93 : decode c_105 93 = .ok (.aload_n 0, 1) := by decide +kernel
theorem d_105_94 : decode c_105 94 = .ok (.getfield 214, 3) := by decide +kernel
theorem d_105_97 : decode c_105 97 = .ok (.iastore, 1) := by decide +kernel
theorem d_105_98 : decode c_105 98 = .ok (.aload_n 0, 1) := by decide +kernel
theorem d_105_99 : decode c_105 99 = .ok (.invokevirtual 298, 3) := by decide +kernel
theorem d_105_102 : decode c_105 102 = .ok (.aload_n 0, 1) := by decide +kernel
theorem d_105_103 : decode c_105 103 = .ok (.dup, 1) := by decide +kernel
theorem d_105_104 : decode c_105 104 = .ok (.getfield 301, 3) := by decide +kernel
theorem d_105_107 : decode c_105 107 = .ok (.iconst 1, 1) := by decide +kernel
theorem d_105_108 : decode c_105 108 = .ok (.iadd, 1) := by decide +kernel
theorem d_105_109 : decode c_105 109 = .ok (.putfield 301, 3) := by decide +kernel
theorem d_105_112 : decode c_105 112 = .ok (.aload_n 0, 1) := by decide +kernel
theorem d_105_113 : decode c_105 113 = .ok (.getfield 301, 3) := by decide +kernel
theorem d_105_116 : decode c_105 116 = .ok (.bipush 8, 2) := by decide +kernel
theorem d_105_118 : decode c_105 118 = .ok (.if_icmp .gt 13, 3) := by decide +kernel
theorem d_105_121 : decode c_105 121 = .ok (.aload_n 0, 1) := by decide +kernel
theorem d_105_122 : decode c_105 122 = .ok (.aload_n 0, 1) := by decide +kernel
theorem d_105_123 : decode c_105 123 = .ok (.getfield 301, 3) := by decide +kernel
theorem d_105_126 : decode c_105 126 = .ok (.iconst 1, 1) := by decide +kernel
theorem d_105_127 : decode c_105 127 = .ok (.isub, 1) := by decide +kernel
theorem d_105_128 : decode c_105 128 = .ok (.invokevirtual 304, 3) := by decide +kernel
theorem d_105_131 : decode c_105 131 = .ok (.aload_n 0, 1) := by decide +kernel
theorem d_105_132 : decode c_105 132 = .ok (.invokevirtual 307, 3) := by decide +kernel
theorem d_105_135 : decode c_105 135 = .ok (.ireturn, 1) := by decide +kernel
theorem d_106_0 : decode c_106 0 = .ok (.aload_n 0, 1) := by decide +kernel
theorem d_106_1 : decode c_106 1 = .ok (.getfield 57, 3) := by decide +kernel
theorem d_106_4 : decode c_106 4 = .ok (.ifCond .lt 15, 3) := by decide +kernel
theorem d_106_7 : decode c_106 7 = .ok (.aload_n 0, 1) := by decide +kernel
